def f_River_copyFrom (o : Nat) (p1 : Nat) (h : am_H) : Option (am_H) :=
  am_let (am_sI h o 0 (h.2.1 p1 0)) fun h1 =>
  am_let (am_sI h1 o 1 (h1.2.1 p1 1)) fun h2 =>
  am_let (am_sI h2 o 2 (h2.2.1 p1 2)) fun h3 =>
  am_let (am_sI h3 o 3 (h3.2.1 p1 3)) fun h4 =>
  am_let (am_sI h4 o 4 (h4.2.1 p1 4)) fun h5 =>
  am_let (am_sI h5 o 5 (h5.2.1 p1 5)) fun h6 =>
  (am_cp h6 (p1 + 1) 6 (0 : Int32) (o + 1) 6 (0 : Int32) (6 : Int32)).bind fun h7 =>
  (am_cp h7 (p1 + 2) 5 (0 : Int32) (o + 2) 5 (0 : Int32) (5 : Int32)).bind fun h8 =>
  (am_cp h8 (p1 + 3) 5 (0 : Int32) (o + 3) 5 (0 : Int32) (5 : Int32)).bind fun h9 =>
  (am_cp h9 (p1 + 4) 5 (0 : Int32) (o + 4) 5 (0 : Int32) (5 : Int32)).bind fun h10 =>
  (am_cp h10 (p1 + 5) 5 (0 : Int32) (o + 5) 5 (0 : Int32) (5 : Int32)).bind fun h11 =>
  (am_cp h11 (p1 + 6) 60 (0 : Int32) (o + 6) 60 (0 : Int32) (Int32.ofNat 60)).bind fun h12 =>
  (am_cp h12 (p1 + 7) 60 (0 : Int32) (o + 7) 60 (0 : Int32) (Int32.ofNat 60)).bind fun h13 =>
  (am_cp h13 (p1 + 8) 60 (0 : Int32) (o + 8) 60 (0 : Int32) (Int32.ofNat 60)).bind fun h14 =>
  some h14
set_option maxRecDepth 100000 in
set_option maxHeartbeats 4000000 in
theorem t_River_copyFrom {o : Nat} {p1 : Nat} {h : am_H} (hs : am_Sh h) (ho : o ∈ am_rvL) (hp1 : p1 ∈ am_rvL) {r : am_H} (hf : f_River_copyFrom o p1 h = some r) : am_Ct 1 M_River_copyFrom [.ref o, .ref p1] h 0 0 (am_qV r) := by
  unfold f_River_copyFrom at hf
  refine am_Ct.of (by decide) rfl (Nat.le_of_ble_eq_true rfl) (ls := [(0, .ref o), (1, .ref p1)]) rfl ?_
  refine g_aload_n (i := 0) (by decide +kernel) rfl ?_
  refine g_aload_n (i := 1) (by decide +kernel) rfl ?_
  refine x_geti (hs.k (k_Rv hp1)) F_River_9 (by decide +kernel) rfl ?_
  refine x_puti hf hs (hs.k (k_Rv ho)) F_River_9 (by decide +kernel) rfl rfl rfl rfl (fun h1 hf hs => ?_)
  refine g_aload_n (i := 0) (by decide +kernel) rfl ?_
  refine g_aload_n (i := 1) (by decide +kernel) rfl ?_
  refine x_geti (hs.k (k_Rv hp1)) F_River_15 (by decide +kernel) rfl ?_
  refine x_puti hf hs (hs.k (k_Rv ho)) F_River_15 (by decide +kernel) rfl rfl rfl rfl (fun h2 hf hs => ?_)
  refine g_aload_n (i := 0) (by decide +kernel) rfl ?_
  refine g_aload_n (i := 1) (by decide +kernel) rfl ?_
  refine x_geti (hs.k (k_Rv hp1)) F_River_18 (by decide +kernel) rfl ?_
  refine x_puti hf hs (hs.k (k_Rv ho)) F_River_18 (by decide +kernel) rfl rfl rfl rfl (fun h3 hf hs => ?_)
  refine g_aload_n (i := 0) (by decide +kernel) rfl ?_
  refine g_aload_n (i := 1) (by decide +kernel) rfl ?_
  refine x_geti (hs.k (k_Rv hp1)) F_River_21 (by decide +kernel) rfl ?_
  refine x_puti hf hs (hs.k (k_Rv ho)) F_River_21 (by decide +kernel) rfl rfl rfl rfl (fun h4 hf hs => ?_)
  refine g_aload_n (i := 0) (by decide +kernel) rfl ?_
  refine g_aload_n (i := 1) (by decide +kernel) rfl ?_
  refine x_geti (hs.k (k_Rv hp1)) F_River_24 (by decide +kernel) rfl ?_
  refine x_puti hf hs (hs.k (k_Rv ho)) F_River_24 (by decide +kernel) rfl rfl rfl rfl (fun h5 hf hs => ?_)
  refine g_aload_n (i := 0) (by decide +kernel) rfl ?_
  refine g_aload_n (i := 1) (by decide +kernel) rfl ?_
  refine x_geti (hs.k (k_Rv hp1)) F_River_27 (by decide +kernel) rfl ?_
  refine x_puti hf hs (hs.k (k_Rv ho)) F_River_27 (by decide +kernel) rfl rfl rfl rfl (fun h6 hf hs => ?_)
  refine g_aload_n (i := 1) (by decide +kernel) rfl ?_
  refine x_getr (hs.k (k_Rv hp1)) F_River_30 (by decide +kernel) rfl (hs.r (r_Rv_6 hp1)) ?_
  refine g_iconst (z := 0) (v := 0) (by decide +kernel) rfl ?_
  refine g_aload_n (i := 0) (by decide +kernel) rfl ?_
  refine x_getr (hs.k (k_Rv ho)) F_River_30 (by decide +kernel) rfl (hs.r (r_Rv_6 ho)) ?_
  refine g_iconst (z := 0) (v := 0) (by decide +kernel) rfl ?_
  refine g_bipush (z := 6) (v := 6) (by decide +kernel) rfl ?_
  refine x_copy hf hs (hs.k (k_Rv_6 hp1)) (hs.k (k_Rv_6 ho)) L_River_61 (by decide) (Nat.le_of_ble_eq_true rfl) (by decide +kernel) (fun h7 hf hs => ?_)
  refine g_aload_n (i := 1) (by decide +kernel) rfl ?_
  refine x_getr (hs.k (k_Rv hp1)) F_River_34 (by decide +kernel) rfl (hs.r (r_Rv_7 hp1)) ?_
  refine g_iconst (z := 0) (v := 0) (by decide +kernel) rfl ?_
  refine g_aload_n (i := 0) (by decide +kernel) rfl ?_
  refine x_getr (hs.k (k_Rv ho)) F_River_34 (by decide +kernel) rfl (hs.r (r_Rv_7 ho)) ?_
  refine g_iconst (z := 0) (v := 0) (by decide +kernel) rfl ?_
  refine g_iconst (z := 5) (v := 5) (by decide +kernel) rfl ?_
  refine x_copy hf hs (hs.k (k_Rv_7 hp1)) (hs.k (k_Rv_7 ho)) L_River_61 (by decide) (Nat.le_of_ble_eq_true rfl) (by decide +kernel) (fun h8 hf hs => ?_)
  refine g_aload_n (i := 1) (by decide +kernel) rfl ?_
  refine x_getr (hs.k (k_Rv hp1)) F_River_37 (by decide +kernel) rfl (hs.r (r_Rv_8 hp1)) ?_
  refine g_iconst (z := 0) (v := 0) (by decide +kernel) rfl ?_
  refine g_aload_n (i := 0) (by decide +kernel) rfl ?_
  refine x_getr (hs.k (k_Rv ho)) F_River_37 (by decide +kernel) rfl (hs.r (r_Rv_8 ho)) ?_
  refine g_iconst (z := 0) (v := 0) (by decide +kernel) rfl ?_
  refine g_iconst (z := 5) (v := 5) (by decide +kernel) rfl ?_
  refine x_copy hf hs (hs.k (k_Rv_8 hp1)) (hs.k (k_Rv_8 ho)) L_River_61 (by decide) (Nat.le_of_ble_eq_true rfl) (by decide +kernel) (fun h9 hf hs => ?_)
  refine g_aload_n (i := 1) (by decide +kernel) rfl ?_
  refine x_getr (hs.k (k_Rv hp1)) F_River_40 (by decide +kernel) rfl (hs.r (r_Rv_9 hp1)) ?_
  refine g_iconst (z := 0) (v := 0) (by decide +kernel) rfl ?_
  refine g_aload_n (i := 0) (by decide +kernel) rfl ?_
  refine x_getr (hs.k (k_Rv ho)) F_River_40 (by decide +kernel) rfl (hs.r (r_Rv_9 ho)) ?_
  refine g_iconst (z := 0) (v := 0) (by decide +kernel) rfl ?_
  refine g_iconst (z := 5) (v := 5) (by decide +kernel) rfl ?_
  refine x_copy hf hs (hs.k (k_Rv_9 hp1)) (hs.k (k_Rv_9 ho)) L_River_61 (by decide) (Nat.le_of_ble_eq_true rfl) (by decide +kernel) (fun h10 hf hs => ?_)
  refine g_aload_n (i := 1) (by decide +kernel) rfl ?_
  refine x_getr (hs.k (k_Rv hp1)) F_River_43 (by decide +kernel) rfl (hs.r (r_Rv_10 hp1)) ?_
  refine g_iconst (z := 0) (v := 0) (by decide +kernel) rfl ?_
  refine g_aload_n (i := 0) (by decide +kernel) rfl ?_
  refine x_getr (hs.k (k_Rv ho)) F_River_43 (by decide +kernel) rfl (hs.r (r_Rv_10 ho)) ?_
  refine g_iconst (z := 0) (v := 0) (by decide +kernel) rfl ?_
  refine g_iconst (z := 5) (v := 5) (by decide +kernel) rfl ?_
  refine x_copy hf hs (hs.k (k_Rv_10 hp1)) (hs.k (k_Rv_10 ho)) L_River_61 (by decide) (Nat.le_of_ble_eq_true rfl) (by decide +kernel) (fun h11 hf hs => ?_)
  refine g_aload_n (i := 1) (by decide +kernel) rfl ?_
  refine x_getr (hs.k (k_Rv hp1)) F_River_46 (by decide +kernel) rfl (hs.r (r_Rv_11 hp1)) ?_
  refine g_iconst (z := 0) (v := 0) (by decide +kernel) rfl ?_
  refine g_aload_n (i := 0) (by decide +kernel) rfl ?_
  refine x_getr (hs.k (k_Rv ho)) F_River_46 (by decide +kernel) rfl (hs.r (r_Rv_11 ho)) ?_
  refine g_iconst (z := 0) (v := 0) (by decide +kernel) rfl ?_
  refine g_aload_n (i := 0) (by decide +kernel) rfl ?_
  refine x_getr (hs.k (k_Rv ho)) F_River_46 (by decide +kernel) rfl (hs.r (r_Rv_11 ho)) ?_
  refine g_alen (t0 := 0) (hs.k (k_Rv_11 ho)) rfl rfl (by decide +kernel) ?_
  refine x_copy hf hs (hs.k (k_Rv_11 hp1)) (hs.k (k_Rv_11 ho)) L_River_61 (by decide) (Nat.le_of_ble_eq_true rfl) (by decide +kernel) (fun h12 hf hs => ?_)
  refine g_aload_n (i := 1) (by decide +kernel) rfl ?_
  refine x_getr (hs.k (k_Rv hp1)) F_River_49 (by decide +kernel) rfl (hs.r (r_Rv_12 hp1)) ?_
  refine g_iconst (z := 0) (v := 0) (by decide +kernel) rfl ?_
  refine g_aload_n (i := 0) (by decide +kernel) rfl ?_
  refine x_getr (hs.k (k_Rv ho)) F_River_49 (by decide +kernel) rfl (hs.r (r_Rv_12 ho)) ?_
  refine g_iconst (z := 0) (v := 0) (by decide +kernel) rfl ?_
  refine g_aload_n (i := 0) (by decide +kernel) rfl ?_
  refine x_getr (hs.k (k_Rv ho)) F_River_49 (by decide +kernel) rfl (hs.r (r_Rv_12 ho)) ?_
  refine g_alen (t0 := 0) (hs.k (k_Rv_12 ho)) rfl rfl (by decide +kernel) ?_
  refine x_copy hf hs (hs.k (k_Rv_12 hp1)) (hs.k (k_Rv_12 ho)) L_River_61 (by decide) (Nat.le_of_ble_eq_true rfl) (by decide +kernel) (fun h13 hf hs => ?_)
  refine g_aload_n (i := 1) (by decide +kernel) rfl ?_
  refine x_getr (hs.k (k_Rv hp1)) F_River_52 (by decide +kernel) rfl (hs.r (r_Rv_13 hp1)) ?_
  refine g_iconst (z := 0) (v := 0) (by decide +kernel) rfl ?_
  refine g_aload_n (i := 0) (by decide +kernel) rfl ?_
  refine x_getr (hs.k (k_Rv ho)) F_River_52 (by decide +kernel) rfl (hs.r (r_Rv_13 ho)) ?_
  refine g_iconst (z := 0) (v := 0) (by decide +kernel) rfl ?_
  refine g_aload_n (i := 0) (by decide +kernel) rfl ?_
  refine x_getr (hs.k (k_Rv ho)) F_River_52 (by decide +kernel) rfl (hs.r (r_Rv_13 ho)) ?_
  refine g_alen (t0 := 0) (hs.k (k_Rv_13 ho)) rfl rfl (by decide +kernel) ?_
  refine x_copy hf hs (hs.k (k_Rv_13 hp1)) (hs.k (k_Rv_13 ho)) L_River_61 (by decide) (Nat.le_of_ble_eq_true rfl) (by decide +kernel) (fun h14 hf hs => ?_)
  exact x_vret hf hs (by decide +kernel) rfl (Nat.le_refl _) (Nat.le_refl _)
def f_State_markDone_L2 (o : Nat) (p1 : Nat) : Nat → Int32 → am_H → Option (Int32 × am_H)
  | 0, _, _ => none
  | n + 1, v2, h =>
    (if (h.2.1 p1 2) ≤ v2 then
      some (v2, h)
    else
      (am_rd (h.2.1 (p1 + 4)) 5 v2).bind fun x2 =>
      (am_rd (h.2.1 (o + 2)) 5 v2).bind fun x3 =>
      (if x2 = x3 then
        (am_rd (h.2.1 (p1 + 5)) 5 v2).bind fun x5 =>
        (if x5 < (h.2.1 o 0) then
          f_State_markDone_L2 o p1 n (v2 + (1 : Int32)) h
        else
          am_let (am_sI h o 2 ((h.2.1 o 2) ||| ((1 : Int32) <<< (v2 &&& 31)))) fun h7 =>
          f_State_markDone_L2 o p1 n (v2 + (1 : Int32)) h7)
      else
        f_State_markDone_L2 o p1 n (v2 + (1 : Int32)) h))
set_option maxRecDepth 100000 in
set_option maxHeartbeats 4000000 in
theorem t_State_markDone_L2 {o : Nat} {p1 : Nat} (ho : o ∈ am_stL) (hp1 : p1 ∈ am_rvL) {Q : Option Value → am_H → Prop} : ∀ (n : Nat) (v2 : Int32) (h : am_H) (q : Int32 × am_H), am_Sh h → f_State_markDone_L2 o p1 n v2 h = some q → (am_Sh q.2 → am_G 0 M_State_markDone 0 0 Q 56 [(0, .ref o), (1, .ref p1), (2, .int q.1)] [] q.2 0 0) → am_G 0 M_State_markDone 0 0 Q 2 [(0, .ref o), (1, .ref p1), (2, .int v2)] [] h 0 0 := by
  intro n
  induction n with
  | zero =>
    intro v2 h q hs hf kont
    rw [f_State_markDone_L2] at hf
    cases hf
  | succ n ih =>
    intro v2 h q hs hf kont
    rw [f_State_markDone_L2] at hf
    refine g_iload_n (i := 2) (by decide +kernel) rfl ?_
    refine g_aload_n (i := 1) (by decide +kernel) rfl ?_
    refine x_geti (hs.k (k_Rv hp1)) F_State_58 (by decide +kernel) rfl ?_
    refine x_icmp_ge (off := 49) (tgt := 56) hf (by decide +kernel) (by decide) (fun c1 hf => ?_) (fun c1 hf => ?_)
    · cases hf
      exact am_G.forget (am_subp [0, 1, 2] rfl) (kont hs)
    · refine g_aload_n (i := 1) (by decide +kernel) rfl ?_
      refine x_getr (hs.k (k_Rv hp1)) F_State_61 (by decide +kernel) rfl (hs.r (r_Rv_9 hp1)) ?_
      refine g_iload_n (i := 2) (by decide +kernel) rfl ?_
      refine x_iald hf (hs.k (k_Rv_9 hp1)) (by decide +kernel) (fun x2 hf => ?_)
      refine g_aload_n (i := 0) (by decide +kernel) rfl ?_
      refine x_getr (hs.k (k_St ho)) F_State_25 (by decide +kernel) rfl (hs.r (r_St_4 ho)) ?_
      refine g_iload_n (i := 2) (by decide +kernel) rfl ?_
      refine x_iald hf (hs.k (k_St_4 ho)) (by decide +kernel) (fun x3 hf => ?_)
      refine x_icmp_ne (off := 28) (tgt := 50) hf (by decide +kernel) (by decide) (fun c4 hf => ?_) (fun c4 hf => ?_)
      · refine g_iinc (i := 2) (z := 1) (v := (v2 + (1 : Int32))) (by decide +kernel) rfl rfl rfl (by decide) (ls1 := [(0, .ref o), (1, .ref p1), (2, .int (v2 + (1 : Int32)))]) rfl ?_
        refine g_goto (off := (-51)) (tgt := 2) (by decide +kernel) (by decide) ?_
        exact am_G.forget (am_subp [0, 1, 2] rfl) (ih _ _ _ hs hf kont)
      · refine g_aload_n (i := 0) (by decide +kernel) rfl ?_
        refine x_geti (hs.k (k_St ho)) F_State_9 (by decide +kernel) rfl ?_
        refine g_aload_n (i := 1) (by decide +kernel) rfl ?_
        refine x_getr (hs.k (k_Rv hp1)) F_State_64 (by decide +kernel) rfl (hs.r (r_Rv_10 hp1)) ?_
        refine g_iload_n (i := 2) (by decide +kernel) rfl ?_
        refine x_iald hf (hs.k (k_Rv_10 hp1)) (by decide +kernel) (fun x5 hf => ?_)
        refine x_icmp_gt (off := 15) (tgt := 50) hf (by decide +kernel) (by decide) (fun c6 hf => ?_) (fun c6 hf => ?_)
        · refine g_iinc (i := 2) (z := 1) (v := (v2 + (1 : Int32))) (by decide +kernel) rfl rfl rfl (by decide) (ls1 := [(0, .ref o), (1, .ref p1), (2, .int (v2 + (1 : Int32)))]) rfl ?_
          refine g_goto (off := (-51)) (tgt := 2) (by decide +kernel) (by decide) ?_
          exact am_G.forget (am_subp [0, 1, 2] rfl) (ih _ _ _ hs hf kont)
        · refine g_aload_n (i := 0) (by decide +kernel) rfl ?_
          refine g_dup (by decide +kernel) rfl ?_
          refine x_geti (hs.k (k_St ho)) F_State_18 (by decide +kernel) rfl ?_
          refine g_iconst (z := 1) (v := 1) (by decide +kernel) rfl ?_
          refine g_iload_n (i := 2) (by decide +kernel) rfl ?_
          refine g_ishl (by decide +kernel) ?_
          refine g_ior (by decide +kernel) ?_
          refine x_puti hf hs (hs.k (k_St ho)) F_State_18 (by decide +kernel) rfl rfl rfl rfl (fun h7 hf hs => ?_)
          refine g_iinc (i := 2) (z := 1) (v := (v2 + (1 : Int32))) (by decide +kernel) rfl rfl rfl (by decide) (ls1 := [(0, .ref o), (1, .ref p1), (2, .int (v2 + (1 : Int32)))]) rfl ?_
          refine g_goto (off := (-51)) (tgt := 2) (by decide +kernel) (by decide) ?_
          exact am_G.forget (am_subp [0, 1, 2] rfl) (ih _ _ _ hs hf kont)
def f_State_markDone (o : Nat) (p1 : Nat) (h : am_H) : Option (am_H) :=
  (f_State_markDone_L2 o p1 am_fu (0 : Int32) h).bind fun q8 =>
  some q8.2
set_option maxRecDepth 100000 in
set_option maxHeartbeats 4000000 in
theorem t_State_markDone {o : Nat} {p1 : Nat} {h : am_H} (hs : am_Sh h) (ho : o ∈ am_stL) (hp1 : p1 ∈ am_rvL) {r : am_H} (hf : f_State_markDone o p1 h = some r) : am_Ct 0 M_State_markDone [.ref o, .ref p1] h 0 0 (am_qV r) := by
  unfold f_State_markDone at hf
  refine am_Ct.of (by decide) rfl (Nat.le_of_ble_eq_true rfl) (ls := [(0, .ref o), (1, .ref p1)]) rfl ?_
  refine g_iconst (z := 0) (v := 0) (by decide +kernel) rfl ?_
  refine g_istore_n (i := 2) (by decide +kernel) rfl (by decide) (ls1 := [(0, .ref o), (1, .ref p1), (2, .int (0 : Int32))]) rfl ?_
  obtain ⟨q8, hqq8, hf⟩ := Option.bind_eq_some_iff.mp hf
  refine am_G.forget (am_subp [0, 1, 2] rfl) (t_State_markDone_L2 ho hp1 am_fu _ _ q8 hs hqq8 (fun hs => ?_))
  exact x_vret hf hs (by decide +kernel) rfl (Nat.le_refl _) (Nat.le_refl _)
def f_State_begin (o : Nat) (p1 : Nat) (h : am_H) : Option (am_H) :=
  am_let (am_sI h o 0 (h.2.1 p1 4)) fun h1 =>
  am_let (am_sI h1 o 1 (0 : Int32)) fun h2 =>
  am_let (am_sI h2 o 2 (0 : Int32)) fun h3 =>
  (am_cp h3 (p1 + 1) 6 (0 : Int32) (o + 1) 6 (0 : Int32) (6 : Int32)).bind fun h4 =>
  (am_cp h4 (p1 + 2) 5 (0 : Int32) (o + 2) 5 (0 : Int32) (5 : Int32)).bind fun h5 =>
  (f_Arrays_fill (o + 3) 5 (0 : Int32) h5).bind fun q6 =>
  (f_State_markDone o p1 q6).bind fun q7 =>
  some q7
set_option maxRecDepth 100000 in
set_option maxHeartbeats 4000000 in
theorem t_State_begin {o : Nat} {p1 : Nat} {h : am_H} (hs : am_Sh h) (ho : o ∈ am_stL) (hp1 : p1 ∈ am_rvL) {r : am_H} (hf : f_State_begin o p1 h = some r) : am_Ct 1 M_State_begin [.ref o, .ref p1] h 0 0 (am_qV r) := by
  unfold f_State_begin at hf
  refine am_Ct.of (by decide) rfl (Nat.le_of_ble_eq_true rfl) (ls := [(0, .ref o), (1, .ref p1)]) rfl ?_
  refine g_aload_n (i := 0) (by decide +kernel) rfl ?_
  refine g_aload_n (i := 1) (by decide +kernel) rfl ?_
  refine x_geti (hs.k (k_Rv hp1)) F_State_37 (by decide +kernel) rfl ?_
  refine x_puti hf hs (hs.k (k_St ho)) F_State_9 (by decide +kernel) rfl rfl rfl rfl (fun h1 hf hs => ?_)
  refine g_aload_n (i := 0) (by decide +kernel) rfl ?_
  refine g_iconst (z := 0) (v := 0) (by decide +kernel) rfl ?_
  refine x_puti hf hs (hs.k (k_St ho)) F_State_15 (by decide +kernel) rfl rfl rfl rfl (fun h2 hf hs => ?_)
  refine g_aload_n (i := 0) (by decide +kernel) rfl ?_
  refine g_iconst (z := 0) (v := 0) (by decide +kernel) rfl ?_
  refine x_puti hf hs (hs.k (k_St ho)) F_State_18 (by decide +kernel) rfl rfl rfl rfl (fun h3 hf hs => ?_)
  refine g_aload_n (i := 1) (by decide +kernel) rfl ?_
  refine x_getr (hs.k (k_Rv hp1)) F_State_42 (by decide +kernel) rfl (hs.r (r_Rv_6 hp1)) ?_
  refine g_iconst (z := 0) (v := 0) (by decide +kernel) rfl ?_
  refine g_aload_n (i := 0) (by decide +kernel) rfl ?_
  refine x_getr (hs.k (k_St ho)) F_State_21 (by decide +kernel) rfl (hs.r (r_St_3 ho)) ?_
  refine g_iconst (z := 0) (v := 0) (by decide +kernel) rfl ?_
  refine g_bipush (z := 6) (v := 6) (by decide +kernel) rfl ?_
  refine x_copy hf hs (hs.k (k_Rv_6 hp1)) (hs.k (k_St_3 ho)) L_State_31 (by decide) (Nat.le_of_ble_eq_true rfl) (by decide +kernel) (fun h4 hf hs => ?_)
  refine g_aload_n (i := 1) (by decide +kernel) rfl ?_
  refine x_getr (hs.k (k_Rv hp1)) F_State_45 (by decide +kernel) rfl (hs.r (r_Rv_7 hp1)) ?_
  refine g_iconst (z := 0) (v := 0) (by decide +kernel) rfl ?_
  refine g_aload_n (i := 0) (by decide +kernel) rfl ?_
  refine x_getr (hs.k (k_St ho)) F_State_25 (by decide +kernel) rfl (hs.r (r_St_4 ho)) ?_
  refine g_iconst (z := 0) (v := 0) (by decide +kernel) rfl ?_
  refine g_iconst (z := 5) (v := 5) (by decide +kernel) rfl ?_
  refine x_copy hf hs (hs.k (k_Rv_7 hp1)) (hs.k (k_St_4 ho)) L_State_31 (by decide) (Nat.le_of_ble_eq_true rfl) (by decide +kernel) (fun h5 hf hs => ?_)
  refine g_aload_n (i := 0) (by decide +kernel) rfl ?_
  refine x_getr (hs.k (k_St ho)) F_State_28 (by decide +kernel) rfl (hs.r (r_St_5 ho)) ?_
  refine g_iconst (z := 0) (v := 0) (by decide +kernel) rfl ?_
  refine x_callSV (as := [.ref (o + 3), .int (0 : Int32)]) St_Arrays_fill hf (fun q hq => t_Arrays_fill hs (k_St_5 ho) hq) Y_Arrays_fill L_State_48 (by decide +kernel) rfl rfl (Nat.le_of_ble_eq_true rfl) (by decide) (Nat.le_refl _) (Nat.le_refl _) (fun q6 hf hs => ?_)
  refine g_aload_n (i := 0) (by decide +kernel) rfl ?_
  refine g_aload_n (i := 1) (by decide +kernel) rfl ?_
  refine x_callVV (as := [.ref p1]) Vi_State_markDone Vs_State_markDone (hs.k (k_St ho)) rfl hf (fun q hq => t_State_markDone hs ho hp1 hq) Y_State_markDone L_State_54 (by decide +kernel) rfl rfl (Nat.le_of_ble_eq_true rfl) (by decide) (Nat.le_refl _) (Nat.le_refl _) (fun q7 hf hs => ?_)
  exact x_vret hf hs (by decide +kernel) rfl (Nat.le_refl _) (Nat.le_refl _)
def f_Past_forget  (h : am_H) : Option (am_H) :=
  am_let (am_sI h 18 2 (0 : Int32)) fun h1 =>
  some h1
set_option maxRecDepth 100000 in
set_option maxHeartbeats 4000000 in
theorem t_Past_forget  {h : am_H} (hs : am_Sh h)  {r : am_H} (hf : f_Past_forget  h = some r) : am_Ct 0 M_Past_forget [.ref 18] h 0 0 (am_qV r) := by
  unfold f_Past_forget at hf
  refine am_Ct.of (by decide) rfl (Nat.le_of_ble_eq_true rfl) (ls := [(0, .ref 18)]) rfl ?_
  refine g_aload_n (i := 0) (by decide +kernel) rfl ?_
  refine g_iconst (z := 0) (v := 0) (by decide +kernel) rfl ?_
  refine x_puti hf hs (hs.k k_18) F_Past_21 (by decide +kernel) rfl rfl rfl rfl (fun h1 hf hs => ?_)
  exact x_vret hf hs (by decide +kernel) rfl (Nat.le_refl _) (Nat.le_refl _)
def f_Weeks_forget  (h : am_H) : Option (am_H) :=
  am_let (am_sI h 91 8 (0 : Int32)) fun h1 =>
  am_let (am_sI h1 91 9 (0 : Int32)) fun h2 =>
  some h2
set_option maxRecDepth 100000 in
set_option maxHeartbeats 4000000 in
theorem t_Weeks_forget  {h : am_H} (hs : am_Sh h)  {r : am_H} (hf : f_Weeks_forget  h = some r) : am_Ct 0 M_Weeks_forget [.ref 91] h 0 0 (am_qV r) := by
  unfold f_Weeks_forget at hf
  refine am_Ct.of (by decide) rfl (Nat.le_of_ble_eq_true rfl) (ls := [(0, .ref 91)]) rfl ?_
  refine g_aload_n (i := 0) (by decide +kernel) rfl ?_
  refine g_iconst (z := 0) (v := 0) (by decide +kernel) rfl ?_
  refine x_puti hf hs (hs.k k_91) F_Weeks_28 (by decide +kernel) rfl rfl rfl rfl (fun h1 hf hs => ?_)
  refine g_aload_n (i := 0) (by decide +kernel) rfl ?_
  refine g_iconst (z := 0) (v := 0) (by decide +kernel) rfl ?_
  refine x_puti hf hs (hs.k k_91) F_Weeks_32 (by decide +kernel) rfl rfl rfl rfl (fun h2 hf hs => ?_)
  exact x_vret hf hs (by decide +kernel) rfl (Nat.le_refl _) (Nat.le_refl _)
def f_Top_river (p1 : Int32) (h : am_H) : Option (Int32 × am_H) :=
  (if p1 < 0 then
    some ((-3 : Int32), h)
  else
    (if p1 ≤ (h.2.1 0 13) then
      am_let (am_sI h 0 13 (0 : Int32)) fun h3 =>
      (f_Reader_read 60 900 p1 h3).bind fun q4 =>
      (if q4.1 = 0 then
        (f_River_copyFrom 1 62 q4.2).bind fun q6 =>
        (f_State_begin 10 1 q6).bind fun q7 =>
        (f_Past_forget  q7).bind fun q8 =>
        (f_Weeks_forget  q8).bind fun q9 =>
        some ((q9.2.1 1 5), q9)
      else
        some (((-30 : Int32) - q4.1), q4.2))
    else
      some ((-3 : Int32), h)))
set_option maxRecDepth 100000 in
set_option maxHeartbeats 4000000 in
theorem t_Top_river {p1 : Int32} {h : am_H} (hs : am_Sh h)  {r : Int32 × am_H} (hf : f_Top_river p1 h = some r) : am_Ct 66 M_Top_river [.ref 0, .int p1] h 0 0 (am_qI r) := by
  unfold f_Top_river at hf
  refine am_Ct.of (by decide) rfl (Nat.le_of_ble_eq_true rfl) (ls := [(0, .ref 0), (1, .int p1)]) rfl ?_
  refine g_iload_n (i := 1) (by decide +kernel) rfl ?_
  refine x_if_lt (off := 11) (tgt := 12) hf (by decide +kernel) (by decide) (fun c1 hf => ?_) (fun c1 hf => ?_)
  · refine g_bipush (z := (-3)) (v := (-3)) (by decide +kernel) rfl ?_
    exact x_iret hf hs (by decide +kernel) rfl (Nat.le_refl _) (Nat.le_refl _)
  · refine g_iload_n (i := 1) (by decide +kernel) rfl ?_
    refine g_aload_n (i := 0) (by decide +kernel) rfl ?_
    refine x_geti (hs.k k_0) F_Top_90 (by decide +kernel) rfl ?_
    refine x_icmp_le (off := 6) (tgt := 15) hf (by decide +kernel) (by decide) (fun c2 hf => ?_) (fun c2 hf => ?_)
    · refine g_aload_n (i := 0) (by decide +kernel) rfl ?_
      refine g_iconst (z := 0) (v := 0) (by decide +kernel) rfl ?_
      refine x_puti hf hs (hs.k k_0) F_Top_90 (by decide +kernel) rfl rfl rfl rfl (fun h3 hf hs => ?_)
      refine g_aload_n (i := 0) (by decide +kernel) rfl ?_
      refine x_getr (hs.k k_0) F_Top_40 (by decide +kernel) rfl (hs.r r_0_5) ?_
      refine g_aload_n (i := 0) (by decide +kernel) rfl ?_
      refine x_getr (hs.k k_0) F_Top_33 (by decide +kernel) rfl (hs.r r_0_4) ?_
      refine g_iload_n (i := 1) (by decide +kernel) rfl ?_
      refine x_callVI (as := [.ref 60, .int p1]) Vi_Reader_read Vs_Reader_read (hs.k k_61) rfl hf (fun q hq => t_Reader_read hs k_60 hq) Y_Reader_read L_Top_102 (by decide +kernel) rfl rfl (Nat.le_of_ble_eq_true rfl) (by decide) (Nat.le_refl _) (Nat.le_refl _) (fun q4 hf hs => ?_)
      refine g_istore_n (i := 2) (by decide +kernel) rfl (by decide) (ls1 := [(0, .ref 0), (1, .int p1), (2, .int q4.1)]) rfl ?_
      refine g_iload_n (i := 2) (by decide +kernel) rfl ?_
      refine x_if_eq (off := 8) (tgt := 42) hf (by decide +kernel) (by decide) (fun c5 hf => ?_) (fun c5 hf => ?_)
      · refine g_aload_n (i := 0) (by decide +kernel) rfl ?_
        refine x_getr (hs.k k_0) F_Top_10 (by decide +kernel) rfl (hs.r r_0_0) ?_
        refine g_aload_n (i := 0) (by decide +kernel) rfl ?_
        refine x_getr (hs.k k_0) F_Top_40 (by decide +kernel) rfl (hs.r r_0_5) ?_
        refine x_getr (hs.k k_61) F_Top_106 (by decide +kernel) rfl (hs.r r_61_0) ?_
        refine x_callVV (as := [.ref 62]) Vi_River_copyFrom Vs_River_copyFrom (hs.k k_1) rfl hf (fun q hq => t_River_copyFrom hs (by decide) (by decide) hq) Y_River_copyFrom L_Top_109 (by decide +kernel) rfl rfl (Nat.le_of_ble_eq_true rfl) (by decide) (Nat.le_refl _) (Nat.le_refl _) (fun q6 hf hs => ?_)
        refine g_aload_n (i := 0) (by decide +kernel) rfl ?_
        refine x_getr (hs.k k_0) F_Top_19 (by decide +kernel) rfl (hs.r r_0_1) ?_
        refine g_aload_n (i := 0) (by decide +kernel) rfl ?_
        refine x_getr (hs.k k_0) F_Top_10 (by decide +kernel) rfl (hs.r r_0_0) ?_
        refine x_callVV (as := [.ref 1]) Vi_State_begin Vs_State_begin (hs.k k_10) rfl hf (fun q hq => t_State_begin hs (by decide) (by decide) hq) Y_State_begin L_Top_113 (by decide +kernel) rfl rfl (Nat.le_of_ble_eq_true rfl) (by decide) (Nat.le_refl _) (Nat.le_refl _) (fun q7 hf hs => ?_)
        refine g_aload_n (i := 0) (by decide +kernel) rfl ?_
        refine x_getr (hs.k k_0) F_Top_29 (by decide +kernel) rfl (hs.r r_0_3) ?_
        refine x_callVV (as := []) Vi_Past_forget Vs_Past_forget (hs.k k_18) rfl hf (fun q hq => t_Past_forget hs  hq) Y_Past_forget L_Top_116 (by decide +kernel) rfl rfl (Nat.le_of_ble_eq_true rfl) (by decide) (Nat.le_refl _) (Nat.le_refl _) (fun q8 hf hs => ?_)
        refine g_aload_n (i := 0) (by decide +kernel) rfl ?_
        refine x_getr (hs.k k_0) F_Top_72 (by decide +kernel) rfl (hs.r r_0_10) ?_
        refine x_callVV (as := []) Vi_Weeks_forget Vs_Weeks_forget (hs.k k_91) rfl hf (fun q hq => t_Weeks_forget hs  hq) Y_Weeks_forget L_Top_119 (by decide +kernel) rfl rfl (Nat.le_of_ble_eq_true rfl) (by decide) (Nat.le_refl _) (Nat.le_refl _) (fun q9 hf hs => ?_)
        refine g_aload_n (i := 0) (by decide +kernel) rfl ?_
        refine x_getr (hs.k k_0) F_Top_10 (by decide +kernel) rfl (hs.r r_0_0) ?_
        refine x_geti (hs.k k_1) F_Top_120 (by decide +kernel) rfl ?_
        exact x_iret hf hs (by decide +kernel) rfl (Nat.le_refl _) (Nat.le_refl _)
      · refine g_bipush (z := (-30)) (v := (-30)) (by decide +kernel) rfl ?_
        refine g_iload_n (i := 2) (by decide +kernel) rfl ?_
        refine g_isub (by decide +kernel) ?_
        exact x_iret hf hs (by decide +kernel) rfl (Nat.le_refl _) (Nat.le_refl _)
    · refine g_bipush (z := (-3)) (v := (-3)) (by decide +kernel) rfl ?_
      exact x_iret hf hs (by decide +kernel) rfl (Nat.le_refl _) (Nat.le_refl _)
def f_Top_fault (p1 : Int32) (h : am_H) : Option (Int32) :=
  (if p1 = 0 then
    some (h.2.1 61 1)
  else
    (if p1 = (1 : Int32) then
      some (h.2.1 61 2)
    else
      some (-1 : Int32)))
set_option maxRecDepth 100000 in
set_option maxHeartbeats 4000000 in
theorem t_Top_fault {p1 : Int32} {h : am_H} (hs : am_Sh h)  {r : Int32} (hf : f_Top_fault p1 h = some r) : am_Ct 0 M_Top_fault [.ref 0, .int p1] h 0 0 (am_pI h r) := by
  unfold f_Top_fault at hf
  refine am_Ct.of (by decide) rfl (Nat.le_of_ble_eq_true rfl) (ls := [(0, .ref 0), (1, .int p1)]) rfl ?_
  refine g_iload_n (i := 1) (by decide +kernel) rfl ?_
  refine x_if_ne (off := 11) (tgt := 12) hf (by decide +kernel) (by decide) (fun c1 hf => ?_) (fun c1 hf => ?_)
  · refine g_iload_n (i := 1) (by decide +kernel) rfl ?_
    refine g_iconst (z := 1) (v := 1) (by decide +kernel) rfl ?_
    refine x_icmp_ne (off := 13) (tgt := 27) hf (by decide +kernel) (by decide) (fun c2 hf => ?_) (fun c2 hf => ?_)
    · refine g_iconst (z := (-1)) (v := (-1)) (by decide +kernel) rfl ?_
      exact x_iretp hf (by decide +kernel) rfl (Nat.le_refl _) (Nat.le_refl _)
    · refine g_aload_n (i := 0) (by decide +kernel) rfl ?_
      refine x_getr (hs.k k_0) F_Top_40 (by decide +kernel) rfl (hs.r r_0_5) ?_
      refine x_geti (hs.k k_61) F_Top_126 (by decide +kernel) rfl ?_
      refine g_goto (off := 4) (tgt := 28) (by decide +kernel) (by decide) ?_
      exact x_iretp hf (by decide +kernel) rfl (Nat.le_refl _) (Nat.le_refl _)
  · refine g_aload_n (i := 0) (by decide +kernel) rfl ?_
    refine x_getr (hs.k k_0) F_Top_40 (by decide +kernel) rfl (hs.r r_0_5) ?_
    refine x_geti (hs.k k_61) F_Top_123 (by decide +kernel) rfl ?_
    exact x_iretp hf (by decide +kernel) rfl (Nat.le_refl _) (Nat.le_refl _)
def f_River_hourOfWeek (o : Nat) (p1 : Int32) (h : am_H) : Option (Int32) :=
  (if (h.2.1 o 1) < (1 : Int32) then
    some (0 : Int32)
  else
    (if 0 ≤ p1 then
      (am_md p1 (h.2.1 o 1)).bind fun x3 =>
      some x3
    else
      some (0 : Int32)))
set_option maxRecDepth 100000 in
set_option maxHeartbeats 4000000 in
theorem t_River_hourOfWeek {o : Nat} {p1 : Int32} {h : am_H} (hs : am_Sh h) (ho : o ∈ am_rvL) {r : Int32} (hf : f_River_hourOfWeek o p1 h = some r) : am_Ct 0 M_River_hourOfWeek [.ref o, .int p1] h 0 0 (am_pI h r) := by
  unfold f_River_hourOfWeek at hf
  refine am_Ct.of (by decide) rfl (Nat.le_of_ble_eq_true rfl) (ls := [(0, .ref o), (1, .int p1)]) rfl ?_
  refine g_aload_n (i := 0) (by decide +kernel) rfl ?_
  refine x_geti (hs.k (k_Rv ho)) F_River_15 (by decide +kernel) rfl ?_
  refine g_iconst (z := 1) (v := 1) (by decide +kernel) rfl ?_
  refine x_icmp_lt (off := 7) (tgt := 12) hf (by decide +kernel) (by decide) (fun c1 hf => ?_) (fun c1 hf => ?_)
  · refine g_iconst (z := 0) (v := 0) (by decide +kernel) rfl ?_
    refine g_goto (off := 9) (tgt := 22) (by decide +kernel) (by decide) ?_
    exact x_iretp hf (by decide +kernel) rfl (Nat.le_refl _) (Nat.le_refl _)
  · refine g_iload_n (i := 1) (by decide +kernel) rfl ?_
    refine x_if_ge (off := 7) (tgt := 16) hf (by decide +kernel) (by decide) (fun c2 hf => ?_) (fun c2 hf => ?_)
    · refine g_iload_n (i := 1) (by decide +kernel) rfl ?_
      refine g_aload_n (i := 0) (by decide +kernel) rfl ?_
      refine x_geti (hs.k (k_Rv ho)) F_River_15 (by decide +kernel) rfl ?_
      refine x_irem hf (by decide +kernel) (fun x3 hf => ?_)
      exact x_iretp hf (by decide +kernel) rfl (Nat.le_refl _) (Nat.le_refl _)
    · refine g_iconst (z := 0) (v := 0) (by decide +kernel) rfl ?_
      refine g_goto (off := 9) (tgt := 22) (by decide +kernel) (by decide) ?_
      exact x_iretp hf (by decide +kernel) rfl (Nat.le_refl _) (Nat.le_refl _)
def f_Top_span (p1 : Int32) (h : am_H) : Option (Int32) :=
  (if p1 < 0 then
    some (-3 : Int32)
  else
    (if p1 ≤ (999 : Int32) then
      (f_River_hourOfWeek 1 ((h.2.1 10 0) + p1) h).bind fun q3 =>
      (am_rd (h.2.1 11) 6 q3).bind fun x4 =>
      some x4
    else
      some (-3 : Int32)))
set_option maxRecDepth 100000 in
set_option maxHeartbeats 4000000 in
theorem t_Top_span {p1 : Int32} {h : am_H} (hs : am_Sh h)  {r : Int32} (hf : f_Top_span p1 h = some r) : am_Ct 1 M_Top_span [.ref 0, .int p1] h 0 0 (am_pI h r) := by
  unfold f_Top_span at hf
  refine am_Ct.of (by decide) rfl (Nat.le_of_ble_eq_true rfl) (ls := [(0, .ref 0), (1, .int p1)]) rfl ?_
  refine g_iload_n (i := 1) (by decide +kernel) rfl ?_
  refine x_if_lt (off := 10) (tgt := 11) hf (by decide +kernel) (by decide) (fun c1 hf => ?_) (fun c1 hf => ?_)
  · refine g_bipush (z := (-3)) (v := (-3)) (by decide +kernel) rfl ?_
    exact x_iretp hf (by decide +kernel) rfl (Nat.le_refl _) (Nat.le_refl _)
  · refine g_iload_n (i := 1) (by decide +kernel) rfl ?_
    refine g_sipush (z := 999) (v := 999) (by decide +kernel) rfl ?_
    refine x_icmp_le (off := 6) (tgt := 14) hf (by decide +kernel) (by decide) (fun c2 hf => ?_) (fun c2 hf => ?_)
    · refine g_aload_n (i := 0) (by decide +kernel) rfl ?_
      refine x_getr (hs.k k_0) F_Top_19 (by decide +kernel) rfl (hs.r r_0_1) ?_
      refine x_getr (hs.k k_10) F_Top_129 (by decide +kernel) rfl (hs.r r_10_3) ?_
      refine g_aload_n (i := 0) (by decide +kernel) rfl ?_
      refine x_getr (hs.k k_0) F_Top_10 (by decide +kernel) rfl (hs.r r_0_0) ?_
      refine g_aload_n (i := 0) (by decide +kernel) rfl ?_
      refine x_getr (hs.k k_0) F_Top_19 (by decide +kernel) rfl (hs.r r_0_1) ?_
      refine x_geti (hs.k k_10) F_Top_133 (by decide +kernel) rfl ?_
      refine g_iload_n (i := 1) (by decide +kernel) rfl ?_
      refine g_iadd (by decide +kernel) ?_
      refine x_callVIp (as := [.int ((h.2.1 10 0) + p1)]) Vi_River_hourOfWeek Vs_River_hourOfWeek (hs.k k_1) rfl hf (fun q hq => t_River_hourOfWeek hs (by decide) hq) Y_River_hourOfWeek L_Top_136 (by decide +kernel) rfl rfl (Nat.le_of_ble_eq_true rfl) (by decide) (Nat.le_refl _) (Nat.le_refl _) (fun q3 hf => ?_)
      refine x_iald hf (hs.k k_11) (by decide +kernel) (fun x4 hf => ?_)
      exact x_iretp hf (by decide +kernel) rfl (Nat.le_refl _) (Nat.le_refl _)
    · refine g_bipush (z := (-3)) (v := (-3)) (by decide +kernel) rfl ?_
      exact x_iretp hf (by decide +kernel) rfl (Nat.le_refl _) (Nat.le_refl _)
def f_River_hasPerson (o : Nat) (p1 : Int32) (h : am_H) : Option (Bool) :=
  (if p1 < 0 then
    some false
  else
    (if (h.2.1 o 2) ≤ p1 then
      some false
    else
      some true))
set_option maxRecDepth 100000 in
set_option maxHeartbeats 4000000 in
theorem t_River_hasPerson {o : Nat} {p1 : Int32} {h : am_H} (hs : am_Sh h) (ho : o ∈ am_rvL) {r : Bool} (hf : f_River_hasPerson o p1 h = some r) : am_Ct 0 M_River_hasPerson [.ref o, .int p1] h 0 0 (am_pB h r) := by
  unfold f_River_hasPerson at hf
  refine am_Ct.of (by decide) rfl (Nat.le_of_ble_eq_true rfl) (ls := [(0, .ref o), (1, .int p1)]) rfl ?_
  refine g_iload_n (i := 1) (by decide +kernel) rfl ?_
  refine x_if_lt (off := 15) (tgt := 16) hf (by decide +kernel) (by decide) (fun c1 hf => ?_) (fun c1 hf => ?_)
  · refine g_iconst (z := 0) (v := 0) (by decide +kernel) rfl ?_
    exact x_zretp rfl hf (by decide +kernel) rfl (Nat.le_refl _) (Nat.le_refl _)
  · refine g_iload_n (i := 1) (by decide +kernel) rfl ?_
    refine g_aload_n (i := 0) (by decide +kernel) rfl ?_
    refine x_geti (hs.k (k_Rv ho)) F_River_18 (by decide +kernel) rfl ?_
    refine x_icmp_ge (off := 7) (tgt := 16) hf (by decide +kernel) (by decide) (fun c2 hf => ?_) (fun c2 hf => ?_)
    · refine g_iconst (z := 0) (v := 0) (by decide +kernel) rfl ?_
      exact x_zretp rfl hf (by decide +kernel) rfl (Nat.le_refl _) (Nat.le_refl _)
    · refine g_iconst (z := 1) (v := 1) (by decide +kernel) rfl ?_
      refine g_goto (off := 4) (tgt := 17) (by decide +kernel) (by decide) ?_
      exact x_zretp rfl hf (by decide +kernel) rfl (Nat.le_refl _) (Nat.le_refl _)
def f_Top_person (p1 : Int32) (p2 : Int32) (h : am_H) : Option (Int32) :=
  (f_River_hasPerson 1 p1 h).bind fun q1 =>
  (if q1 = true then
    (if p2 = (0 : Int32) then
      (am_rd (h.2.1 12) 5 p1).bind fun x3 =>
      some x3
    else if p2 = (1 : Int32) then
      (am_rd (h.2.1 4) 5 p1).bind fun x4 =>
      some x4
    else if p2 = (2 : Int32) then
      (am_rd (h.2.1 5) 5 p1).bind fun x5 =>
      some x5
    else if p2 = (3 : Int32) then
      (am_rd (h.2.1 6) 5 p1).bind fun x6 =>
      some x6
    else if p2 = (4 : Int32) then
      some (((h.2.1 10 2) >>> (p1 &&& 31)) &&& (1 : Int32))
    else if p2 = (5 : Int32) then
      (am_rd (h.2.1 13) 5 p1).bind fun x7 =>
      some x7
    else 
      some (-2 : Int32))
  else
    some (-2 : Int32))
set_option maxRecDepth 100000 in
set_option maxHeartbeats 4000000 in
theorem t_Top_person {p1 : Int32} {p2 : Int32} {h : am_H} (hs : am_Sh h)  {r : Int32} (hf : f_Top_person p1 p2 h = some r) : am_Ct 1 M_Top_person [.ref 0, .int p1, .int p2] h 0 0 (am_pI h r) := by
  unfold f_Top_person at hf
  refine am_Ct.of (by decide) rfl (Nat.le_of_ble_eq_true rfl) (ls := [(0, .ref 0), (1, .int p1), (2, .int p2)]) rfl ?_
  refine g_aload_n (i := 0) (by decide +kernel) rfl ?_
  refine x_getr (hs.k k_0) F_Top_10 (by decide +kernel) rfl (hs.r r_0_0) ?_
  refine g_iload_n (i := 1) (by decide +kernel) rfl ?_
  refine x_callVBp (as := [.int p1]) Vi_River_hasPerson Vs_River_hasPerson (hs.k k_1) rfl hf (fun q hq => t_River_hasPerson hs (by decide) hq) Y_River_hasPerson L_Top_140 (by decide +kernel) rfl rfl (Nat.le_of_ble_eq_true rfl) (by decide) (Nat.le_refl _) (Nat.le_refl _) (fun q1 hf => ?_)
  refine x_ifb_ne (off := 6) (tgt := 14) hf (by decide +kernel) (by decide) (fun c2 hf => ?_) (fun c2 hf => ?_)
  · refine g_iload_n (i := 2) (by decide +kernel) rfl ?_
    by_cases e0 : p2 = (0 : Int32)
    · rw [if_pos e0] at hf
      have ex : Int32.toInt p2 = 0 := by rw [e0]; rfl
      refine x_tabIn (dflt := 99) (lo := 0) (hi := 5) (offs := #[37, 47, 57, 67, 77, 89]) (len := 37) (off := 37) (tgt := 52) (by decide +kernel) (by rw [ex]; decide) (by rw [ex]; decide) (by rw [ex]; rfl) (by decide) ?_
      refine g_aload_n (i := 0) (by decide +kernel) rfl ?_
      refine x_getr (hs.k k_0) F_Top_19 (by decide +kernel) rfl (hs.r r_0_1) ?_
      refine x_getr (hs.k k_10) F_Top_144 (by decide +kernel) rfl (hs.r r_10_4) ?_
      refine g_iload_n (i := 1) (by decide +kernel) rfl ?_
      refine x_iald hf (hs.k k_12) (by decide +kernel) (fun x3 hf => ?_)
      exact x_iretp hf (by decide +kernel) rfl (Nat.le_refl _) (Nat.le_refl _)
    · rw [if_neg e0] at hf
      by_cases e1 : p2 = (1 : Int32)
      · rw [if_pos e1] at hf
        have ex : Int32.toInt p2 = 1 := by rw [e1]; rfl
        refine x_tabIn (dflt := 99) (lo := 0) (hi := 5) (offs := #[37, 47, 57, 67, 77, 89]) (len := 37) (off := 47) (tgt := 62) (by decide +kernel) (by rw [ex]; decide) (by rw [ex]; decide) (by rw [ex]; rfl) (by decide) ?_
        refine g_aload_n (i := 0) (by decide +kernel) rfl ?_
        refine x_getr (hs.k k_0) F_Top_10 (by decide +kernel) rfl (hs.r r_0_0) ?_
        refine x_getr (hs.k k_1) F_Top_147 (by decide +kernel) rfl (hs.r r_1_8) ?_
        refine g_iload_n (i := 1) (by decide +kernel) rfl ?_
        refine x_iald hf (hs.k k_4) (by decide +kernel) (fun x4 hf => ?_)
        exact x_iretp hf (by decide +kernel) rfl (Nat.le_refl _) (Nat.le_refl _)
      · rw [if_neg e1] at hf
        by_cases e2 : p2 = (2 : Int32)
        · rw [if_pos e2] at hf
          have ex : Int32.toInt p2 = 2 := by rw [e2]; rfl
          refine x_tabIn (dflt := 99) (lo := 0) (hi := 5) (offs := #[37, 47, 57, 67, 77, 89]) (len := 37) (off := 57) (tgt := 72) (by decide +kernel) (by rw [ex]; decide) (by rw [ex]; decide) (by rw [ex]; rfl) (by decide) ?_
          refine g_aload_n (i := 0) (by decide +kernel) rfl ?_
          refine x_getr (hs.k k_0) F_Top_10 (by decide +kernel) rfl (hs.r r_0_0) ?_
          refine x_getr (hs.k k_1) F_Top_150 (by decide +kernel) rfl (hs.r r_1_9) ?_
          refine g_iload_n (i := 1) (by decide +kernel) rfl ?_
          refine x_iald hf (hs.k k_5) (by decide +kernel) (fun x5 hf => ?_)
          exact x_iretp hf (by decide +kernel) rfl (Nat.le_refl _) (Nat.le_refl _)
        · rw [if_neg e2] at hf
          by_cases e3 : p2 = (3 : Int32)
          · rw [if_pos e3] at hf
            have ex : Int32.toInt p2 = 3 := by rw [e3]; rfl
            refine x_tabIn (dflt := 99) (lo := 0) (hi := 5) (offs := #[37, 47, 57, 67, 77, 89]) (len := 37) (off := 67) (tgt := 82) (by decide +kernel) (by rw [ex]; decide) (by rw [ex]; decide) (by rw [ex]; rfl) (by decide) ?_
            refine g_aload_n (i := 0) (by decide +kernel) rfl ?_
            refine x_getr (hs.k k_0) F_Top_10 (by decide +kernel) rfl (hs.r r_0_0) ?_
            refine x_getr (hs.k k_1) F_Top_153 (by decide +kernel) rfl (hs.r r_1_10) ?_
            refine g_iload_n (i := 1) (by decide +kernel) rfl ?_
            refine x_iald hf (hs.k k_6) (by decide +kernel) (fun x6 hf => ?_)
            exact x_iretp hf (by decide +kernel) rfl (Nat.le_refl _) (Nat.le_refl _)
          · rw [if_neg e3] at hf
            by_cases e4 : p2 = (4 : Int32)
            · rw [if_pos e4] at hf
              have ex : Int32.toInt p2 = 4 := by rw [e4]; rfl
              refine x_tabIn (dflt := 99) (lo := 0) (hi := 5) (offs := #[37, 47, 57, 67, 77, 89]) (len := 37) (off := 77) (tgt := 92) (by decide +kernel) (by rw [ex]; decide) (by rw [ex]; decide) (by rw [ex]; rfl) (by decide) ?_
              refine g_aload_n (i := 0) (by decide +kernel) rfl ?_
              refine x_getr (hs.k k_0) F_Top_19 (by decide +kernel) rfl (hs.r r_0_1) ?_
              refine x_geti (hs.k k_10) F_Top_156 (by decide +kernel) rfl ?_
              refine g_iload_n (i := 1) (by decide +kernel) rfl ?_
              refine g_ishr (by decide +kernel) ?_
              refine g_iconst (z := 1) (v := 1) (by decide +kernel) rfl ?_
              refine g_iand (by decide +kernel) ?_
              exact x_iretp hf (by decide +kernel) rfl (Nat.le_refl _) (Nat.le_refl _)
            · rw [if_neg e4] at hf
              by_cases e5 : p2 = (5 : Int32)
              · rw [if_pos e5] at hf
                have ex : Int32.toInt p2 = 5 := by rw [e5]; rfl
                refine x_tabIn (dflt := 99) (lo := 0) (hi := 5) (offs := #[37, 47, 57, 67, 77, 89]) (len := 37) (off := 89) (tgt := 104) (by decide +kernel) (by rw [ex]; decide) (by rw [ex]; decide) (by rw [ex]; rfl) (by decide) ?_
                refine g_aload_n (i := 0) (by decide +kernel) rfl ?_
                refine x_getr (hs.k k_0) F_Top_19 (by decide +kernel) rfl (hs.r r_0_1) ?_
                refine x_getr (hs.k k_10) F_Top_159 (by decide +kernel) rfl (hs.r r_10_5) ?_
                refine g_iload_n (i := 1) (by decide +kernel) rfl ?_
                refine x_iald hf (hs.k k_13) (by decide +kernel) (fun x7 hf => ?_)
                exact x_iretp hf (by decide +kernel) rfl (Nat.le_refl _) (Nat.le_refl _)
              · rw [if_neg e5] at hf
                refine x_tabOut (dflt := 99) (lo := 0) (hi := 5) (offs := #[37, 47, 57, 67, 77, 89]) (len := 37) (tgt := 114) (by decide +kernel) (am_tabNe ⟨by decide, by decide⟩ (fun z hz => ?_)) (by decide) ?_
                · have hz : z < 6 := hz
                  have : z = 0 ∨ z = 1 ∨ z = 2 ∨ z = 3 ∨ z = 4 ∨ z = 5 := by omega
                  rcases this with rfl | rfl | rfl | rfl | rfl | rfl
                  · exact e0
                  · exact e1
                  · exact e2
                  · exact e3
                  · exact e4
                  · exact e5
                · refine g_bipush (z := (-2)) (v := (-2)) (by decide +kernel) rfl ?_
                  exact x_iretp hf (by decide +kernel) rfl (Nat.le_refl _) (Nat.le_refl _)
  · refine g_bipush (z := (-2)) (v := (-2)) (by decide +kernel) rfl ?_
    exact x_iretp hf (by decide +kernel) rfl (Nat.le_refl _) (Nat.le_refl _)
def f_State_lies (o : Nat) (p1 : Nat) (h : am_H) : Option (Int32) :=
  (f_River_hourOfWeek p1 (h.2.1 o 0) h).bind fun q1 =>
  (am_rd (h.2.1 (o + 1)) 6 q1).bind fun x2 =>
  some x2
set_option maxRecDepth 100000 in
set_option maxHeartbeats 4000000 in
theorem t_State_lies {o : Nat} {p1 : Nat} {h : am_H} (hs : am_Sh h) (ho : o ∈ am_stL) (hp1 : p1 ∈ am_rvL) {r : Int32} (hf : f_State_lies o p1 h = some r) : am_Ct 1 M_State_lies [.ref o, .ref p1] h 0 0 (am_pI h r) := by
  unfold f_State_lies at hf
  refine am_Ct.of (by decide) rfl (Nat.le_of_ble_eq_true rfl) (ls := [(0, .ref o), (1, .ref p1)]) rfl ?_
  refine g_aload_n (i := 0) (by decide +kernel) rfl ?_
  refine x_getr (hs.k (k_St ho)) F_State_21 (by decide +kernel) rfl (hs.r (r_St_3 ho)) ?_
  refine g_aload_n (i := 1) (by decide +kernel) rfl ?_
  refine g_aload_n (i := 0) (by decide +kernel) rfl ?_
  refine x_geti (hs.k (k_St ho)) F_State_9 (by decide +kernel) rfl ?_
  refine x_callVIp (as := [.int (h.2.1 o 0)]) Vi_River_hourOfWeek Vs_River_hourOfWeek (hs.k (k_Rv hp1)) rfl hf (fun q hq => t_River_hourOfWeek hs hp1 hq) Y_River_hourOfWeek L_State_67 (by decide +kernel) rfl rfl (Nat.le_of_ble_eq_true rfl) (by decide) (Nat.le_refl _) (Nat.le_refl _) (fun q1 hf => ?_)
  refine x_iald hf (hs.k (k_St_3 ho)) (by decide +kernel) (fun x2 hf => ?_)
  exact x_iretp hf (by decide +kernel) rfl (Nat.le_refl _) (Nat.le_refl _)
def f_Top_hasBit (p0 : Int32) (p1 : Int32) (h : am_H) : Option (Bool) :=
  (if p1 < 0 then
    some false
  else
    (if (32 : Int32) ≤ p1 then
      some false
    else
      (if ((p0 >>> (p1 &&& 31)) &&& (1 : Int32)) = 0 then
        some false
      else
        some true)))
set_option maxRecDepth 100000 in
set_option maxHeartbeats 4000000 in
theorem t_Top_hasBit {p0 : Int32} {p1 : Int32} {h : am_H} (hs : am_Sh h)  {r : Bool} (hf : f_Top_hasBit p0 p1 h = some r) : am_Ct 0 M_Top_hasBit [.int p0, .int p1] h 0 0 (am_pB h r) := by
  unfold f_Top_hasBit at hf
  refine am_Ct.of (by decide) rfl (Nat.le_of_ble_eq_true rfl) (ls := [(0, .int p0), (1, .int p1)]) rfl ?_
  refine g_iload_n (i := 1) (by decide +kernel) rfl ?_
  refine x_if_lt (off := 21) (tgt := 22) hf (by decide +kernel) (by decide) (fun c1 hf => ?_) (fun c1 hf => ?_)
  · refine g_iconst (z := 0) (v := 0) (by decide +kernel) rfl ?_
    exact x_zretp rfl hf (by decide +kernel) rfl (Nat.le_refl _) (Nat.le_refl _)
  · refine g_iload_n (i := 1) (by decide +kernel) rfl ?_
    refine g_bipush (z := 32) (v := 32) (by decide +kernel) rfl ?_
    refine x_icmp_ge (off := 15) (tgt := 22) hf (by decide +kernel) (by decide) (fun c2 hf => ?_) (fun c2 hf => ?_)
    · refine g_iconst (z := 0) (v := 0) (by decide +kernel) rfl ?_
      exact x_zretp rfl hf (by decide +kernel) rfl (Nat.le_refl _) (Nat.le_refl _)
    · refine g_iload_n (i := 0) (by decide +kernel) rfl ?_
      refine g_iload_n (i := 1) (by decide +kernel) rfl ?_
      refine g_ishr (by decide +kernel) ?_
      refine g_iconst (z := 1) (v := 1) (by decide +kernel) rfl ?_
      refine g_iand (by decide +kernel) ?_
      refine x_if_eq (off := 7) (tgt := 22) hf (by decide +kernel) (by decide) (fun c3 hf => ?_) (fun c3 hf => ?_)
      · refine g_iconst (z := 0) (v := 0) (by decide +kernel) rfl ?_
        exact x_zretp rfl hf (by decide +kernel) rfl (Nat.le_refl _) (Nat.le_refl _)
      · refine g_iconst (z := 1) (v := 1) (by decide +kernel) rfl ?_
        refine g_goto (off := 4) (tgt := 23) (by decide +kernel) (by decide) ?_
        exact x_zretp rfl hf (by decide +kernel) rfl (Nat.le_refl _) (Nat.le_refl _)
def f_River_hindrance (o : Nat) (p1 : Int32) (p2 : Int32) (p3 : Int32) (p4 : Int32) (h : am_H) : Option (Int32) :=
  (if p3 = (0 : Int32) then
    some (0 : Int32)
  else if p3 = (1 : Int32) then
    (if p2 = (8 : Int32) then
      some (2 : Int32)
    else
      (if ((p2 / (2 : Int32)) + (1 : Int32)) < (h.2.1 o 0) then
        (am_rd (h.2.1 (o + 6)) 60 p1).bind fun x3 =>
        (f_Top_hasBit x3 p2 h).bind fun q4 =>
        (if q4 = true then
          some (0 : Int32)
        else
          some (3 : Int32))
      else
        some (2 : Int32)))
  else if p3 = (2 : Int32) then
    (if p2 = (8 : Int32) then
      some (2 : Int32)
    else
      (if (2 : Int32) ≤ p2 then
        (am_rd (h.2.1 (o + 7)) 60 p1).bind fun x8 =>
        (f_Top_hasBit x8 p2 h).bind fun q9 =>
        (if q9 = true then
          some (0 : Int32)
        else
          some (3 : Int32))
      else
        some (2 : Int32)))
  else if p3 = (3 : Int32) then
    (if p2 = (8 : Int32) then
      some (2 : Int32)
    else
      (if p4 = (p2 / (2 : Int32)) then
        (am_rd (h.2.1 (o + 8)) 60 p1).bind fun x13 =>
        (f_Top_hasBit x13 p4 h).bind fun q14 =>
        (if q14 = true then
          some (0 : Int32)
        else
          some (3 : Int32))
      else
        some (2 : Int32)))
  else if p3 = (4 : Int32) then
    (if p2 = (8 : Int32) then
      some (2 : Int32)
    else
      (if p4 = (p2 / (2 : Int32)) then
        (am_rd (h.2.1 (o + 8)) 60 p1).bind fun x18 =>
        (f_Top_hasBit x18 p4 h).bind fun q19 =>
        (if q19 = true then
          some (0 : Int32)
        else
          some (3 : Int32))
      else
        some (2 : Int32)))
  else if p3 = (5 : Int32) then
    (if p2 = (8 : Int32) then
      (if p4 = (-1 : Int32) then
        some (2 : Int32)
      else
        (am_rd (h.2.1 (o + 8)) 60 p1).bind fun x23 =>
        (f_Top_hasBit x23 p4 h).bind fun q24 =>
        (if q24 = true then
          some (0 : Int32)
        else
          some (3 : Int32)))
    else
      some (2 : Int32))
  else if p3 = (6 : Int32) then
    (if p2 = (8 : Int32) then
      (if p4 = (-1 : Int32) then
        some (2 : Int32)
      else
        (am_rd (h.2.1 (o + 8)) 60 p1).bind fun x28 =>
        (f_Top_hasBit x28 p4 h).bind fun q29 =>
        (if q29 = true then
          some (0 : Int32)
        else
          some (3 : Int32)))
    else
      some (2 : Int32))
  else 
    some (1 : Int32))
set_option maxRecDepth 100000 in
set_option maxHeartbeats 4000000 in
theorem t_River_hindrance {o : Nat} {p1 : Int32} {p2 : Int32} {p3 : Int32} {p4 : Int32} {h : am_H} (hs : am_Sh h) (ho : o ∈ am_rvL) {r : Int32} (hf : f_River_hindrance o p1 p2 p3 p4 h = some r) : am_Ct 1 M_River_hindrance [.ref o, .int p1, .int p2, .int p3, .int p4] h 0 0 (am_pI h r) := by
  unfold f_River_hindrance at hf
  refine am_Ct.of (by decide) rfl (Nat.le_of_ble_eq_true rfl) (ls := [(0, .ref o), (1, .int p1), (2, .int p2), (3, .int p3), (4, .int p4)]) rfl ?_
  refine g_iload_n (i := 3) (by decide +kernel) rfl ?_
  by_cases e0 : p3 = (0 : Int32)
  · rw [if_pos e0] at hf
    have ex : Int32.toInt p3 = 0 := by rw [e0]; rfl
    refine x_tabIn (dflt := 146) (lo := 0) (hi := 6) (offs := #[43, 45, 84, 116, 116, 132, 132]) (len := 43) (off := 43) (tgt := 44) (by decide +kernel) (by rw [ex]; decide) (by rw [ex]; decide) (by rw [ex]; rfl) (by decide) ?_
    refine g_iconst (z := 0) (v := 0) (by decide +kernel) rfl ?_
    exact x_iretp hf (by decide +kernel) rfl (Nat.le_refl _) (Nat.le_refl _)
  · rw [if_neg e0] at hf
    by_cases e1 : p3 = (1 : Int32)
    · rw [if_pos e1] at hf
      have ex : Int32.toInt p3 = 1 := by rw [e1]; rfl
      refine x_tabIn (dflt := 146) (lo := 0) (hi := 6) (offs := #[43, 45, 84, 116, 116, 132, 132]) (len := 43) (off := 45) (tgt := 46) (by decide +kernel) (by rw [ex]; decide) (by rw [ex]; decide) (by rw [ex]; rfl) (by decide) ?_
      refine g_iload_n (i := 2) (by decide +kernel) rfl ?_
      refine g_bipush (z := 8) (v := 8) (by decide +kernel) rfl ?_
      refine x_icmp_eq (off := 15) (tgt := 64) hf (by decide +kernel) (by decide) (fun c1 hf => ?_) (fun c1 hf => ?_)
      · refine g_iconst (z := 2) (v := 2) (by decide +kernel) rfl ?_
        exact x_iretp hf (by decide +kernel) rfl (Nat.le_refl _) (Nat.le_refl _)
      · refine g_iload_n (i := 2) (by decide +kernel) rfl ?_
        refine g_iconst (z := 2) (v := 2) (by decide +kernel) rfl ?_
        refine g_idiv (by decide +kernel) (by decide) ?_
        refine g_iconst (z := 1) (v := 1) (by decide +kernel) rfl ?_
        refine g_iadd (by decide +kernel) ?_
        refine g_aload_n (i := 0) (by decide +kernel) rfl ?_
        refine x_geti (hs.k (k_Rv ho)) F_River_9 (by decide +kernel) rfl ?_
        refine x_icmp_lt (off := 5) (tgt := 66) hf (by decide +kernel) (by decide) (fun c2 hf => ?_) (fun c2 hf => ?_)
        · refine g_aload_n (i := 0) (by decide +kernel) rfl ?_
          refine x_getr (hs.k (k_Rv ho)) F_River_46 (by decide +kernel) rfl (hs.r (r_Rv_11 ho)) ?_
          refine g_iload_n (i := 1) (by decide +kernel) rfl ?_
          refine x_iald hf (hs.k (k_Rv_11 ho)) (by decide +kernel) (fun x3 hf => ?_)
          refine g_iload_n (i := 2) (by decide +kernel) rfl ?_
          refine x_callSNBp (as := [.int x3, .int p2]) St_Top_hasBit hf (fun q hq => t_Top_hasBit hs  hq) Y_Top_hasBit L_River_92 (by decide +kernel) rfl rfl (Nat.le_of_ble_eq_true rfl) (by decide) (Nat.le_refl _) (Nat.le_refl _) (fun q4 hf => ?_)
          refine x_ifb_eq (off := 7) (tgt := 83) hf (by decide +kernel) (by decide) (fun c5 hf => ?_) (fun c5 hf => ?_)
          · refine g_iconst (z := 3) (v := 3) (by decide +kernel) rfl ?_
            exact x_iretp hf (by decide +kernel) rfl (Nat.le_refl _) (Nat.le_refl _)
          · refine g_iconst (z := 0) (v := 0) (by decide +kernel) rfl ?_
            refine g_goto (off := 4) (tgt := 84) (by decide +kernel) (by decide) ?_
            exact x_iretp hf (by decide +kernel) rfl (Nat.le_refl _) (Nat.le_refl _)
        · refine g_iconst (z := 2) (v := 2) (by decide +kernel) rfl ?_
          exact x_iretp hf (by decide +kernel) rfl (Nat.le_refl _) (Nat.le_refl _)
    · rw [if_neg e1] at hf
      by_cases e2 : p3 = (2 : Int32)
      · rw [if_pos e2] at hf
        have ex : Int32.toInt p3 = 2 := by rw [e2]; rfl
        refine x_tabIn (dflt := 146) (lo := 0) (hi := 6) (offs := #[43, 45, 84, 116, 116, 132, 132]) (len := 43) (off := 84) (tgt := 85) (by decide +kernel) (by rw [ex]; decide) (by rw [ex]; decide) (by rw [ex]; rfl) (by decide) ?_
        refine g_iload_n (i := 2) (by decide +kernel) rfl ?_
        refine g_bipush (z := 8) (v := 8) (by decide +kernel) rfl ?_
        refine x_icmp_eq (off := 8) (tgt := 96) hf (by decide +kernel) (by decide) (fun c6 hf => ?_) (fun c6 hf => ?_)
        · refine g_iconst (z := 2) (v := 2) (by decide +kernel) rfl ?_
          exact x_iretp hf (by decide +kernel) rfl (Nat.le_refl _) (Nat.le_refl _)
        · refine g_iload_n (i := 2) (by decide +kernel) rfl ?_
          refine g_iconst (z := 2) (v := 2) (by decide +kernel) rfl ?_
          refine x_icmp_ge (off := 5) (tgt := 98) hf (by decide +kernel) (by decide) (fun c7 hf => ?_) (fun c7 hf => ?_)
          · refine g_aload_n (i := 0) (by decide +kernel) rfl ?_
            refine x_getr (hs.k (k_Rv ho)) F_River_49 (by decide +kernel) rfl (hs.r (r_Rv_12 ho)) ?_
            refine g_iload_n (i := 1) (by decide +kernel) rfl ?_
            refine x_iald hf (hs.k (k_Rv_12 ho)) (by decide +kernel) (fun x8 hf => ?_)
            refine g_iload_n (i := 2) (by decide +kernel) rfl ?_
            refine x_callSNBp (as := [.int x8, .int p2]) St_Top_hasBit hf (fun q hq => t_Top_hasBit hs  hq) Y_Top_hasBit L_River_92 (by decide +kernel) rfl rfl (Nat.le_of_ble_eq_true rfl) (by decide) (Nat.le_refl _) (Nat.le_refl _) (fun q9 hf => ?_)
            refine x_ifb_eq (off := 7) (tgt := 115) hf (by decide +kernel) (by decide) (fun c10 hf => ?_) (fun c10 hf => ?_)
            · refine g_iconst (z := 3) (v := 3) (by decide +kernel) rfl ?_
              exact x_iretp hf (by decide +kernel) rfl (Nat.le_refl _) (Nat.le_refl _)
            · refine g_iconst (z := 0) (v := 0) (by decide +kernel) rfl ?_
              refine g_goto (off := 4) (tgt := 116) (by decide +kernel) (by decide) ?_
              exact x_iretp hf (by decide +kernel) rfl (Nat.le_refl _) (Nat.le_refl _)
          · refine g_iconst (z := 2) (v := 2) (by decide +kernel) rfl ?_
            exact x_iretp hf (by decide +kernel) rfl (Nat.le_refl _) (Nat.le_refl _)
      · rw [if_neg e2] at hf
        by_cases e3 : p3 = (3 : Int32)
        · rw [if_pos e3] at hf
          have ex : Int32.toInt p3 = 3 := by rw [e3]; rfl
          refine x_tabIn (dflt := 146) (lo := 0) (hi := 6) (offs := #[43, 45, 84, 116, 116, 132, 132]) (len := 43) (off := 116) (tgt := 117) (by decide +kernel) (by rw [ex]; decide) (by rw [ex]; decide) (by rw [ex]; rfl) (by decide) ?_
          refine g_iload_n (i := 2) (by decide +kernel) rfl ?_
          refine g_bipush (z := 8) (v := 8) (by decide +kernel) rfl ?_
          refine x_icmp_eq (off := 11) (tgt := 131) hf (by decide +kernel) (by decide) (fun c11 hf => ?_) (fun c11 hf => ?_)
          · refine g_iconst (z := 2) (v := 2) (by decide +kernel) rfl ?_
            exact x_iretp hf (by decide +kernel) rfl (Nat.le_refl _) (Nat.le_refl _)
          · refine g_iload (i := 4) (by decide +kernel) rfl ?_
            refine g_iload_n (i := 2) (by decide +kernel) rfl ?_
            refine g_iconst (z := 2) (v := 2) (by decide +kernel) rfl ?_
            refine g_idiv (by decide +kernel) (by decide) ?_
            refine x_icmp_eq (off := 21) (tgt := 149) hf (by decide +kernel) (by decide) (fun c12 hf => ?_) (fun c12 hf => ?_)
            · refine g_aload_n (i := 0) (by decide +kernel) rfl ?_
              refine x_getr (hs.k (k_Rv ho)) F_River_52 (by decide +kernel) rfl (hs.r (r_Rv_13 ho)) ?_
              refine g_iload_n (i := 1) (by decide +kernel) rfl ?_
              refine x_iald hf (hs.k (k_Rv_13 ho)) (by decide +kernel) (fun x13 hf => ?_)
              refine g_iload (i := 4) (by decide +kernel) rfl ?_
              refine x_callSNBp (as := [.int x13, .int p4]) St_Top_hasBit hf (fun q hq => t_Top_hasBit hs  hq) Y_Top_hasBit L_River_92 (by decide +kernel) rfl rfl (Nat.le_of_ble_eq_true rfl) (by decide) (Nat.le_refl _) (Nat.le_refl _) (fun q14 hf => ?_)
              refine x_ifb_eq (off := 7) (tgt := 167) hf (by decide +kernel) (by decide) (fun c15 hf => ?_) (fun c15 hf => ?_)
              · refine g_iconst (z := 3) (v := 3) (by decide +kernel) rfl ?_
                exact x_iretp hf (by decide +kernel) rfl (Nat.le_refl _) (Nat.le_refl _)
              · refine g_iconst (z := 0) (v := 0) (by decide +kernel) rfl ?_
                refine g_goto (off := 4) (tgt := 168) (by decide +kernel) (by decide) ?_
                exact x_iretp hf (by decide +kernel) rfl (Nat.le_refl _) (Nat.le_refl _)
            · refine g_iconst (z := 2) (v := 2) (by decide +kernel) rfl ?_
              exact x_iretp hf (by decide +kernel) rfl (Nat.le_refl _) (Nat.le_refl _)
        · rw [if_neg e3] at hf
          by_cases e4 : p3 = (4 : Int32)
          · rw [if_pos e4] at hf
            have ex : Int32.toInt p3 = 4 := by rw [e4]; rfl
            refine x_tabIn (dflt := 146) (lo := 0) (hi := 6) (offs := #[43, 45, 84, 116, 116, 132, 132]) (len := 43) (off := 116) (tgt := 117) (by decide +kernel) (by rw [ex]; decide) (by rw [ex]; decide) (by rw [ex]; rfl) (by decide) ?_
            refine g_iload_n (i := 2) (by decide +kernel) rfl ?_
            refine g_bipush (z := 8) (v := 8) (by decide +kernel) rfl ?_
            refine x_icmp_eq (off := 11) (tgt := 131) hf (by decide +kernel) (by decide) (fun c16 hf => ?_) (fun c16 hf => ?_)
            · refine g_iconst (z := 2) (v := 2) (by decide +kernel) rfl ?_
              exact x_iretp hf (by decide +kernel) rfl (Nat.le_refl _) (Nat.le_refl _)
            · refine g_iload (i := 4) (by decide +kernel) rfl ?_
              refine g_iload_n (i := 2) (by decide +kernel) rfl ?_
              refine g_iconst (z := 2) (v := 2) (by decide +kernel) rfl ?_
              refine g_idiv (by decide +kernel) (by decide) ?_
              refine x_icmp_eq (off := 21) (tgt := 149) hf (by decide +kernel) (by decide) (fun c17 hf => ?_) (fun c17 hf => ?_)
              · refine g_aload_n (i := 0) (by decide +kernel) rfl ?_
                refine x_getr (hs.k (k_Rv ho)) F_River_52 (by decide +kernel) rfl (hs.r (r_Rv_13 ho)) ?_
                refine g_iload_n (i := 1) (by decide +kernel) rfl ?_
                refine x_iald hf (hs.k (k_Rv_13 ho)) (by decide +kernel) (fun x18 hf => ?_)
                refine g_iload (i := 4) (by decide +kernel) rfl ?_
                refine x_callSNBp (as := [.int x18, .int p4]) St_Top_hasBit hf (fun q hq => t_Top_hasBit hs  hq) Y_Top_hasBit L_River_92 (by decide +kernel) rfl rfl (Nat.le_of_ble_eq_true rfl) (by decide) (Nat.le_refl _) (Nat.le_refl _) (fun q19 hf => ?_)
                refine x_ifb_eq (off := 7) (tgt := 167) hf (by decide +kernel) (by decide) (fun c20 hf => ?_) (fun c20 hf => ?_)
                · refine g_iconst (z := 3) (v := 3) (by decide +kernel) rfl ?_
                  exact x_iretp hf (by decide +kernel) rfl (Nat.le_refl _) (Nat.le_refl _)
                · refine g_iconst (z := 0) (v := 0) (by decide +kernel) rfl ?_
                  refine g_goto (off := 4) (tgt := 168) (by decide +kernel) (by decide) ?_
                  exact x_iretp hf (by decide +kernel) rfl (Nat.le_refl _) (Nat.le_refl _)
              · refine g_iconst (z := 2) (v := 2) (by decide +kernel) rfl ?_
                exact x_iretp hf (by decide +kernel) rfl (Nat.le_refl _) (Nat.le_refl _)
          · rw [if_neg e4] at hf
            by_cases e5 : p3 = (5 : Int32)
            · rw [if_pos e5] at hf
              have ex : Int32.toInt p3 = 5 := by rw [e5]; rfl
              refine x_tabIn (dflt := 146) (lo := 0) (hi := 6) (offs := #[43, 45, 84, 116, 116, 132, 132]) (len := 43) (off := 132) (tgt := 133) (by decide +kernel) (by rw [ex]; decide) (by rw [ex]; decide) (by rw [ex]; rfl) (by decide) ?_
              refine g_iload_n (i := 2) (by decide +kernel) rfl ?_
              refine g_bipush (z := 8) (v := 8) (by decide +kernel) rfl ?_
              refine x_icmp_ne (off := 9) (tgt := 145) hf (by decide +kernel) (by decide) (fun c21 hf => ?_) (fun c21 hf => ?_)
              · refine g_iconst (z := 2) (v := 2) (by decide +kernel) rfl ?_
                exact x_iretp hf (by decide +kernel) rfl (Nat.le_refl _) (Nat.le_refl _)
              · refine g_iload (i := 4) (by decide +kernel) rfl ?_
                refine g_iconst (z := (-1)) (v := (-1)) (by decide +kernel) rfl ?_
                refine x_icmp_ne (off := 7) (tgt := 149) hf (by decide +kernel) (by decide) (fun c22 hf => ?_) (fun c22 hf => ?_)
                · refine g_aload_n (i := 0) (by decide +kernel) rfl ?_
                  refine x_getr (hs.k (k_Rv ho)) F_River_52 (by decide +kernel) rfl (hs.r (r_Rv_13 ho)) ?_
                  refine g_iload_n (i := 1) (by decide +kernel) rfl ?_
                  refine x_iald hf (hs.k (k_Rv_13 ho)) (by decide +kernel) (fun x23 hf => ?_)
                  refine g_iload (i := 4) (by decide +kernel) rfl ?_
                  refine x_callSNBp (as := [.int x23, .int p4]) St_Top_hasBit hf (fun q hq => t_Top_hasBit hs  hq) Y_Top_hasBit L_River_92 (by decide +kernel) rfl rfl (Nat.le_of_ble_eq_true rfl) (by decide) (Nat.le_refl _) (Nat.le_refl _) (fun q24 hf => ?_)
                  refine x_ifb_eq (off := 7) (tgt := 167) hf (by decide +kernel) (by decide) (fun c25 hf => ?_) (fun c25 hf => ?_)
                  · refine g_iconst (z := 3) (v := 3) (by decide +kernel) rfl ?_
                    exact x_iretp hf (by decide +kernel) rfl (Nat.le_refl _) (Nat.le_refl _)
                  · refine g_iconst (z := 0) (v := 0) (by decide +kernel) rfl ?_
                    refine g_goto (off := 4) (tgt := 168) (by decide +kernel) (by decide) ?_
                    exact x_iretp hf (by decide +kernel) rfl (Nat.le_refl _) (Nat.le_refl _)
                · refine g_iconst (z := 2) (v := 2) (by decide +kernel) rfl ?_
                  exact x_iretp hf (by decide +kernel) rfl (Nat.le_refl _) (Nat.le_refl _)
            · rw [if_neg e5] at hf
              by_cases e6 : p3 = (6 : Int32)
              · rw [if_pos e6] at hf
                have ex : Int32.toInt p3 = 6 := by rw [e6]; rfl
                refine x_tabIn (dflt := 146) (lo := 0) (hi := 6) (offs := #[43, 45, 84, 116, 116, 132, 132]) (len := 43) (off := 132) (tgt := 133) (by decide +kernel) (by rw [ex]; decide) (by rw [ex]; decide) (by rw [ex]; rfl) (by decide) ?_
                refine g_iload_n (i := 2) (by decide +kernel) rfl ?_
                refine g_bipush (z := 8) (v := 8) (by decide +kernel) rfl ?_
                refine x_icmp_ne (off := 9) (tgt := 145) hf (by decide +kernel) (by decide) (fun c26 hf => ?_) (fun c26 hf => ?_)
                · refine g_iconst (z := 2) (v := 2) (by decide +kernel) rfl ?_
                  exact x_iretp hf (by decide +kernel) rfl (Nat.le_refl _) (Nat.le_refl _)
                · refine g_iload (i := 4) (by decide +kernel) rfl ?_
                  refine g_iconst (z := (-1)) (v := (-1)) (by decide +kernel) rfl ?_
                  refine x_icmp_ne (off := 7) (tgt := 149) hf (by decide +kernel) (by decide) (fun c27 hf => ?_) (fun c27 hf => ?_)
                  · refine g_aload_n (i := 0) (by decide +kernel) rfl ?_
                    refine x_getr (hs.k (k_Rv ho)) F_River_52 (by decide +kernel) rfl (hs.r (r_Rv_13 ho)) ?_
                    refine g_iload_n (i := 1) (by decide +kernel) rfl ?_
                    refine x_iald hf (hs.k (k_Rv_13 ho)) (by decide +kernel) (fun x28 hf => ?_)
                    refine g_iload (i := 4) (by decide +kernel) rfl ?_
                    refine x_callSNBp (as := [.int x28, .int p4]) St_Top_hasBit hf (fun q hq => t_Top_hasBit hs  hq) Y_Top_hasBit L_River_92 (by decide +kernel) rfl rfl (Nat.le_of_ble_eq_true rfl) (by decide) (Nat.le_refl _) (Nat.le_refl _) (fun q29 hf => ?_)
                    refine x_ifb_eq (off := 7) (tgt := 167) hf (by decide +kernel) (by decide) (fun c30 hf => ?_) (fun c30 hf => ?_)
                    · refine g_iconst (z := 3) (v := 3) (by decide +kernel) rfl ?_
                      exact x_iretp hf (by decide +kernel) rfl (Nat.le_refl _) (Nat.le_refl _)
                    · refine g_iconst (z := 0) (v := 0) (by decide +kernel) rfl ?_
                      refine g_goto (off := 4) (tgt := 168) (by decide +kernel) (by decide) ?_
                      exact x_iretp hf (by decide +kernel) rfl (Nat.le_refl _) (Nat.le_refl _)
                  · refine g_iconst (z := 2) (v := 2) (by decide +kernel) rfl ?_
                    exact x_iretp hf (by decide +kernel) rfl (Nat.le_refl _) (Nat.le_refl _)
              · rw [if_neg e6] at hf
                refine x_tabOut (dflt := 146) (lo := 0) (hi := 6) (offs := #[43, 45, 84, 116, 116, 132, 132]) (len := 43) (tgt := 147) (by decide +kernel) (am_tabNe ⟨by decide, by decide⟩ (fun z hz => ?_)) (by decide) ?_
                · have hz : z < 7 := hz
                  have : z = 0 ∨ z = 1 ∨ z = 2 ∨ z = 3 ∨ z = 4 ∨ z = 5 ∨ z = 6 := by omega
                  rcases this with rfl | rfl | rfl | rfl | rfl | rfl | rfl
                  · exact e0
                  · exact e1
                  · exact e2
                  · exact e3
                  · exact e4
                  · exact e5
                  · exact e6
                · refine g_iconst (z := 1) (v := 1) (by decide +kernel) rfl ?_
                  exact x_iretp hf (by decide +kernel) rfl (Nat.le_refl _) (Nat.le_refl _)
def f_State_hindrance (o : Nat) (p1 : Nat) (p2 : Int32) (p3 : Int32) (h : am_H) : Option (Int32) :=
  (f_River_hasPerson p1 p2 h).bind fun q1 =>
  (if q1 = true then
    (f_River_hourOfWeek p1 (h.2.1 o 0) h).bind fun q3 =>
    (f_River_row p2 q3 (if (h.2.1 o 1) ≤ 0 then (0 : Int32) else (1 : Int32)) h).bind fun q5 =>
    (am_rd (h.2.1 (o + 2)) 5 p2).bind fun x6 =>
    (f_State_lies o p1 h).bind fun q7 =>
    (f_River_hindrance p1 q5 x6 p3 q7 h).bind fun q8 =>
    some q8
  else
    some (1 : Int32))
set_option maxRecDepth 100000 in
set_option maxHeartbeats 4000000 in
theorem t_State_hindrance {o : Nat} {p1 : Nat} {p2 : Int32} {p3 : Int32} {h : am_H} (hs : am_Sh h) (ho : o ∈ am_stL) (hp1 : p1 ∈ am_rvL) {r : Int32} (hf : f_State_hindrance o p1 p2 p3 h = some r) : am_Ct 2 M_State_hindrance [.ref o, .ref p1, .int p2, .int p3] h 0 0 (am_pI h r) := by
  unfold f_State_hindrance at hf
  refine am_Ct.of (by decide) rfl (Nat.le_of_ble_eq_true rfl) (ls := [(0, .ref o), (1, .ref p1), (2, .int p2), (3, .int p3)]) rfl ?_
  refine g_aload_n (i := 1) (by decide +kernel) rfl ?_
  refine g_iload_n (i := 2) (by decide +kernel) rfl ?_
  refine x_callVBp (as := [.int p2]) Vi_River_hasPerson Vs_River_hasPerson (hs.k (k_Rv hp1)) rfl hf (fun q hq => t_River_hasPerson hs hp1 hq) Y_River_hasPerson L_State_71 (by decide +kernel) rfl rfl (Nat.le_of_ble_eq_true rfl) (by decide) (Nat.le_refl _) (Nat.le_refl _) (fun q1 hf => ?_)
  refine x_ifb_ne (off := 5) (tgt := 10) hf (by decide +kernel) (by decide) (fun c2 hf => ?_) (fun c2 hf => ?_)
  · refine g_iload_n (i := 2) (by decide +kernel) rfl ?_
    refine g_aload_n (i := 1) (by decide +kernel) rfl ?_
    refine g_aload_n (i := 0) (by decide +kernel) rfl ?_
    refine x_geti (hs.k (k_St ho)) F_State_9 (by decide +kernel) rfl ?_
    refine x_callVIp (as := [.int (h.2.1 o 0)]) Vi_River_hourOfWeek Vs_River_hourOfWeek (hs.k (k_Rv hp1)) rfl hf (fun q hq => t_River_hourOfWeek hs hp1 hq) Y_River_hourOfWeek L_State_67 (by decide +kernel) rfl rfl (Nat.le_of_ble_eq_true rfl) (by decide) (Nat.le_refl _) (Nat.le_refl _) (fun q3 hf => ?_)
    refine g_aload_n (i := 0) (by decide +kernel) rfl ?_
    refine x_geti (hs.k (k_St ho)) F_State_15 (by decide +kernel) rfl ?_
    refine am_cut (J := 31) (ls' := [(0, .ref o), (1, .ref p1), (2, .int p2), (3, .int p3)]) (st' := [.int (if (h.2.1 o 1) ≤ 0 then (0 : Int32) else (1 : Int32)), .int q3, .int p2]) ?_ (fun K31 => ?_)
    · refine x_callSIp (as := [.int p2, .int q3, .int (if (h.2.1 o 1) ≤ 0 then (0 : Int32) else (1 : Int32))]) St_River_row hf (fun q hq => t_River_row hs  hq) Y_River_row L_State_75 (by decide +kernel) rfl rfl (Nat.le_of_ble_eq_true rfl) (by decide) (Nat.le_refl _) (Nat.le_refl _) (fun q5 hf => ?_)
      refine g_istore (i := 4) (by decide +kernel) rfl (by decide) (ls1 := [(0, .ref o), (1, .ref p1), (2, .int p2), (3, .int p3), (4, .int q5)]) rfl ?_
      refine g_aload_n (i := 1) (by decide +kernel) rfl ?_
      refine g_iload (i := 4) (by decide +kernel) rfl ?_
      refine g_aload_n (i := 0) (by decide +kernel) rfl ?_
      refine x_getr (hs.k (k_St ho)) F_State_25 (by decide +kernel) rfl (hs.r (r_St_4 ho)) ?_
      refine g_iload_n (i := 2) (by decide +kernel) rfl ?_
      refine x_iald hf (hs.k (k_St_4 ho)) (by decide +kernel) (fun x6 hf => ?_)
      refine g_iload_n (i := 3) (by decide +kernel) rfl ?_
      refine g_aload_n (i := 0) (by decide +kernel) rfl ?_
      refine g_aload_n (i := 1) (by decide +kernel) rfl ?_
      refine x_callVIp (as := [.ref p1]) Vi_State_lies Vs_State_lies (hs.k (k_St ho)) rfl hf (fun q hq => t_State_lies hs ho hp1 hq) Y_State_lies L_State_79 (by decide +kernel) rfl rfl (Nat.le_of_ble_eq_true rfl) (by decide) (Nat.le_refl _) (Nat.le_refl _) (fun q7 hf => ?_)
      refine x_callVIp (as := [.int q5, .int x6, .int p3, .int q7]) Vi_River_hindrance Vs_River_hindrance (hs.k (k_Rv hp1)) rfl hf (fun q hq => t_River_hindrance hs hp1 hq) Y_River_hindrance L_State_83 (by decide +kernel) rfl rfl (Nat.le_of_ble_eq_true rfl) (by decide) (Nat.le_refl _) (Nat.le_refl _) (fun q8 hf => ?_)
      exact x_iretp hf (by decide +kernel) rfl (Nat.le_refl _) (Nat.le_refl _)
    refine p_if_le (off := 7) (tgt := 30) (by decide +kernel) (by decide) (fun c4 => ?_) (fun c4 => ?_)
    · refine g_iconst (z := 0) (v := 0) (by decide +kernel) rfl ?_
      have K1 := K31
      simp only [if_pos c4] at K1
      exact am_G.forget (am_subp [0, 1, 2, 3] rfl) K1
    · refine g_iconst (z := 1) (v := 1) (by decide +kernel) rfl ?_
      refine g_goto (off := 4) (tgt := 31) (by decide +kernel) (by decide) ?_
      have K1 := K31
      simp only [if_neg c4] at K1
      exact am_G.forget (am_subp [0, 1, 2, 3] rfl) K1
  · refine g_iconst (z := 1) (v := 1) (by decide +kernel) rfl ?_
    exact x_iretp hf (by decide +kernel) rfl (Nat.le_refl _) (Nat.le_refl _)
def f_Top_why (p1 : Int32) (p2 : Int32) (h : am_H) : Option (Int32) :=
  (f_State_hindrance 10 1 p1 p2 h).bind fun q1 =>
  some q1
set_option maxRecDepth 100000 in
set_option maxHeartbeats 4000000 in
theorem t_Top_why {p1 : Int32} {p2 : Int32} {h : am_H} (hs : am_Sh h)  {r : Int32} (hf : f_Top_why p1 p2 h = some r) : am_Ct 3 M_Top_why [.ref 0, .int p1, .int p2] h 0 0 (am_pI h r) := by
  unfold f_Top_why at hf
  refine am_Ct.of (by decide) rfl (Nat.le_of_ble_eq_true rfl) (ls := [(0, .ref 0), (1, .int p1), (2, .int p2)]) rfl ?_
  refine g_aload_n (i := 0) (by decide +kernel) rfl ?_
  refine x_getr (hs.k k_0) F_Top_19 (by decide +kernel) rfl (hs.r r_0_1) ?_
  refine g_aload_n (i := 0) (by decide +kernel) rfl ?_
  refine x_getr (hs.k k_0) F_Top_10 (by decide +kernel) rfl (hs.r r_0_0) ?_
  refine g_iload_n (i := 1) (by decide +kernel) rfl ?_
  refine g_iload_n (i := 2) (by decide +kernel) rfl ?_
  refine x_callVIp (as := [.ref 1, .int p1, .int p2]) Vi_State_hindrance Vs_State_hindrance (hs.k k_10) rfl hf (fun q hq => t_State_hindrance hs (by decide) (by decide) hq) Y_State_hindrance L_Top_162 (by decide +kernel) rfl rfl (Nat.le_of_ble_eq_true rfl) (by decide) (Nat.le_refl _) (Nat.le_refl _) (fun q1 hf => ?_)
  exact x_iretp hf (by decide +kernel) rfl (Nat.le_refl _) (Nat.le_refl _)
def f_State_copyFrom (o : Nat) (p1 : Nat) (h : am_H) : Option (am_H) :=
  am_let (am_sI h o 0 (h.2.1 p1 0)) fun h1 =>
  am_let (am_sI h1 o 1 (h1.2.1 p1 1)) fun h2 =>
  am_let (am_sI h2 o 2 (h2.2.1 p1 2)) fun h3 =>
  (am_cp h3 (p1 + 1) 6 (0 : Int32) (o + 1) 6 (0 : Int32) (6 : Int32)).bind fun h4 =>
  (am_cp h4 (p1 + 2) 5 (0 : Int32) (o + 2) 5 (0 : Int32) (5 : Int32)).bind fun h5 =>
  (am_cp h5 (p1 + 3) 5 (0 : Int32) (o + 3) 5 (0 : Int32) (5 : Int32)).bind fun h6 =>
  some h6
set_option maxRecDepth 100000 in
set_option maxHeartbeats 4000000 in
theorem t_State_copyFrom {o : Nat} {p1 : Nat} {h : am_H} (hs : am_Sh h) (ho : o ∈ am_stL) (hp1 : p1 ∈ am_stL) {r : am_H} (hf : f_State_copyFrom o p1 h = some r) : am_Ct 1 M_State_copyFrom [.ref o, .ref p1] h 0 0 (am_qV r) := by
  unfold f_State_copyFrom at hf
  refine am_Ct.of (by decide) rfl (Nat.le_of_ble_eq_true rfl) (ls := [(0, .ref o), (1, .ref p1)]) rfl ?_
  refine g_aload_n (i := 0) (by decide +kernel) rfl ?_
  refine g_aload_n (i := 1) (by decide +kernel) rfl ?_
  refine x_geti (hs.k (k_St hp1)) F_State_9 (by decide +kernel) rfl ?_
  refine x_puti hf hs (hs.k (k_St ho)) F_State_9 (by decide +kernel) rfl rfl rfl rfl (fun h1 hf hs => ?_)
  refine g_aload_n (i := 0) (by decide +kernel) rfl ?_
  refine g_aload_n (i := 1) (by decide +kernel) rfl ?_
  refine x_geti (hs.k (k_St hp1)) F_State_15 (by decide +kernel) rfl ?_
  refine x_puti hf hs (hs.k (k_St ho)) F_State_15 (by decide +kernel) rfl rfl rfl rfl (fun h2 hf hs => ?_)
  refine g_aload_n (i := 0) (by decide +kernel) rfl ?_
  refine g_aload_n (i := 1) (by decide +kernel) rfl ?_
  refine x_geti (hs.k (k_St hp1)) F_State_18 (by decide +kernel) rfl ?_
  refine x_puti hf hs (hs.k (k_St ho)) F_State_18 (by decide +kernel) rfl rfl rfl rfl (fun h3 hf hs => ?_)
  refine g_aload_n (i := 1) (by decide +kernel) rfl ?_
  refine x_getr (hs.k (k_St hp1)) F_State_21 (by decide +kernel) rfl (hs.r (r_St_3 hp1)) ?_
  refine g_iconst (z := 0) (v := 0) (by decide +kernel) rfl ?_
  refine g_aload_n (i := 0) (by decide +kernel) rfl ?_
  refine x_getr (hs.k (k_St ho)) F_State_21 (by decide +kernel) rfl (hs.r (r_St_3 ho)) ?_
  refine g_iconst (z := 0) (v := 0) (by decide +kernel) rfl ?_
  refine g_bipush (z := 6) (v := 6) (by decide +kernel) rfl ?_
  refine x_copy hf hs (hs.k (k_St_3 hp1)) (hs.k (k_St_3 ho)) L_State_31 (by decide) (Nat.le_of_ble_eq_true rfl) (by decide +kernel) (fun h4 hf hs => ?_)
  refine g_aload_n (i := 1) (by decide +kernel) rfl ?_
  refine x_getr (hs.k (k_St hp1)) F_State_25 (by decide +kernel) rfl (hs.r (r_St_4 hp1)) ?_
  refine g_iconst (z := 0) (v := 0) (by decide +kernel) rfl ?_
  refine g_aload_n (i := 0) (by decide +kernel) rfl ?_
  refine x_getr (hs.k (k_St ho)) F_State_25 (by decide +kernel) rfl (hs.r (r_St_4 ho)) ?_
  refine g_iconst (z := 0) (v := 0) (by decide +kernel) rfl ?_
  refine g_iconst (z := 5) (v := 5) (by decide +kernel) rfl ?_
  refine x_copy hf hs (hs.k (k_St_4 hp1)) (hs.k (k_St_4 ho)) L_State_31 (by decide) (Nat.le_of_ble_eq_true rfl) (by decide +kernel) (fun h5 hf hs => ?_)
  refine g_aload_n (i := 1) (by decide +kernel) rfl ?_
  refine x_getr (hs.k (k_St hp1)) F_State_28 (by decide +kernel) rfl (hs.r (r_St_5 hp1)) ?_
  refine g_iconst (z := 0) (v := 0) (by decide +kernel) rfl ?_
  refine g_aload_n (i := 0) (by decide +kernel) rfl ?_
  refine x_getr (hs.k (k_St ho)) F_State_28 (by decide +kernel) rfl (hs.r (r_St_5 ho)) ?_
  refine g_iconst (z := 0) (v := 0) (by decide +kernel) rfl ?_
  refine g_iconst (z := 5) (v := 5) (by decide +kernel) rfl ?_
  refine x_copy hf hs (hs.k (k_St_5 hp1)) (hs.k (k_St_5 ho)) L_State_31 (by decide) (Nat.le_of_ble_eq_true rfl) (by decide +kernel) (fun h6 hf hs => ?_)
  exact x_vret hf hs (by decide +kernel) rfl (Nat.le_refl _) (Nat.le_refl _)
def f_Past_keep (p1 : Nat) (h : am_H) : Option (am_H) :=
  (am_el 20 4 10 (((h.2.1 18 1) + (h.2.1 18 2)) - ((h.2.1 18 1) + (h.2.1 18 2)) / (10 : Int32) * (10 : Int32))).bind fun e1 =>
  (f_State_copyFrom e1 p1 h).bind fun q2 =>
  (if (10 : Int32) ≤ (q2.2.1 18 2) then
    am_let (am_sI q2 18 1 (((q2.2.1 18 1) + (1 : Int32)) - ((q2.2.1 18 1) + (1 : Int32)) / (10 : Int32) * (10 : Int32))) fun h4 =>
    some h4
  else
    am_let (am_sI q2 18 2 ((q2.2.1 18 2) + (1 : Int32))) fun h5 =>
    some h5)
set_option maxRecDepth 100000 in
set_option maxHeartbeats 4000000 in
theorem t_Past_keep {p1 : Nat} {h : am_H} (hs : am_Sh h) (hp1 : p1 ∈ am_stL) {r : am_H} (hf : f_Past_keep p1 h = some r) : am_Ct 2 M_Past_keep [.ref 18, .ref p1] h 0 0 (am_qV r) := by
  unfold f_Past_keep at hf
  refine am_Ct.of (by decide) rfl (Nat.le_of_ble_eq_true rfl) (ls := [(0, .ref 18), (1, .ref p1)]) rfl ?_
  refine g_aload_n (i := 0) (by decide +kernel) rfl ?_
  refine x_getr (hs.k k_18) F_Past_11 (by decide +kernel) rfl (hs.r r_18_0) ?_
  refine g_aload_n (i := 0) (by decide +kernel) rfl ?_
  refine x_geti (hs.k k_18) F_Past_17 (by decide +kernel) rfl ?_
  refine g_aload_n (i := 0) (by decide +kernel) rfl ?_
  refine x_geti (hs.k k_18) F_Past_21 (by decide +kernel) rfl ?_
  refine g_iadd (by decide +kernel) ?_
  refine g_bipush (z := 10) (v := 10) (by decide +kernel) rfl ?_
  refine g_irem (by decide +kernel) (by decide) ?_
  refine x_aald (a := 20) (s := 4) (t0 := 6) hf (hs.k k_19) rfl (by decide +kernel) (fun j hj => hs.r (e_19 hj).1) (fun j1 hj1 hf => ?_)
  refine g_aload_n (i := 1) (by decide +kernel) rfl ?_
  refine x_callVV (as := [.ref p1]) Vi_State_copyFrom Vs_State_copyFrom (hs.k (k_St (e_19 hj1).2)) rfl hf (fun q hq => t_State_copyFrom hs (e_19 hj1).2 hp1 hq) Y_State_copyFrom L_Past_25 (by decide +kernel) rfl rfl (Nat.le_of_ble_eq_true rfl) (by decide) (Nat.le_refl _) (Nat.le_refl _) (fun q2 hf hs => ?_)
  refine g_aload_n (i := 0) (by decide +kernel) rfl ?_
  refine x_geti (hs.k k_18) F_Past_21 (by decide +kernel) rfl ?_
  refine g_bipush (z := 10) (v := 10) (by decide +kernel) rfl ?_
  refine x_icmp_ge (off := 16) (tgt := 43) hf (by decide +kernel) (by decide) (fun c3 hf => ?_) (fun c3 hf => ?_)
  · refine g_aload_n (i := 0) (by decide +kernel) rfl ?_
    refine g_aload_n (i := 0) (by decide +kernel) rfl ?_
    refine x_geti (hs.k k_18) F_Past_17 (by decide +kernel) rfl ?_
    refine g_iconst (z := 1) (v := 1) (by decide +kernel) rfl ?_
    refine g_iadd (by decide +kernel) ?_
    refine g_bipush (z := 10) (v := 10) (by decide +kernel) rfl ?_
    refine g_irem (by decide +kernel) (by decide) ?_
    refine x_puti hf hs (hs.k k_18) F_Past_17 (by decide +kernel) rfl rfl rfl rfl (fun h4 hf hs => ?_)
    exact x_vret hf hs (by decide +kernel) rfl (Nat.le_refl _) (Nat.le_refl _)
  · refine g_aload_n (i := 0) (by decide +kernel) rfl ?_
    refine g_dup (by decide +kernel) rfl ?_
    refine x_geti (hs.k k_18) F_Past_21 (by decide +kernel) rfl ?_
    refine g_iconst (z := 1) (v := 1) (by decide +kernel) rfl ?_
    refine g_iadd (by decide +kernel) ?_
    refine x_puti hf hs (hs.k k_18) F_Past_21 (by decide +kernel) rfl rfl rfl rfl (fun h5 hf hs => ?_)
    refine g_goto (off := 16) (tgt := 56) (by decide +kernel) (by decide) ?_
    exact x_vret hf hs (by decide +kernel) rfl (Nat.le_refl _) (Nat.le_refl _)
def f_Top_willChange  (h : am_H) : Option (am_H) :=
  (f_Past_keep 10 h).bind fun q1 =>
  (f_Weeks_forget  q1).bind fun q2 =>
  some q2
set_option maxRecDepth 100000 in
set_option maxHeartbeats 4000000 in
theorem t_Top_willChange  {h : am_H} (hs : am_Sh h)  {r : am_H} (hf : f_Top_willChange  h = some r) : am_Ct 3 M_Top_willChange [.ref 0] h 0 0 (am_qV r) := by
  unfold f_Top_willChange at hf
  refine am_Ct.of (by decide) rfl (Nat.le_of_ble_eq_true rfl) (ls := [(0, .ref 0)]) rfl ?_
  refine g_aload_n (i := 0) (by decide +kernel) rfl ?_
  refine x_getr (hs.k k_0) F_Top_29 (by decide +kernel) rfl (hs.r r_0_3) ?_
  refine g_aload_n (i := 0) (by decide +kernel) rfl ?_
  refine x_getr (hs.k k_0) F_Top_19 (by decide +kernel) rfl (hs.r r_0_1) ?_
  refine x_callVV (as := [.ref 10]) Vi_Past_keep Vs_Past_keep (hs.k k_18) rfl hf (fun q hq => t_Past_keep hs (by decide) hq) Y_Past_keep L_Top_362 (by decide +kernel) rfl rfl (Nat.le_of_ble_eq_true rfl) (by decide) (Nat.le_refl _) (Nat.le_refl _) (fun q1 hf hs => ?_)
  refine g_aload_n (i := 0) (by decide +kernel) rfl ?_
  refine x_getr (hs.k k_0) F_Top_72 (by decide +kernel) rfl (hs.r r_0_10) ?_
  refine x_callVV (as := []) Vi_Weeks_forget Vs_Weeks_forget (hs.k k_91) rfl hf (fun q hq => t_Weeks_forget hs  hq) Y_Weeks_forget L_Top_119 (by decide +kernel) rfl rfl (Nat.le_of_ble_eq_true rfl) (by decide) (Nat.le_refl _) (Nat.le_refl _) (fun q2 hf hs => ?_)
  exact x_vret hf hs (by decide +kernel) rfl (Nat.le_refl _) (Nat.le_refl _)
def f_River_moved (p0 : Int32) (p1 : Int32) (p2 : Int32) (h : am_H) : Option (Int32) :=
  (if p1 = (1 : Int32) then
    some (p0 + (2 : Int32))
  else if p1 = (2 : Int32) then
    some (p0 - (2 : Int32))
  else if p1 = (3 : Int32) then
    some (p0 ^^^ (1 : Int32))
  else if p1 = (4 : Int32) then
    some (8 : Int32)
  else if p1 = (5 : Int32) then
    some ((2 : Int32) * p2)
  else if p1 = (6 : Int32) then
    some (((2 : Int32) * p2) + (1 : Int32))
  else 
    some p0)
set_option maxRecDepth 100000 in
set_option maxHeartbeats 4000000 in
theorem t_River_moved {p0 : Int32} {p1 : Int32} {p2 : Int32} {h : am_H} (hs : am_Sh h)  {r : Int32} (hf : f_River_moved p0 p1 p2 h = some r) : am_Ct 0 M_River_moved [.int p0, .int p1, .int p2] h 0 0 (am_pI h r) := by
  unfold f_River_moved at hf
  refine am_Ct.of (by decide) rfl (Nat.le_of_ble_eq_true rfl) (ls := [(0, .int p0), (1, .int p1), (2, .int p2)]) rfl ?_
  refine g_iload_n (i := 1) (by decide +kernel) rfl ?_
  by_cases e0 : p1 = (1 : Int32)
  · rw [if_pos e0] at hf
    have ex : Int32.toInt p1 = 1 := by rw [e0]; rfl
    refine x_tabIn (dflt := 64) (lo := 1) (hi := 6) (offs := #[39, 43, 47, 51, 54, 58]) (len := 39) (off := 39) (tgt := 40) (by decide +kernel) (by rw [ex]; decide) (by rw [ex]; decide) (by rw [ex]; rfl) (by decide) ?_
    refine g_iload_n (i := 0) (by decide +kernel) rfl ?_
    refine g_iconst (z := 2) (v := 2) (by decide +kernel) rfl ?_
    refine g_iadd (by decide +kernel) ?_
    exact x_iretp hf (by decide +kernel) rfl (Nat.le_refl _) (Nat.le_refl _)
  · rw [if_neg e0] at hf
    by_cases e1 : p1 = (2 : Int32)
    · rw [if_pos e1] at hf
      have ex : Int32.toInt p1 = 2 := by rw [e1]; rfl
      refine x_tabIn (dflt := 64) (lo := 1) (hi := 6) (offs := #[39, 43, 47, 51, 54, 58]) (len := 39) (off := 43) (tgt := 44) (by decide +kernel) (by rw [ex]; decide) (by rw [ex]; decide) (by rw [ex]; rfl) (by decide) ?_
      refine g_iload_n (i := 0) (by decide +kernel) rfl ?_
      refine g_iconst (z := 2) (v := 2) (by decide +kernel) rfl ?_
      refine g_isub (by decide +kernel) ?_
      exact x_iretp hf (by decide +kernel) rfl (Nat.le_refl _) (Nat.le_refl _)
    · rw [if_neg e1] at hf
      by_cases e2 : p1 = (3 : Int32)
      · rw [if_pos e2] at hf
        have ex : Int32.toInt p1 = 3 := by rw [e2]; rfl
        refine x_tabIn (dflt := 64) (lo := 1) (hi := 6) (offs := #[39, 43, 47, 51, 54, 58]) (len := 39) (off := 47) (tgt := 48) (by decide +kernel) (by rw [ex]; decide) (by rw [ex]; decide) (by rw [ex]; rfl) (by decide) ?_
        refine g_iload_n (i := 0) (by decide +kernel) rfl ?_
        refine g_iconst (z := 1) (v := 1) (by decide +kernel) rfl ?_
        refine g_ixor (by decide +kernel) ?_
        exact x_iretp hf (by decide +kernel) rfl (Nat.le_refl _) (Nat.le_refl _)
      · rw [if_neg e2] at hf
        by_cases e3 : p1 = (4 : Int32)
        · rw [if_pos e3] at hf
          have ex : Int32.toInt p1 = 4 := by rw [e3]; rfl
          refine x_tabIn (dflt := 64) (lo := 1) (hi := 6) (offs := #[39, 43, 47, 51, 54, 58]) (len := 39) (off := 51) (tgt := 52) (by decide +kernel) (by rw [ex]; decide) (by rw [ex]; decide) (by rw [ex]; rfl) (by decide) ?_
          refine g_bipush (z := 8) (v := 8) (by decide +kernel) rfl ?_
          exact x_iretp hf (by decide +kernel) rfl (Nat.le_refl _) (Nat.le_refl _)
        · rw [if_neg e3] at hf
          by_cases e4 : p1 = (5 : Int32)
          · rw [if_pos e4] at hf
            have ex : Int32.toInt p1 = 5 := by rw [e4]; rfl
            refine x_tabIn (dflt := 64) (lo := 1) (hi := 6) (offs := #[39, 43, 47, 51, 54, 58]) (len := 39) (off := 54) (tgt := 55) (by decide +kernel) (by rw [ex]; decide) (by rw [ex]; decide) (by rw [ex]; rfl) (by decide) ?_
            refine g_iconst (z := 2) (v := 2) (by decide +kernel) rfl ?_
            refine g_iload_n (i := 2) (by decide +kernel) rfl ?_
            refine g_imul (by decide +kernel) ?_
            exact x_iretp hf (by decide +kernel) rfl (Nat.le_refl _) (Nat.le_refl _)
          · rw [if_neg e4] at hf
            by_cases e5 : p1 = (6 : Int32)
            · rw [if_pos e5] at hf
              have ex : Int32.toInt p1 = 6 := by rw [e5]; rfl
              refine x_tabIn (dflt := 64) (lo := 1) (hi := 6) (offs := #[39, 43, 47, 51, 54, 58]) (len := 39) (off := 58) (tgt := 59) (by decide +kernel) (by rw [ex]; decide) (by rw [ex]; decide) (by rw [ex]; rfl) (by decide) ?_
              refine g_iconst (z := 2) (v := 2) (by decide +kernel) rfl ?_
              refine g_iload_n (i := 2) (by decide +kernel) rfl ?_
              refine g_imul (by decide +kernel) ?_
              refine g_iconst (z := 1) (v := 1) (by decide +kernel) rfl ?_
              refine g_iadd (by decide +kernel) ?_
              exact x_iretp hf (by decide +kernel) rfl (Nat.le_refl _) (Nat.le_refl _)
            · rw [if_neg e5] at hf
              refine x_tabOut (dflt := 64) (lo := 1) (hi := 6) (offs := #[39, 43, 47, 51, 54, 58]) (len := 39) (tgt := 65) (by decide +kernel) (am_tabNe ⟨by decide, by decide⟩ (fun z hz => ?_)) (by decide) ?_
              · have hz : z < 6 := hz
                have : z = 0 ∨ z = 1 ∨ z = 2 ∨ z = 3 ∨ z = 4 ∨ z = 5 := by omega
                rcases this with rfl | rfl | rfl | rfl | rfl | rfl
                · exact e0
                · exact e1
                · exact e2
                · exact e3
                · exact e4
                · exact e5
              · refine g_iload_n (i := 0) (by decide +kernel) rfl ?_
                exact x_iretp hf (by decide +kernel) rfl (Nat.le_refl _) (Nat.le_refl _)
def f_Top_act (p1 : Int32) (p2 : Int32) (h : am_H) : Option (Int32 × am_H) :=
  (f_State_hindrance 10 1 p1 p2 h).bind fun q1 =>
  (if q1 = 0 then
    (f_Top_willChange  h).bind fun q3 =>
    (am_wr q3 13 5 p1 p2).bind fun h4 =>
    (am_rd (h4.2.1 12) 5 p1).bind fun x5 =>
    (f_State_lies 10 1 h4).bind fun q6 =>
    (f_River_moved x5 p2 q6 h4).bind fun q7 =>
    some (q7, h4)
  else
    some (((-10 : Int32) - q1), h))
set_option maxRecDepth 100000 in
set_option maxHeartbeats 4000000 in
theorem t_Top_act {p1 : Int32} {p2 : Int32} {h : am_H} (hs : am_Sh h)  {r : Int32 × am_H} (hf : f_Top_act p1 p2 h = some r) : am_Ct 4 M_Top_act [.ref 0, .int p1, .int p2] h 0 0 (am_qI r) := by
  unfold f_Top_act at hf
  refine am_Ct.of (by decide) rfl (Nat.le_of_ble_eq_true rfl) (ls := [(0, .ref 0), (1, .int p1), (2, .int p2)]) rfl ?_
  refine g_aload_n (i := 0) (by decide +kernel) rfl ?_
  refine x_getr (hs.k k_0) F_Top_19 (by decide +kernel) rfl (hs.r r_0_1) ?_
  refine g_aload_n (i := 0) (by decide +kernel) rfl ?_
  refine x_getr (hs.k k_0) F_Top_10 (by decide +kernel) rfl (hs.r r_0_0) ?_
  refine g_iload_n (i := 1) (by decide +kernel) rfl ?_
  refine g_iload_n (i := 2) (by decide +kernel) rfl ?_
  refine x_callVIp (as := [.ref 1, .int p1, .int p2]) Vi_State_hindrance Vs_State_hindrance (hs.k k_10) rfl hf (fun q hq => t_State_hindrance hs (by decide) (by decide) hq) Y_State_hindrance L_Top_162 (by decide +kernel) rfl rfl (Nat.le_of_ble_eq_true rfl) (by decide) (Nat.le_refl _) (Nat.le_refl _) (fun q1 hf => ?_)
  refine g_istore_n (i := 3) (by decide +kernel) rfl (by decide) (ls1 := [(0, .ref 0), (1, .int p1), (2, .int p2), (3, .int q1)]) rfl ?_
  refine g_iload_n (i := 3) (by decide +kernel) rfl ?_
  refine x_if_eq (off := 8) (tgt := 23) hf (by decide +kernel) (by decide) (fun c2 hf => ?_) (fun c2 hf => ?_)
  · refine g_aload_n (i := 0) (by decide +kernel) rfl ?_
    refine x_callVV (as := []) Vi_Top_willChange Vs_Top_willChange (hs.k k_0) rfl hf (fun q hq => t_Top_willChange hs  hq) Y_Top_willChange L_Top_166 (by decide +kernel) rfl rfl (Nat.le_of_ble_eq_true rfl) (by decide) (Nat.le_refl _) (Nat.le_refl _) (fun q3 hf hs => ?_)
    refine g_aload_n (i := 0) (by decide +kernel) rfl ?_
    refine x_getr (hs.k k_0) F_Top_19 (by decide +kernel) rfl (hs.r r_0_1) ?_
    refine x_getr (hs.k k_10) F_Top_159 (by decide +kernel) rfl (hs.r r_10_5) ?_
    refine g_iload_n (i := 1) (by decide +kernel) rfl ?_
    refine g_iload_n (i := 2) (by decide +kernel) rfl ?_
    refine x_iast hf hs (hs.k k_13) (by decide +kernel) (fun h4 hf hs => ?_)
    refine g_aload_n (i := 0) (by decide +kernel) rfl ?_
    refine x_getr (hs.k k_0) F_Top_19 (by decide +kernel) rfl (hs.r r_0_1) ?_
    refine x_getr (hs.k k_10) F_Top_144 (by decide +kernel) rfl (hs.r r_10_4) ?_
    refine g_iload_n (i := 1) (by decide +kernel) rfl ?_
    refine x_iald hf (hs.k k_12) (by decide +kernel) (fun x5 hf => ?_)
    refine g_iload_n (i := 2) (by decide +kernel) rfl ?_
    refine g_aload_n (i := 0) (by decide +kernel) rfl ?_
    refine x_getr (hs.k k_0) F_Top_19 (by decide +kernel) rfl (hs.r r_0_1) ?_
    refine g_aload_n (i := 0) (by decide +kernel) rfl ?_
    refine x_getr (hs.k k_0) F_Top_10 (by decide +kernel) rfl (hs.r r_0_0) ?_
    refine x_callVIp (as := [.ref 1]) Vi_State_lies Vs_State_lies (hs.k k_10) rfl hf (fun q hq => t_State_lies hs (by decide) (by decide) hq) Y_State_lies L_Top_169 (by decide +kernel) rfl rfl (Nat.le_of_ble_eq_true rfl) (by decide) (Nat.le_refl _) (Nat.le_refl _) (fun q6 hf => ?_)
    refine x_callSIp (as := [.int x5, .int p2, .int q6]) St_River_moved hf (fun q hq => t_River_moved hs  hq) Y_River_moved L_Top_173 (by decide +kernel) rfl rfl (Nat.le_of_ble_eq_true rfl) (by decide) (Nat.le_refl _) (Nat.le_refl _) (fun q7 hf => ?_)
    exact x_iret hf hs (by decide +kernel) rfl (Nat.le_refl _) (Nat.le_refl _)
  · refine g_bipush (z := (-10)) (v := (-10)) (by decide +kernel) rfl ?_
    refine g_iload_n (i := 3) (by decide +kernel) rfl ?_
    refine g_isub (by decide +kernel) ?_
    exact x_iret hf hs (by decide +kernel) rfl (Nat.le_refl _) (Nat.le_refl _)
