def f_Mod_change_L42  : Nat → Int32 → Int32 → Int32 → Int32 → Int32 → am_H → Option (Int32 × Int32 × Int32 × am_H)
  | 0, _, _, _, _, _, _ => none
  | n + 1, v1, v2, v3, v4, v5, h =>
    (am_rd (h.2.1 137) 3411 (1 : Int32)).bind fun x7 =>
    (if x7 < v5 then
      some (v1, v2, v5, h)
    else
      (am_rd (h.2.1 137) 3411 (1 : Int32)).bind fun x9 =>
      (am_wr h 137 3411 ((29 : Int32) + v3) (if v5 = x9 then (-1 : Int32) else v5)).bind fun h11 =>
      (f_Mod_inTimeMany  h11).bind fun q12 =>
      (if v1 < q12.1 then
        (am_rd (q12.2.2.1 137) 3411 (1 : Int32)).bind fun x14 =>
        (if v5 = x14 then
          f_Mod_change_L42  n q12.1 (((10 : Int32) * v3) + (9 : Int32)) v3 v4 (v5 + (1 : Int32)) q12.2
        else
          f_Mod_change_L42  n q12.1 (((10 : Int32) * v3) + v5) v3 v4 (v5 + (1 : Int32)) q12.2)
      else
        f_Mod_change_L42  n v1 v2 v3 v4 (v5 + (1 : Int32)) q12.2))
set_option maxRecDepth 100000 in
set_option maxHeartbeats 4000000 in
theorem t_Mod_change_L42   {Q : Option Value → am_H → Prop} : ∀ (n : Nat) (v1 : Int32) (v2 : Int32) (v3 : Int32) (v4 : Int32) (v5 : Int32) (h : am_H) (q : Int32 × Int32 × Int32 × am_H), am_Sh h → f_Mod_change_L42  n v1 v2 v3 v4 v5 h = some q → (am_Sh q.2.2.2 → am_G 5 M_Mod_change 0 0 Q 127 [(0, .ref 136), (1, .int q.1), (2, .int q.2.1), (3, .int v3), (4, .int v4), (5, .int q.2.2.1)] [] q.2.2.2 0 0) → am_G 5 M_Mod_change 0 0 Q 42 [(0, .ref 136), (1, .int v1), (2, .int v2), (3, .int v3), (4, .int v4), (5, .int v5)] [] h 0 0 := by
  intro n
  induction n with
  | zero =>
    intro v1 v2 v3 v4 v5 h q hs hf kont
    rw [f_Mod_change_L42] at hf
    cases hf
  | succ n ih =>
    intro v1 v2 v3 v4 v5 h q hs hf kont
    rw [f_Mod_change_L42] at hf
    refine g_iload (i := 5) (by decide +kernel) rfl ?_
    refine g_aload_n (i := 0) (by decide +kernel) rfl ?_
    refine x_getr (hs.k k_136) F_Mod_13 (by decide +kernel) rfl (hs.r r_136_1) ?_
    refine g_iconst (z := 1) (v := 1) (by decide +kernel) rfl ?_
    refine x_iald hf (hs.k k_137) (by decide +kernel) (fun x7 hf => ?_)
    refine x_icmp_gt (off := 77) (tgt := 127) hf (by decide +kernel) (by decide) (fun c8 hf => ?_) (fun c8 hf => ?_)
    · cases hf
      exact am_G.forget (am_subp [0, 1, 2, 3, 4, 5] rfl) (kont hs)
    · refine g_aload_n (i := 0) (by decide +kernel) rfl ?_
      refine x_getr (hs.k k_136) F_Mod_13 (by decide +kernel) rfl (hs.r r_136_1) ?_
      refine g_bipush (z := 29) (v := 29) (by decide +kernel) rfl ?_
      refine g_iload_n (i := 3) (by decide +kernel) rfl ?_
      refine g_iadd (by decide +kernel) ?_
      refine g_iload (i := 5) (by decide +kernel) rfl ?_
      refine g_aload_n (i := 0) (by decide +kernel) rfl ?_
      refine x_getr (hs.k k_136) F_Mod_13 (by decide +kernel) rfl (hs.r r_136_1) ?_
      refine g_iconst (z := 1) (v := 1) (by decide +kernel) rfl ?_
      refine x_iald hf (hs.k k_137) (by decide +kernel) (fun x9 hf => ?_)
      refine am_cut (J := 78) (ls' := [(0, .ref 136), (1, .int v1), (2, .int v2), (3, .int v3), (4, .int v4), (5, .int v5)]) (st' := [.int (if v5 = x9 then (-1 : Int32) else v5), .int ((29 : Int32) + v3), .ref 137]) ?_ (fun K78 => ?_)
      · refine x_iast hf hs (hs.k k_137) (by decide +kernel) (fun h11 hf hs => ?_)
        refine g_aload_n (i := 0) (by decide +kernel) rfl ?_
        refine x_callVI (as := []) Vi_Mod_inTimeMany Vs_Mod_inTimeMany (hs.k k_136) rfl hf (fun q hq => t_Mod_inTimeMany hs  hq) Y_Mod_inTimeMany L_Mod_381 (by decide +kernel) rfl rfl (Nat.le_of_ble_eq_true rfl) (by decide) (Nat.le_refl _) (Nat.le_refl _) (fun q12 hf hs => ?_)
        refine g_istore (i := 6) (by decide +kernel) rfl (by decide) (ls1 := [(0, .ref 136), (1, .int v1), (2, .int v2), (3, .int v3), (4, .int v4), (5, .int v5), (6, .int q12.1)]) rfl ?_
        refine g_iload (i := 6) (by decide +kernel) rfl ?_
        refine g_iload_n (i := 1) (by decide +kernel) rfl ?_
        refine x_icmp_gt (off := 6) (tgt := 94) hf (by decide +kernel) (by decide) (fun c13 hf => ?_) (fun c13 hf => ?_)
        · refine g_iload (i := 6) (by decide +kernel) rfl ?_
          refine g_istore_n (i := 1) (by decide +kernel) rfl (by decide) (ls1 := [(0, .ref 136), (1, .int q12.1), (2, .int v2), (3, .int v3), (4, .int v4), (5, .int v5), (6, .int q12.1)]) rfl ?_
          refine g_bipush (z := 10) (v := 10) (by decide +kernel) rfl ?_
          refine g_iload_n (i := 3) (by decide +kernel) rfl ?_
          refine g_imul (by decide +kernel) ?_
          refine g_iload (i := 5) (by decide +kernel) rfl ?_
          refine g_aload_n (i := 0) (by decide +kernel) rfl ?_
          refine x_getr (hs.k k_136) F_Mod_13 (by decide +kernel) rfl (hs.r r_136_1) ?_
          refine g_iconst (z := 1) (v := 1) (by decide +kernel) rfl ?_
          refine x_iald hf (hs.k k_137) (by decide +kernel) (fun x14 hf => ?_)
          refine x_icmp_ne (off := 8) (tgt := 117) hf (by decide +kernel) (by decide) (fun c15 hf => ?_) (fun c15 hf => ?_)
          · refine g_iload (i := 5) (by decide +kernel) rfl ?_
            refine g_iadd (by decide +kernel) ?_
            refine g_istore_n (i := 2) (by decide +kernel) rfl (by decide) (ls1 := [(0, .ref 136), (1, .int q12.1), (2, .int (((10 : Int32) * v3) + v5)), (3, .int v3), (4, .int v4), (5, .int v5), (6, .int q12.1)]) rfl ?_
            refine g_iinc (i := 5) (z := 1) (v := (v5 + (1 : Int32))) (by decide +kernel) rfl rfl rfl (by decide) (ls1 := [(0, .ref 136), (1, .int q12.1), (2, .int (((10 : Int32) * v3) + v5)), (3, .int v3), (4, .int v4), (5, .int (v5 + (1 : Int32))), (6, .int q12.1)]) rfl ?_
            refine g_goto (off := (-82)) (tgt := 42) (by decide +kernel) (by decide) ?_
            exact am_G.forget (am_subp [0, 1, 2, 3, 4, 5] rfl) (ih _ _ _ _ _ _ _ hs hf kont)
          · refine g_bipush (z := 9) (v := 9) (by decide +kernel) rfl ?_
            refine g_goto (off := 5) (tgt := 119) (by decide +kernel) (by decide) ?_
            refine g_iadd (by decide +kernel) ?_
            refine g_istore_n (i := 2) (by decide +kernel) rfl (by decide) (ls1 := [(0, .ref 136), (1, .int q12.1), (2, .int (((10 : Int32) * v3) + (9 : Int32))), (3, .int v3), (4, .int v4), (5, .int v5), (6, .int q12.1)]) rfl ?_
            refine g_iinc (i := 5) (z := 1) (v := (v5 + (1 : Int32))) (by decide +kernel) rfl rfl rfl (by decide) (ls1 := [(0, .ref 136), (1, .int q12.1), (2, .int (((10 : Int32) * v3) + (9 : Int32))), (3, .int v3), (4, .int v4), (5, .int (v5 + (1 : Int32))), (6, .int q12.1)]) rfl ?_
            refine g_goto (off := (-82)) (tgt := 42) (by decide +kernel) (by decide) ?_
            exact am_G.forget (am_subp [0, 1, 2, 3, 4, 5] rfl) (ih _ _ _ _ _ _ _ hs hf kont)
        · refine g_goto (off := 30) (tgt := 121) (by decide +kernel) (by decide) ?_
          refine g_iinc (i := 5) (z := 1) (v := (v5 + (1 : Int32))) (by decide +kernel) rfl rfl rfl (by decide) (ls1 := [(0, .ref 136), (1, .int v1), (2, .int v2), (3, .int v3), (4, .int v4), (5, .int (v5 + (1 : Int32))), (6, .int q12.1)]) rfl ?_
          refine g_goto (off := (-82)) (tgt := 42) (by decide +kernel) (by decide) ?_
          exact am_G.forget (am_subp [0, 1, 2, 3, 4, 5] rfl) (ih _ _ _ _ _ _ _ hs hf kont)
      refine p_icmp_ne (off := 7) (tgt := 76) (by decide +kernel) (by decide) (fun c10 => ?_) (fun c10 => ?_)
      · refine g_iload (i := 5) (by decide +kernel) rfl ?_
        have K1 := K78
        simp only [if_neg c10] at K1
        exact am_G.forget (am_subp [0, 1, 2, 3, 4, 5] rfl) K1
      · refine g_iconst (z := (-1)) (v := (-1)) (by decide +kernel) rfl ?_
        refine g_goto (off := 5) (tgt := 78) (by decide +kernel) (by decide) ?_
        have K1 := K78
        simp only [if_pos c10] at K1
        exact am_G.forget (am_subp [0, 1, 2, 3, 4, 5] rfl) K1
def f_Mod_change_L18  : Nat → Int32 → Int32 → Int32 → am_H → Option (Int32 × Int32 × Int32 × am_H)
  | 0, _, _, _, _ => none
  | n + 1, v1, v2, v3, h =>
    (am_rd (h.2.1 137) 3411 (2 : Int32)).bind fun x4 =>
    (if x4 ≤ v3 then
      some (v1, v2, v3, h)
    else
      (am_rd (h.2.1 137) 3411 ((29 : Int32) + v3)).bind fun x6 =>
      (f_Mod_change_L42  am_fu v1 v2 v3 x6 (0 : Int32) h).bind fun q16 =>
      (am_wr q16.2.2.2 137 3411 ((29 : Int32) + v3) x6).bind fun h17 =>
      f_Mod_change_L18  n q16.1 q16.2.1 (v3 + (1 : Int32)) h17)
set_option maxRecDepth 100000 in
set_option maxHeartbeats 4000000 in
theorem t_Mod_change_L18   {Q : Option Value → am_H → Prop} : ∀ (n : Nat) (v1 : Int32) (v2 : Int32) (v3 : Int32) (h : am_H) (q : Int32 × Int32 × Int32 × am_H), am_Sh h → f_Mod_change_L18  n v1 v2 v3 h = some q → (am_Sh q.2.2.2 → am_G 5 M_Mod_change 0 0 Q 144 [(0, .ref 136), (1, .int q.1), (2, .int q.2.1), (3, .int q.2.2.1)] [] q.2.2.2 0 0) → am_G 5 M_Mod_change 0 0 Q 18 [(0, .ref 136), (1, .int v1), (2, .int v2), (3, .int v3)] [] h 0 0 := by
  intro n
  induction n with
  | zero =>
    intro v1 v2 v3 h q hs hf kont
    rw [f_Mod_change_L18] at hf
    cases hf
  | succ n ih =>
    intro v1 v2 v3 h q hs hf kont
    rw [f_Mod_change_L18] at hf
    refine g_iload_n (i := 3) (by decide +kernel) rfl ?_
    refine g_aload_n (i := 0) (by decide +kernel) rfl ?_
    refine x_getr (hs.k k_136) F_Mod_13 (by decide +kernel) rfl (hs.r r_136_1) ?_
    refine g_iconst (z := 2) (v := 2) (by decide +kernel) rfl ?_
    refine x_iald hf (hs.k k_137) (by decide +kernel) (fun x4 hf => ?_)
    refine x_icmp_ge (off := 119) (tgt := 144) hf (by decide +kernel) (by decide) (fun c5 hf => ?_) (fun c5 hf => ?_)
    · cases hf
      exact am_G.forget (am_subp [0, 1, 2, 3] rfl) (kont hs)
    · refine g_aload_n (i := 0) (by decide +kernel) rfl ?_
      refine x_getr (hs.k k_136) F_Mod_13 (by decide +kernel) rfl (hs.r r_136_1) ?_
      refine g_bipush (z := 29) (v := 29) (by decide +kernel) rfl ?_
      refine g_iload_n (i := 3) (by decide +kernel) rfl ?_
      refine g_iadd (by decide +kernel) ?_
      refine x_iald hf (hs.k k_137) (by decide +kernel) (fun x6 hf => ?_)
      refine g_istore (i := 4) (by decide +kernel) rfl (by decide) (ls1 := [(0, .ref 136), (1, .int v1), (2, .int v2), (3, .int v3), (4, .int x6)]) rfl ?_
      refine g_iconst (z := 0) (v := 0) (by decide +kernel) rfl ?_
      refine g_istore (i := 5) (by decide +kernel) rfl (by decide) (ls1 := [(0, .ref 136), (1, .int v1), (2, .int v2), (3, .int v3), (4, .int x6), (5, .int (0 : Int32))]) rfl ?_
      obtain ⟨q16, hqq16, hf⟩ := Option.bind_eq_some_iff.mp hf
      refine am_G.forget (am_subp [0, 1, 2, 3, 4, 5] rfl) (t_Mod_change_L42  am_fu _ _ _ _ _ _ q16 hs hqq16 (fun hs => ?_))
      refine g_aload_n (i := 0) (by decide +kernel) rfl ?_
      refine x_getr (hs.k k_136) F_Mod_13 (by decide +kernel) rfl (hs.r r_136_1) ?_
      refine g_bipush (z := 29) (v := 29) (by decide +kernel) rfl ?_
      refine g_iload_n (i := 3) (by decide +kernel) rfl ?_
      refine g_iadd (by decide +kernel) ?_
      refine g_iload (i := 4) (by decide +kernel) rfl ?_
      refine x_iast hf hs (hs.k k_137) (by decide +kernel) (fun h17 hf hs => ?_)
      refine g_iinc (i := 3) (z := 1) (v := (v3 + (1 : Int32))) (by decide +kernel) rfl rfl rfl (by decide) (ls1 := [(0, .ref 136), (1, .int q16.1), (2, .int q16.2.1), (3, .int (v3 + (1 : Int32))), (4, .int x6), (5, .int q16.2.2.1)]) rfl ?_
      refine g_goto (off := (-123)) (tgt := 18) (by decide +kernel) (by decide) ?_
      exact am_G.forget (am_subp [0, 1, 2, 3] rfl) (ih _ _ _ _ _ hs hf kont)
def f_Mod_change  (h : am_H) : Option (Int32 × am_H) :=
  am_let (am_sI h 136 0 (0 : Int32)) fun h1 =>
  (f_Mod_keepsLets  h1).bind fun q2 =>
  (f_Mod_inTimeMany  q2).bind fun q3 =>
  (f_Mod_change_L18  am_fu q3.1 (-1 : Int32) (0 : Int32) q3.2).bind fun q18 =>
  some (q18.2.1, q18.2.2.2)
set_option maxRecDepth 100000 in
set_option maxHeartbeats 4000000 in
theorem t_Mod_change  {h : am_H} (hs : am_Sh h)  {r : Int32 × am_H} (hf : f_Mod_change  h = some r) : am_Ct 5 M_Mod_change [.ref 136] h 0 0 (am_qI r) := by
  unfold f_Mod_change at hf
  refine am_Ct.of (by decide) rfl (Nat.le_of_ble_eq_true rfl) (ls := [(0, .ref 136)]) rfl ?_
  refine g_aload_n (i := 0) (by decide +kernel) rfl ?_
  refine g_iconst (z := 0) (v := 0) (by decide +kernel) rfl ?_
  refine x_puti hf hs (hs.k k_136) F_Mod_1 (by decide +kernel) rfl rfl rfl rfl (fun h1 hf hs => ?_)
  refine g_aload_n (i := 0) (by decide +kernel) rfl ?_
  refine x_callVV (as := []) Vi_Mod_keepsLets Vs_Mod_keepsLets (hs.k k_136) rfl hf (fun q hq => t_Mod_keepsLets hs  hq) Y_Mod_keepsLets L_Mod_399 (by decide +kernel) rfl rfl (Nat.le_of_ble_eq_true rfl) (by decide) (Nat.le_refl _) (Nat.le_refl _) (fun q2 hf hs => ?_)
  refine g_aload_n (i := 0) (by decide +kernel) rfl ?_
  refine x_callVI (as := []) Vi_Mod_inTimeMany Vs_Mod_inTimeMany (hs.k k_136) rfl hf (fun q hq => t_Mod_inTimeMany hs  hq) Y_Mod_inTimeMany L_Mod_381 (by decide +kernel) rfl rfl (Nat.le_of_ble_eq_true rfl) (by decide) (Nat.le_refl _) (Nat.le_refl _) (fun q3 hf hs => ?_)
  refine g_istore_n (i := 1) (by decide +kernel) rfl (by decide) (ls1 := [(0, .ref 136), (1, .int q3.1)]) rfl ?_
  refine g_iconst (z := (-1)) (v := (-1)) (by decide +kernel) rfl ?_
  refine g_istore_n (i := 2) (by decide +kernel) rfl (by decide) (ls1 := [(0, .ref 136), (1, .int q3.1), (2, .int (-1 : Int32))]) rfl ?_
  refine g_iconst (z := 0) (v := 0) (by decide +kernel) rfl ?_
  refine g_istore_n (i := 3) (by decide +kernel) rfl (by decide) (ls1 := [(0, .ref 136), (1, .int q3.1), (2, .int (-1 : Int32)), (3, .int (0 : Int32))]) rfl ?_
  obtain ⟨q18, hqq18, hf⟩ := Option.bind_eq_some_iff.mp hf
  refine am_G.forget (am_subp [0, 1, 2, 3] rfl) (t_Mod_change_L18  am_fu _ _ _ _ q18 hs hqq18 (fun hs => ?_))
  refine g_iload_n (i := 2) (by decide +kernel) rfl ?_
  exact x_iret hf hs (by decide +kernel) rfl (Nat.le_refl _) (Nat.le_refl _)
def f_Mod_shift_L11  : Nat → Int32 → am_H → Option (Int32 × am_H)
  | 0, _, _ => none
  | n + 1, v1, h =>
    (if (6 : Int32) ≤ v1 then
      some (v1, h)
    else
      (am_rd (h.2.1 137) 3411 ((29 : Int32) + v1)).bind fun x4 =>
      (am_wr h 151 6 v1 x4).bind fun h5 =>
      f_Mod_shift_L11  n (v1 + (1 : Int32)) h5)
set_option maxRecDepth 100000 in
set_option maxHeartbeats 4000000 in
theorem t_Mod_shift_L11   {Q : Option Value → am_H → Prop} : ∀ (n : Nat) (v1 : Int32) (h : am_H) (q : Int32 × am_H), am_Sh h → f_Mod_shift_L11  n v1 h = some q → (am_Sh q.2 → am_G 5 M_Mod_shift 0 0 Q 38 [(0, .ref 136), (1, .int q.1)] [] q.2 0 0) → am_G 5 M_Mod_shift 0 0 Q 11 [(0, .ref 136), (1, .int v1)] [] h 0 0 := by
  intro n
  induction n with
  | zero =>
    intro v1 h q hs hf kont
    rw [f_Mod_shift_L11] at hf
    cases hf
  | succ n ih =>
    intro v1 h q hs hf kont
    rw [f_Mod_shift_L11] at hf
    refine g_iload_n (i := 1) (by decide +kernel) rfl ?_
    refine g_bipush (z := 6) (v := 6) (by decide +kernel) rfl ?_
    refine x_icmp_ge (off := 24) (tgt := 38) hf (by decide +kernel) (by decide) (fun c3 hf => ?_) (fun c3 hf => ?_)
    · cases hf
      exact am_G.forget (am_subp [0, 1] rfl) (kont hs)
    · refine g_aload_n (i := 0) (by decide +kernel) rfl ?_
      refine x_getr (hs.k k_136) F_Mod_61 (by decide +kernel) rfl (hs.r r_136_28) ?_
      refine g_iload_n (i := 1) (by decide +kernel) rfl ?_
      refine g_aload_n (i := 0) (by decide +kernel) rfl ?_
      refine x_getr (hs.k k_136) F_Mod_13 (by decide +kernel) rfl (hs.r r_136_1) ?_
      refine g_bipush (z := 29) (v := 29) (by decide +kernel) rfl ?_
      refine g_iload_n (i := 1) (by decide +kernel) rfl ?_
      refine g_iadd (by decide +kernel) ?_
      refine x_iald hf (hs.k k_137) (by decide +kernel) (fun x4 hf => ?_)
      refine x_iast hf hs (hs.k k_151) (by decide +kernel) (fun h5 hf hs => ?_)
      refine g_iinc (i := 1) (z := 1) (v := (v1 + (1 : Int32))) (by decide +kernel) rfl rfl rfl (by decide) (ls1 := [(0, .ref 136), (1, .int (v1 + (1 : Int32)))]) rfl ?_
      refine g_goto (off := (-24)) (tgt := 11) (by decide +kernel) (by decide) ?_
      exact am_G.forget (am_subp [0, 1] rfl) (ih _ _ _ hs hf kont)
def f_Mod_shift_L57  : Nat → Int32 → Int32 → Int32 → Int32 → am_H → Option (Int32 × am_H)
  | 0, _, _, _, _, _ => none
  | n + 1, v1, v2, v3, v4, h =>
    (am_rd (h.2.1 137) 3411 (2 : Int32)).bind fun x9 =>
    (if x9 ≤ v4 then
      some (v4, h)
    else
      (am_rd (h.2.1 137) 3411 (2 : Int32)).bind fun x11 =>
      (am_rd (h.2.1 137) 3411 (2 : Int32)).bind fun x12 =>
      (am_md ((v4 + x11) - v3) x12).bind fun x13 =>
      (am_rd (h.2.1 151) 6 x13).bind fun x14 =>
      (am_wr h 137 3411 ((29 : Int32) + v4) x14).bind fun h15 =>
      f_Mod_shift_L57  n v1 v2 v3 (v4 + (1 : Int32)) h15)
set_option maxRecDepth 100000 in
set_option maxHeartbeats 4000000 in
theorem t_Mod_shift_L57   {Q : Option Value → am_H → Prop} : ∀ (n : Nat) (v1 : Int32) (v2 : Int32) (v3 : Int32) (v4 : Int32) (h : am_H) (q : Int32 × am_H), am_Sh h → f_Mod_shift_L57  n v1 v2 v3 v4 h = some q → (am_Sh q.2 → am_G 5 M_Mod_shift 0 0 Q 107 [(0, .ref 136), (1, .int v1), (2, .int v2), (3, .int v3), (4, .int q.1)] [] q.2 0 0) → am_G 5 M_Mod_shift 0 0 Q 57 [(0, .ref 136), (1, .int v1), (2, .int v2), (3, .int v3), (4, .int v4)] [] h 0 0 := by
  intro n
  induction n with
  | zero =>
    intro v1 v2 v3 v4 h q hs hf kont
    rw [f_Mod_shift_L57] at hf
    cases hf
  | succ n ih =>
    intro v1 v2 v3 v4 h q hs hf kont
    rw [f_Mod_shift_L57] at hf
    refine g_iload (i := 4) (by decide +kernel) rfl ?_
    refine g_aload_n (i := 0) (by decide +kernel) rfl ?_
    refine x_getr (hs.k k_136) F_Mod_13 (by decide +kernel) rfl (hs.r r_136_1) ?_
    refine g_iconst (z := 2) (v := 2) (by decide +kernel) rfl ?_
    refine x_iald hf (hs.k k_137) (by decide +kernel) (fun x9 hf => ?_)
    refine x_icmp_ge (off := 42) (tgt := 107) hf (by decide +kernel) (by decide) (fun c10 hf => ?_) (fun c10 hf => ?_)
    · cases hf
      exact am_G.forget (am_subp [0, 1, 2, 3, 4] rfl) (kont hs)
    · refine g_aload_n (i := 0) (by decide +kernel) rfl ?_
      refine x_getr (hs.k k_136) F_Mod_13 (by decide +kernel) rfl (hs.r r_136_1) ?_
      refine g_bipush (z := 29) (v := 29) (by decide +kernel) rfl ?_
      refine g_iload (i := 4) (by decide +kernel) rfl ?_
      refine g_iadd (by decide +kernel) ?_
      refine g_aload_n (i := 0) (by decide +kernel) rfl ?_
      refine x_getr (hs.k k_136) F_Mod_61 (by decide +kernel) rfl (hs.r r_136_28) ?_
      refine g_iload (i := 4) (by decide +kernel) rfl ?_
      refine g_aload_n (i := 0) (by decide +kernel) rfl ?_
      refine x_getr (hs.k k_136) F_Mod_13 (by decide +kernel) rfl (hs.r r_136_1) ?_
      refine g_iconst (z := 2) (v := 2) (by decide +kernel) rfl ?_
      refine x_iald hf (hs.k k_137) (by decide +kernel) (fun x11 hf => ?_)
      refine g_iadd (by decide +kernel) ?_
      refine g_iload_n (i := 3) (by decide +kernel) rfl ?_
      refine g_isub (by decide +kernel) ?_
      refine g_aload_n (i := 0) (by decide +kernel) rfl ?_
      refine x_getr (hs.k k_136) F_Mod_13 (by decide +kernel) rfl (hs.r r_136_1) ?_
      refine g_iconst (z := 2) (v := 2) (by decide +kernel) rfl ?_
      refine x_iald hf (hs.k k_137) (by decide +kernel) (fun x12 hf => ?_)
      refine x_irem hf (by decide +kernel) (fun x13 hf => ?_)
      refine x_iald hf (hs.k k_151) (by decide +kernel) (fun x14 hf => ?_)
      refine x_iast hf hs (hs.k k_137) (by decide +kernel) (fun h15 hf hs => ?_)
      refine g_iinc (i := 4) (z := 1) (v := (v4 + (1 : Int32))) (by decide +kernel) rfl rfl rfl (by decide) (ls1 := [(0, .ref 136), (1, .int v1), (2, .int v2), (3, .int v3), (4, .int (v4 + (1 : Int32)))]) rfl ?_
      refine g_goto (off := (-47)) (tgt := 57) (by decide +kernel) (by decide) ?_
      exact am_G.forget (am_subp [0, 1, 2, 3, 4] rfl) (ih _ _ _ _ _ _ hs hf kont)
def f_Mod_shift_L44  : Nat → Int32 → Int32 → Int32 → am_H → Option (Int32 × Int32 × Int32 × am_H)
  | 0, _, _, _, _ => none
  | n + 1, v1, v2, v3, h =>
    (am_rd (h.2.1 137) 3411 (2 : Int32)).bind fun x7 =>
    (if x7 ≤ v3 then
      some (v1, v2, v3, h)
    else
      (f_Mod_shift_L57  am_fu v1 v2 v3 (0 : Int32) h).bind fun q16 =>
      (f_Mod_inTimeMany  q16.2).bind fun q17 =>
      (if v2 < q17.1 then
        f_Mod_shift_L44  n v3 q17.1 (v3 + (1 : Int32)) q17.2
      else
        f_Mod_shift_L44  n v1 v2 (v3 + (1 : Int32)) q17.2))
set_option maxRecDepth 100000 in
set_option maxHeartbeats 4000000 in
theorem t_Mod_shift_L44   {Q : Option Value → am_H → Prop} : ∀ (n : Nat) (v1 : Int32) (v2 : Int32) (v3 : Int32) (h : am_H) (q : Int32 × Int32 × Int32 × am_H), am_Sh h → f_Mod_shift_L44  n v1 v2 v3 h = some q → (am_Sh q.2.2.2 → am_G 5 M_Mod_shift 0 0 Q 133 [(0, .ref 136), (1, .int q.1), (2, .int q.2.1), (3, .int q.2.2.1)] [] q.2.2.2 0 0) → am_G 5 M_Mod_shift 0 0 Q 44 [(0, .ref 136), (1, .int v1), (2, .int v2), (3, .int v3)] [] h 0 0 := by
  intro n
  induction n with
  | zero =>
    intro v1 v2 v3 h q hs hf kont
    rw [f_Mod_shift_L44] at hf
    cases hf
  | succ n ih =>
    intro v1 v2 v3 h q hs hf kont
    rw [f_Mod_shift_L44] at hf
    refine g_iload_n (i := 3) (by decide +kernel) rfl ?_
    refine g_aload_n (i := 0) (by decide +kernel) rfl ?_
    refine x_getr (hs.k k_136) F_Mod_13 (by decide +kernel) rfl (hs.r r_136_1) ?_
    refine g_iconst (z := 2) (v := 2) (by decide +kernel) rfl ?_
    refine x_iald hf (hs.k k_137) (by decide +kernel) (fun x7 hf => ?_)
    refine x_icmp_ge (off := 82) (tgt := 133) hf (by decide +kernel) (by decide) (fun c8 hf => ?_) (fun c8 hf => ?_)
    · cases hf
      exact am_G.forget (am_subp [0, 1, 2, 3] rfl) (kont hs)
    · refine g_iconst (z := 0) (v := 0) (by decide +kernel) rfl ?_
      refine g_istore (i := 4) (by decide +kernel) rfl (by decide) (ls1 := [(0, .ref 136), (1, .int v1), (2, .int v2), (3, .int v3), (4, .int (0 : Int32))]) rfl ?_
      obtain ⟨q16, hqq16, hf⟩ := Option.bind_eq_some_iff.mp hf
      refine am_G.forget (am_subp [0, 1, 2, 3, 4] rfl) (t_Mod_shift_L57  am_fu _ _ _ _ _ q16 hs hqq16 (fun hs => ?_))
      refine g_aload_n (i := 0) (by decide +kernel) rfl ?_
      refine x_callVI (as := []) Vi_Mod_inTimeMany Vs_Mod_inTimeMany (hs.k k_136) rfl hf (fun q hq => t_Mod_inTimeMany hs  hq) Y_Mod_inTimeMany L_Mod_381 (by decide +kernel) rfl rfl (Nat.le_of_ble_eq_true rfl) (by decide) (Nat.le_refl _) (Nat.le_refl _) (fun q17 hf hs => ?_)
      refine g_istore (i := 4) (by decide +kernel) rfl (by decide) (ls1 := [(0, .ref 136), (1, .int v1), (2, .int v2), (3, .int v3), (4, .int q17.1)]) rfl ?_
      refine g_iload (i := 4) (by decide +kernel) rfl ?_
      refine g_iload_n (i := 2) (by decide +kernel) rfl ?_
      refine x_icmp_gt (off := 6) (tgt := 122) hf (by decide +kernel) (by decide) (fun c18 hf => ?_) (fun c18 hf => ?_)
      · refine g_iload_n (i := 3) (by decide +kernel) rfl ?_
        refine g_istore_n (i := 1) (by decide +kernel) rfl (by decide) (ls1 := [(0, .ref 136), (1, .int v3), (2, .int v2), (3, .int v3), (4, .int q17.1)]) rfl ?_
        refine g_iload (i := 4) (by decide +kernel) rfl ?_
        refine g_istore_n (i := 2) (by decide +kernel) rfl (by decide) (ls1 := [(0, .ref 136), (1, .int v3), (2, .int q17.1), (3, .int v3), (4, .int q17.1)]) rfl ?_
        refine g_iinc (i := 3) (z := 1) (v := (v3 + (1 : Int32))) (by decide +kernel) rfl rfl rfl (by decide) (ls1 := [(0, .ref 136), (1, .int v3), (2, .int q17.1), (3, .int (v3 + (1 : Int32))), (4, .int q17.1)]) rfl ?_
        refine g_goto (off := (-86)) (tgt := 44) (by decide +kernel) (by decide) ?_
        exact am_G.forget (am_subp [0, 1, 2, 3] rfl) (ih _ _ _ _ _ hs hf kont)
      · refine g_goto (off := 8) (tgt := 127) (by decide +kernel) (by decide) ?_
        refine g_iinc (i := 3) (z := 1) (v := (v3 + (1 : Int32))) (by decide +kernel) rfl rfl rfl (by decide) (ls1 := [(0, .ref 136), (1, .int v1), (2, .int v2), (3, .int (v3 + (1 : Int32))), (4, .int q17.1)]) rfl ?_
        refine g_goto (off := (-86)) (tgt := 44) (by decide +kernel) (by decide) ?_
        exact am_G.forget (am_subp [0, 1, 2, 3] rfl) (ih _ _ _ _ _ hs hf kont)
def f_Mod_shift_L135  : Nat → Int32 → Int32 → Int32 → am_H → Option (Int32 × am_H)
  | 0, _, _, _, _ => none
  | n + 1, v1, v2, v3, h =>
    (if (6 : Int32) ≤ v3 then
      some (v3, h)
    else
      (am_rd (h.2.1 151) 6 v3).bind fun x21 =>
      (am_wr h 137 3411 ((29 : Int32) + v3) x21).bind fun h22 =>
      f_Mod_shift_L135  n v1 v2 (v3 + (1 : Int32)) h22)
set_option maxRecDepth 100000 in
set_option maxHeartbeats 4000000 in
theorem t_Mod_shift_L135   {Q : Option Value → am_H → Prop} : ∀ (n : Nat) (v1 : Int32) (v2 : Int32) (v3 : Int32) (h : am_H) (q : Int32 × am_H), am_Sh h → f_Mod_shift_L135  n v1 v2 v3 h = some q → (am_Sh q.2 → am_G 5 M_Mod_shift 0 0 Q 162 [(0, .ref 136), (1, .int v1), (2, .int v2), (3, .int q.1)] [] q.2 0 0) → am_G 5 M_Mod_shift 0 0 Q 135 [(0, .ref 136), (1, .int v1), (2, .int v2), (3, .int v3)] [] h 0 0 := by
  intro n
  induction n with
  | zero =>
    intro v1 v2 v3 h q hs hf kont
    rw [f_Mod_shift_L135] at hf
    cases hf
  | succ n ih =>
    intro v1 v2 v3 h q hs hf kont
    rw [f_Mod_shift_L135] at hf
    refine g_iload_n (i := 3) (by decide +kernel) rfl ?_
    refine g_bipush (z := 6) (v := 6) (by decide +kernel) rfl ?_
    refine x_icmp_ge (off := 24) (tgt := 162) hf (by decide +kernel) (by decide) (fun c20 hf => ?_) (fun c20 hf => ?_)
    · cases hf
      exact am_G.forget (am_subp [0, 1, 2, 3] rfl) (kont hs)
    · refine g_aload_n (i := 0) (by decide +kernel) rfl ?_
      refine x_getr (hs.k k_136) F_Mod_13 (by decide +kernel) rfl (hs.r r_136_1) ?_
      refine g_bipush (z := 29) (v := 29) (by decide +kernel) rfl ?_
      refine g_iload_n (i := 3) (by decide +kernel) rfl ?_
      refine g_iadd (by decide +kernel) ?_
      refine g_aload_n (i := 0) (by decide +kernel) rfl ?_
      refine x_getr (hs.k k_136) F_Mod_61 (by decide +kernel) rfl (hs.r r_136_28) ?_
      refine g_iload_n (i := 3) (by decide +kernel) rfl ?_
      refine x_iald hf (hs.k k_151) (by decide +kernel) (fun x21 hf => ?_)
      refine x_iast hf hs (hs.k k_137) (by decide +kernel) (fun h22 hf hs => ?_)
      refine g_iinc (i := 3) (z := 1) (v := (v3 + (1 : Int32))) (by decide +kernel) rfl rfl rfl (by decide) (ls1 := [(0, .ref 136), (1, .int v1), (2, .int v2), (3, .int (v3 + (1 : Int32)))]) rfl ?_
      refine g_goto (off := (-24)) (tgt := 135) (by decide +kernel) (by decide) ?_
      exact am_G.forget (am_subp [0, 1, 2, 3] rfl) (ih _ _ _ _ _ hs hf kont)
def f_Mod_shift  (h : am_H) : Option (Int32 × am_H) :=
  am_let (am_sI h 136 0 (0 : Int32)) fun h1 =>
  (f_Mod_keepsLets  h1).bind fun q2 =>
  (f_Mod_shift_L11  am_fu (0 : Int32) q2).bind fun q6 =>
  (f_Mod_shift_L44  am_fu (0 : Int32) (-1 : Int32) (0 : Int32) q6.2).bind fun q19 =>
  (f_Mod_shift_L135  am_fu q19.1 q19.2.1 (0 : Int32) q19.2.2.2).bind fun q23 =>
  some (q19.1, q23.2)
set_option maxRecDepth 100000 in
set_option maxHeartbeats 4000000 in
theorem t_Mod_shift  {h : am_H} (hs : am_Sh h)  {r : Int32 × am_H} (hf : f_Mod_shift  h = some r) : am_Ct 5 M_Mod_shift [.ref 136] h 0 0 (am_qI r) := by
  unfold f_Mod_shift at hf
  refine am_Ct.of (by decide) rfl (Nat.le_of_ble_eq_true rfl) (ls := [(0, .ref 136)]) rfl ?_
  refine g_aload_n (i := 0) (by decide +kernel) rfl ?_
  refine g_iconst (z := 0) (v := 0) (by decide +kernel) rfl ?_
  refine x_puti hf hs (hs.k k_136) F_Mod_1 (by decide +kernel) rfl rfl rfl rfl (fun h1 hf hs => ?_)
  refine g_aload_n (i := 0) (by decide +kernel) rfl ?_
  refine x_callVV (as := []) Vi_Mod_keepsLets Vs_Mod_keepsLets (hs.k k_136) rfl hf (fun q hq => t_Mod_keepsLets hs  hq) Y_Mod_keepsLets L_Mod_399 (by decide +kernel) rfl rfl (Nat.le_of_ble_eq_true rfl) (by decide) (Nat.le_refl _) (Nat.le_refl _) (fun q2 hf hs => ?_)
  refine g_iconst (z := 0) (v := 0) (by decide +kernel) rfl ?_
  refine g_istore_n (i := 1) (by decide +kernel) rfl (by decide) (ls1 := [(0, .ref 136), (1, .int (0 : Int32))]) rfl ?_
  obtain ⟨q6, hqq6, hf⟩ := Option.bind_eq_some_iff.mp hf
  refine am_G.forget (am_subp [0, 1] rfl) (t_Mod_shift_L11  am_fu _ _ q6 hs hqq6 (fun hs => ?_))
  refine g_iconst (z := 0) (v := 0) (by decide +kernel) rfl ?_
  refine g_istore_n (i := 1) (by decide +kernel) rfl (by decide) (ls1 := [(0, .ref 136), (1, .int (0 : Int32))]) rfl ?_
  refine g_iconst (z := (-1)) (v := (-1)) (by decide +kernel) rfl ?_
  refine g_istore_n (i := 2) (by decide +kernel) rfl (by decide) (ls1 := [(0, .ref 136), (1, .int (0 : Int32)), (2, .int (-1 : Int32))]) rfl ?_
  refine g_iconst (z := 0) (v := 0) (by decide +kernel) rfl ?_
  refine g_istore_n (i := 3) (by decide +kernel) rfl (by decide) (ls1 := [(0, .ref 136), (1, .int (0 : Int32)), (2, .int (-1 : Int32)), (3, .int (0 : Int32))]) rfl ?_
  obtain ⟨q19, hqq19, hf⟩ := Option.bind_eq_some_iff.mp hf
  refine am_G.forget (am_subp [0, 1, 2, 3] rfl) (t_Mod_shift_L44  am_fu _ _ _ _ q19 hs hqq19 (fun hs => ?_))
  refine g_iconst (z := 0) (v := 0) (by decide +kernel) rfl ?_
  refine g_istore_n (i := 3) (by decide +kernel) rfl (by decide) (ls1 := [(0, .ref 136), (1, .int q19.1), (2, .int q19.2.1), (3, .int (0 : Int32))]) rfl ?_
  obtain ⟨q23, hqq23, hf⟩ := Option.bind_eq_some_iff.mp hf
  refine am_G.forget (am_subp [0, 1, 2, 3] rfl) (t_Mod_shift_L135  am_fu _ _ _ _ q23 hs hqq23 (fun hs => ?_))
  refine g_iload_n (i := 1) (by decide +kernel) rfl ?_
  exact x_iret hf hs (by decide +kernel) rfl (Nat.le_refl _) (Nat.le_refl _)
def f_Mod_noSeen_L59 (p1 : Int32) (p2 : Int32) : Nat → Int32 → Int32 → am_H → Option (Int32)
  | 0, _, _, _ => none
  | n + 1, v3, v4, h =>
    (am_rd (h.2.1 159) 4 p1).bind fun x10 =>
    (if x10 ≤ v4 then
      some (0 : Int32)
    else
      (am_rd (h.2.2.1 160) 160 (((40 : Int32) * p1) + v4)).bind fun x12 =>
      (if (lg_cmp x12 (-1 : Int64)) = 0 then
        f_Mod_noSeen_L59 p1 p2 n v3 (v4 + (1 : Int32)) h
      else
        (am_rd (h.2.2.1 160) 160 (((40 : Int32) * p1) + v4)).bind fun x14 =>
        (f_Mod_isSpot x14 h).bind fun q15 =>
        (if q15 = true then
          f_Mod_noSeen_L59 p1 p2 n v3 (v4 + (1 : Int32)) h
        else
          some (-3 : Int32))))
set_option maxRecDepth 100000 in
set_option maxHeartbeats 4000000 in
theorem t_Mod_noSeen_L59 {p1 : Int32} {p2 : Int32}  : ∀ (n : Nat) (v3 : Int32) (v4 : Int32) (h : am_H) (r : Int32), am_Sh h → f_Mod_noSeen_L59 p1 p2 n v3 v4 h = some r → am_G 2 M_Mod_noSeen 0 0 (am_pI h r) 59 [(0, .ref 136), (1, .int p1), (2, .int p2), (3, .int v3), (4, .int v4)] [] h 0 0 := by
  intro n
  induction n with
  | zero =>
    intro v3 v4 h r hs hf
    rw [f_Mod_noSeen_L59] at hf
    cases hf
  | succ n ih =>
    intro v3 v4 h r hs hf
    rw [f_Mod_noSeen_L59] at hf
    refine g_iload (i := 4) (by decide +kernel) rfl ?_
    refine g_aload_n (i := 0) (by decide +kernel) rfl ?_
    refine x_getr (hs.k k_136) F_Mod_85 (by decide +kernel) rfl (hs.r r_136_39) ?_
    refine g_iload_n (i := 1) (by decide +kernel) rfl ?_
    refine x_iald hf (hs.k k_159) (by decide +kernel) (fun x10 hf => ?_)
    refine x_icmp_ge (off := 50) (tgt := 117) hf (by decide +kernel) (by decide) (fun c11 hf => ?_) (fun c11 hf => ?_)
    · refine g_iconst (z := 0) (v := 0) (by decide +kernel) rfl ?_
      exact x_iretp hf (by decide +kernel) rfl (Nat.le_refl _) (Nat.le_refl _)
    · refine g_aload_n (i := 0) (by decide +kernel) rfl ?_
      refine x_getr (hs.k k_136) F_Mod_88 (by decide +kernel) rfl (hs.r r_136_40) ?_
      refine g_bipush (z := 40) (v := 40) (by decide +kernel) rfl ?_
      refine g_iload_n (i := 1) (by decide +kernel) rfl ?_
      refine g_imul (by decide +kernel) ?_
      refine g_iload (i := 4) (by decide +kernel) rfl ?_
      refine g_iadd (by decide +kernel) ?_
      refine x_lald hf (hs.k k_160) (by decide +kernel) (fun x12 hf => ?_)
      refine g_ldc2 (by decide +kernel) C_Mod_274 ?_
      refine g_lcmp (by decide +kernel) ?_
      refine x_if_eq (off := 25) (tgt := 111) hf (by decide +kernel) (by decide) (fun c13 hf => ?_) (fun c13 hf => ?_)
      · refine g_iinc (i := 4) (z := 1) (v := (v4 + (1 : Int32))) (by decide +kernel) rfl rfl rfl (by decide) (ls1 := [(0, .ref 136), (1, .int p1), (2, .int p2), (3, .int v3), (4, .int (v4 + (1 : Int32)))]) rfl ?_
        refine g_goto (off := (-55)) (tgt := 59) (by decide +kernel) (by decide) ?_
        exact am_G.forget (am_subp [0, 1, 2, 3, 4] rfl) (ih _ _ _ _ hs hf)
      · refine g_aload_n (i := 0) (by decide +kernel) rfl ?_
        refine g_aload_n (i := 0) (by decide +kernel) rfl ?_
        refine x_getr (hs.k k_136) F_Mod_88 (by decide +kernel) rfl (hs.r r_136_40) ?_
        refine g_bipush (z := 40) (v := 40) (by decide +kernel) rfl ?_
        refine g_iload_n (i := 1) (by decide +kernel) rfl ?_
        refine g_imul (by decide +kernel) ?_
        refine g_iload (i := 4) (by decide +kernel) rfl ?_
        refine g_iadd (by decide +kernel) ?_
        refine x_lald hf (hs.k k_160) (by decide +kernel) (fun x14 hf => ?_)
        refine x_callVBp (as := [.long x14]) Vi_Mod_isSpot Vs_Mod_isSpot (hs.k k_136) rfl hf (fun q hq => t_Mod_isSpot hs  hq) Y_Mod_isSpot L_Mod_339 (by decide +kernel) rfl rfl (Nat.le_of_ble_eq_true rfl) (by decide) (Nat.le_refl _) (Nat.le_refl _) (fun q15 hf => ?_)
        refine x_ifb_ne (off := 6) (tgt := 111) hf (by decide +kernel) (by decide) (fun c16 hf => ?_) (fun c16 hf => ?_)
        · refine g_iinc (i := 4) (z := 1) (v := (v4 + (1 : Int32))) (by decide +kernel) rfl rfl rfl (by decide) (ls1 := [(0, .ref 136), (1, .int p1), (2, .int p2), (3, .int v3), (4, .int (v4 + (1 : Int32)))]) rfl ?_
          refine g_goto (off := (-55)) (tgt := 59) (by decide +kernel) (by decide) ?_
          exact am_G.forget (am_subp [0, 1, 2, 3, 4] rfl) (ih _ _ _ _ hs hf)
        · refine g_bipush (z := (-3)) (v := (-3)) (by decide +kernel) rfl ?_
          exact x_iretp hf (by decide +kernel) rfl (Nat.le_refl _) (Nat.le_refl _)
def f_Mod_noSeen (p1 : Int32) (p2 : Int32) (h : am_H) : Option (Int32) :=
  (f_Mod_within ((p1).toInt64) (0 : Int64) (3 : Int64) h).bind fun q1 =>
  (if q1 = true then
    (f_Mod_isPerson ((p2).toInt64) h).bind fun q3 =>
    (if q3 = true then
      (f_Mod_noTray p1 h).bind fun q5 =>
      (if q5 = 0 then
        (am_rd (h.2.1 159) 4 p1).bind fun x7 =>
        (f_Mod_within ((x7).toInt64) (1 : Int64) (12 : Int64) h).bind fun q8 =>
        (if q8 = true then
          f_Mod_noSeen_L59 p1 p2 am_fu q5 (0 : Int32) h
        else
          some (-4 : Int32))
      else
        some q5)
    else
      some (-2 : Int32))
  else
    some (-2 : Int32))
set_option maxRecDepth 100000 in
set_option maxHeartbeats 4000000 in
theorem t_Mod_noSeen {p1 : Int32} {p2 : Int32} {h : am_H} (hs : am_Sh h)  {r : Int32} (hf : f_Mod_noSeen p1 p2 h = some r) : am_Ct 2 M_Mod_noSeen [.ref 136, .int p1, .int p2] h 0 0 (am_pI h r) := by
  unfold f_Mod_noSeen at hf
  refine am_Ct.of (by decide) rfl (Nat.le_of_ble_eq_true rfl) (ls := [(0, .ref 136), (1, .int p1), (2, .int p2)]) rfl ?_
  refine g_iload_n (i := 1) (by decide +kernel) rfl ?_
  refine g_i2l (by decide +kernel) ?_
  refine g_lconst (z := 0) (v := 0) (by decide +kernel) rfl ?_
  refine g_ldc2 (by decide +kernel) C_Mod_307 ?_
  refine x_callSBp (as := [.long ((p1).toInt64), .long (0 : Int64), .long (3 : Int64)]) St_Mod_within hf (fun q hq => t_Mod_within hs  hq) Y_Mod_within L_Mod_157 (by decide +kernel) rfl rfl (Nat.le_of_ble_eq_true rfl) (by decide) (Nat.le_refl _) (Nat.le_refl _) (fun q1 hf => ?_)
  refine x_ifb_eq (off := 12) (tgt := 21) hf (by decide +kernel) (by decide) (fun c2 hf => ?_) (fun c2 hf => ?_)
  · refine g_bipush (z := (-2)) (v := (-2)) (by decide +kernel) rfl ?_
    exact x_iretp hf (by decide +kernel) rfl (Nat.le_refl _) (Nat.le_refl _)
  · refine g_aload_n (i := 0) (by decide +kernel) rfl ?_
    refine g_iload_n (i := 2) (by decide +kernel) rfl ?_
    refine g_i2l (by decide +kernel) ?_
    refine x_callVBp (as := [.long ((p2).toInt64)]) Vi_Mod_isPerson Vs_Mod_isPerson (hs.k k_136) rfl hf (fun q hq => t_Mod_isPerson hs  hq) Y_Mod_isPerson L_Mod_245 (by decide +kernel) rfl rfl (Nat.le_of_ble_eq_true rfl) (by decide) (Nat.le_refl _) (Nat.le_refl _) (fun q3 hf => ?_)
    refine x_ifb_ne (off := 6) (tgt := 24) hf (by decide +kernel) (by decide) (fun c4 hf => ?_) (fun c4 hf => ?_)
    · refine g_aload_n (i := 0) (by decide +kernel) rfl ?_
      refine g_iload_n (i := 1) (by decide +kernel) rfl ?_
      refine x_callVIp (as := [.int p1]) Vi_Mod_noTray Vs_Mod_noTray (hs.k k_136) rfl hf (fun q hq => t_Mod_noTray hs  hq) Y_Mod_noTray L_Mod_309 (by decide +kernel) rfl rfl (Nat.le_of_ble_eq_true rfl) (by decide) (Nat.le_refl _) (Nat.le_refl _) (fun q5 hf => ?_)
      refine g_istore_n (i := 3) (by decide +kernel) rfl (by decide) (ls1 := [(0, .ref 136), (1, .int p1), (2, .int p2), (3, .int q5)]) rfl ?_
      refine g_iload_n (i := 3) (by decide +kernel) rfl ?_
      refine x_if_eq (off := 5) (tgt := 36) hf (by decide +kernel) (by decide) (fun c6 hf => ?_) (fun c6 hf => ?_)
      · refine g_aload_n (i := 0) (by decide +kernel) rfl ?_
        refine x_getr (hs.k k_136) F_Mod_85 (by decide +kernel) rfl (hs.r r_136_39) ?_
        refine g_iload_n (i := 1) (by decide +kernel) rfl ?_
        refine x_iald hf (hs.k k_159) (by decide +kernel) (fun x7 hf => ?_)
        refine g_i2l (by decide +kernel) ?_
        refine g_lconst (z := 1) (v := 1) (by decide +kernel) rfl ?_
        refine g_ldc2 (by decide +kernel) C_Mod_350 ?_
        refine x_callSBp (as := [.long ((x7).toInt64), .long (1 : Int64), .long (12 : Int64)]) St_Mod_within hf (fun q hq => t_Mod_within hs  hq) Y_Mod_within L_Mod_157 (by decide +kernel) rfl rfl (Nat.le_of_ble_eq_true rfl) (by decide) (Nat.le_refl _) (Nat.le_refl _) (fun q8 hf => ?_)
        refine x_ifb_ne (off := 6) (tgt := 56) hf (by decide +kernel) (by decide) (fun c9 hf => ?_) (fun c9 hf => ?_)
        · refine g_iconst (z := 0) (v := 0) (by decide +kernel) rfl ?_
          refine g_istore (i := 4) (by decide +kernel) rfl (by decide) (ls1 := [(0, .ref 136), (1, .int p1), (2, .int p2), (3, .int q5), (4, .int (0 : Int32))]) rfl ?_
          exact am_G.forget (am_subp [0, 1, 2, 3, 4] rfl) (t_Mod_noSeen_L59  am_fu _ _ _ _ hs hf)
        · refine g_bipush (z := (-4)) (v := (-4)) (by decide +kernel) rfl ?_
          exact x_iretp hf (by decide +kernel) rfl (Nat.le_refl _) (Nat.le_refl _)
      · refine g_iload_n (i := 3) (by decide +kernel) rfl ?_
        exact x_iretp hf (by decide +kernel) rfl (Nat.le_refl _) (Nat.le_refl _)
    · refine g_bipush (z := (-2)) (v := (-2)) (by decide +kernel) rfl ?_
      exact x_iretp hf (by decide +kernel) rfl (Nat.le_refl _) (Nat.le_refl _)
def f_Mod_oddIn_L4 (p1 : Int32) : Nat → Int32 → Int32 → am_H → Option (Int32)
  | 0, _, _, _ => none
  | n + 1, v2, v3, h =>
    (am_rd (h.2.1 159) 4 p1).bind fun x1 =>
    (if x1 ≤ v3 then
      some (-1 : Int32)
    else
      (am_rd (h.2.2.1 160) 160 (((40 : Int32) * p1) + v3)).bind fun x3 =>
      ((if v3 ≤ 0 then
          some v2
        else
          (if v2 = (-1 : Int32) then
            some v2
          else
            (am_rd (h.2.1 137) 3411 (26 : Int32)).bind fun x6 =>
            (f_Mod_fogIn (v3 - (1 : Int32)) h).bind fun q7 =>
            (f_Mod_goesOn v2 ((x6 + v3) - (1 : Int32)) q7 h).bind fun q8 =>
            some q8)) : Option (Int32)).bind fun m9 =>
      (if ((x3).toInt32) = (-1 : Int32) then
        f_Mod_oddIn_L4 p1 n m9 (v3 + (1 : Int32)) h
      else
        (if m9 = (-1 : Int32) then
          f_Mod_oddIn_L4 p1 n ((1 : Int32) <<< (((x3).toInt32) &&& 31)) (v3 + (1 : Int32)) h
        else
          (f_Mod_isIn ((m9).toInt64) ((x3).toInt32) h).bind fun q12 =>
          (if q12 = true then
            f_Mod_oddIn_L4 p1 n ((1 : Int32) <<< (((x3).toInt32) &&& 31)) (v3 + (1 : Int32)) h
          else
            some v3))))
set_option maxRecDepth 100000 in
set_option maxHeartbeats 4000000 in
theorem t_Mod_oddIn_L4 {p1 : Int32}  : ∀ (n : Nat) (v2 : Int32) (v3 : Int32) (h : am_H) (r : Int32), am_Sh h → f_Mod_oddIn_L4 p1 n v2 v3 h = some r → am_G 2 M_Mod_oddIn 0 0 (am_pI h r) 4 [(0, .ref 136), (1, .int p1), (2, .int v2), (3, .int v3)] [] h 0 0 := by
  intro n
  induction n with
  | zero =>
    intro v2 v3 h r hs hf
    rw [f_Mod_oddIn_L4] at hf
    cases hf
  | succ n ih =>
    intro v2 v3 h r hs hf
    rw [f_Mod_oddIn_L4] at hf
    refine g_iload_n (i := 3) (by decide +kernel) rfl ?_
    refine g_aload_n (i := 0) (by decide +kernel) rfl ?_
    refine x_getr (hs.k k_136) F_Mod_85 (by decide +kernel) rfl (hs.r r_136_39) ?_
    refine g_iload_n (i := 1) (by decide +kernel) rfl ?_
    refine x_iald hf (hs.k k_159) (by decide +kernel) (fun x1 hf => ?_)
    refine x_icmp_ge (off := 87) (tgt := 98) hf (by decide +kernel) (by decide) (fun c2 hf => ?_) (fun c2 hf => ?_)
    · refine g_iconst (z := (-1)) (v := (-1)) (by decide +kernel) rfl ?_
      exact x_iretp hf (by decide +kernel) rfl (Nat.le_refl _) (Nat.le_refl _)
    · refine g_aload_n (i := 0) (by decide +kernel) rfl ?_
      refine x_getr (hs.k k_136) F_Mod_88 (by decide +kernel) rfl (hs.r r_136_40) ?_
      refine g_bipush (z := 40) (v := 40) (by decide +kernel) rfl ?_
      refine g_iload_n (i := 1) (by decide +kernel) rfl ?_
      refine g_imul (by decide +kernel) ?_
      refine g_iload_n (i := 3) (by decide +kernel) rfl ?_
      refine g_iadd (by decide +kernel) ?_
      refine x_lald hf (hs.k k_160) (by decide +kernel) (fun x3 hf => ?_)
      refine g_l2i (by decide +kernel) ?_
      refine g_istore (i := 4) (by decide +kernel) rfl (by decide) (ls1 := [(0, .ref 136), (1, .int p1), (2, .int v2), (3, .int v3), (4, .int ((x3).toInt32))]) rfl ?_
      refine g_iload_n (i := 3) (by decide +kernel) rfl ?_
      obtain ⟨m9, hm61, hf⟩ := Option.bind_eq_some_iff.mp hf
      refine am_cut (J := 61) (ls' := [(0, .ref 136), (1, .int p1), (2, .int m9), (3, .int v3), (4, .int ((x3).toInt32))]) (st' := []) ?_ (fun K61 => ?_)
      · refine g_iload (i := 4) (by decide +kernel) rfl ?_
        refine g_iconst (z := (-1)) (v := (-1)) (by decide +kernel) rfl ?_
        refine x_icmp_ne (off := 6) (tgt := 70) hf (by decide +kernel) (by decide) (fun c10 hf => ?_) (fun c10 hf => ?_)
        · refine g_iload_n (i := 2) (by decide +kernel) rfl ?_
          refine g_iconst (z := (-1)) (v := (-1)) (by decide +kernel) rfl ?_
          refine x_icmp_eq (off := 15) (tgt := 87) hf (by decide +kernel) (by decide) (fun c11 hf => ?_) (fun c11 hf => ?_)
          · refine g_iconst (z := 1) (v := 1) (by decide +kernel) rfl ?_
            refine g_iload (i := 4) (by decide +kernel) rfl ?_
            refine g_ishl (by decide +kernel) ?_
            refine g_istore_n (i := 2) (by decide +kernel) rfl (by decide) (ls1 := [(0, .ref 136), (1, .int p1), (2, .int ((1 : Int32) <<< (((x3).toInt32) &&& 31))), (3, .int v3), (4, .int ((x3).toInt32))]) rfl ?_
            refine g_iinc (i := 3) (z := 1) (v := (v3 + (1 : Int32))) (by decide +kernel) rfl rfl rfl (by decide) (ls1 := [(0, .ref 136), (1, .int p1), (2, .int ((1 : Int32) <<< (((x3).toInt32) &&& 31))), (3, .int (v3 + (1 : Int32))), (4, .int ((x3).toInt32))]) rfl ?_
            refine g_goto (off := (-91)) (tgt := 4) (by decide +kernel) (by decide) ?_
            exact am_G.forget (am_subp [0, 1, 2, 3] rfl) (ih _ _ _ _ hs hf)
          · refine g_iload_n (i := 2) (by decide +kernel) rfl ?_
            refine g_i2l (by decide +kernel) ?_
            refine g_iload (i := 4) (by decide +kernel) rfl ?_
            refine x_callSBp (as := [.long ((m9).toInt64), .int ((x3).toInt32)]) St_Mod_isIn hf (fun q hq => t_Mod_isIn hs  hq) Y_Mod_isIn L_Mod_260 (by decide +kernel) rfl rfl (Nat.le_of_ble_eq_true rfl) (by decide) (Nat.le_refl _) (Nat.le_refl _) (fun q12 hf => ?_)
            refine x_ifb_ne (off := 5) (tgt := 87) hf (by decide +kernel) (by decide) (fun c13 hf => ?_) (fun c13 hf => ?_)
            · refine g_iconst (z := 1) (v := 1) (by decide +kernel) rfl ?_
              refine g_iload (i := 4) (by decide +kernel) rfl ?_
              refine g_ishl (by decide +kernel) ?_
              refine g_istore_n (i := 2) (by decide +kernel) rfl (by decide) (ls1 := [(0, .ref 136), (1, .int p1), (2, .int ((1 : Int32) <<< (((x3).toInt32) &&& 31))), (3, .int v3), (4, .int ((x3).toInt32))]) rfl ?_
              refine g_iinc (i := 3) (z := 1) (v := (v3 + (1 : Int32))) (by decide +kernel) rfl rfl rfl (by decide) (ls1 := [(0, .ref 136), (1, .int p1), (2, .int ((1 : Int32) <<< (((x3).toInt32) &&& 31))), (3, .int (v3 + (1 : Int32))), (4, .int ((x3).toInt32))]) rfl ?_
              refine g_goto (off := (-91)) (tgt := 4) (by decide +kernel) (by decide) ?_
              exact am_G.forget (am_subp [0, 1, 2, 3] rfl) (ih _ _ _ _ hs hf)
            · refine g_iload_n (i := 3) (by decide +kernel) rfl ?_
              exact x_iretp hf (by decide +kernel) rfl (Nat.le_refl _) (Nat.le_refl _)
        · refine g_goto (off := 25) (tgt := 92) (by decide +kernel) (by decide) ?_
          refine g_iinc (i := 3) (z := 1) (v := (v3 + (1 : Int32))) (by decide +kernel) rfl rfl rfl (by decide) (ls1 := [(0, .ref 136), (1, .int p1), (2, .int m9), (3, .int (v3 + (1 : Int32))), (4, .int ((x3).toInt32))]) rfl ?_
          refine g_goto (off := (-91)) (tgt := 4) (by decide +kernel) (by decide) ?_
          exact am_G.forget (am_subp [0, 1, 2, 3] rfl) (ih _ _ _ _ hs hf)
      refine x_if_le (off := 32) (tgt := 61) hm61 (by decide +kernel) (by decide) (fun c4 hm61 => ?_) (fun c4 hm61 => ?_)
      · cases hm61
        exact am_G.forget (am_subp [0, 1, 2, 3, 4] rfl) K61
      · refine g_iload_n (i := 2) (by decide +kernel) rfl ?_
        refine g_iconst (z := (-1)) (v := (-1)) (by decide +kernel) rfl ?_
        refine x_icmp_eq (off := 27) (tgt := 61) hm61 (by decide +kernel) (by decide) (fun c5 hm61 => ?_) (fun c5 hm61 => ?_)
        · cases hm61
          exact am_G.forget (am_subp [0, 1, 2, 3, 4] rfl) K61
        · refine g_aload_n (i := 0) (by decide +kernel) rfl ?_
          refine g_iload_n (i := 2) (by decide +kernel) rfl ?_
          refine g_aload_n (i := 0) (by decide +kernel) rfl ?_
          refine x_getr (hs.k k_136) F_Mod_13 (by decide +kernel) rfl (hs.r r_136_1) ?_
          refine g_bipush (z := 26) (v := 26) (by decide +kernel) rfl ?_
          refine x_iald hm61 (hs.k k_137) (by decide +kernel) (fun x6 hm61 => ?_)
          refine g_iload_n (i := 3) (by decide +kernel) rfl ?_
          refine g_iadd (by decide +kernel) ?_
          refine g_iconst (z := 1) (v := 1) (by decide +kernel) rfl ?_
          refine g_isub (by decide +kernel) ?_
          refine g_aload_n (i := 0) (by decide +kernel) rfl ?_
          refine g_iload_n (i := 3) (by decide +kernel) rfl ?_
          refine g_iconst (z := 1) (v := 1) (by decide +kernel) rfl ?_
          refine g_isub (by decide +kernel) ?_
          refine x_callVIp (as := [.int (v3 - (1 : Int32))]) Vi_Mod_fogIn Vs_Mod_fogIn (hs.k k_136) rfl hm61 (fun q hq => t_Mod_fogIn hs  hq) Y_Mod_fogIn L_Mod_251 (by decide +kernel) rfl rfl (Nat.le_of_ble_eq_true rfl) (by decide) (Nat.le_refl _) (Nat.le_refl _) (fun q7 hm61 => ?_)
          refine x_callVIp (as := [.int v2, .int ((x6 + v3) - (1 : Int32)), .int q7]) Vi_Mod_goesOn Vs_Mod_goesOn (hs.k k_136) rfl hm61 (fun q hq => t_Mod_goesOn hs  hq) Y_Mod_goesOn L_Mod_330 (by decide +kernel) rfl rfl (Nat.le_of_ble_eq_true rfl) (by decide) (Nat.le_refl _) (Nat.le_refl _) (fun q8 hm61 => ?_)
          refine g_istore_n (i := 2) (by decide +kernel) rfl (by decide) (ls1 := [(0, .ref 136), (1, .int p1), (2, .int q8), (3, .int v3), (4, .int ((x3).toInt32))]) rfl ?_
          cases hm61
          exact am_G.forget (am_subp [0, 1, 2, 3, 4] rfl) K61
def f_Mod_oddIn (p1 : Int32) (h : am_H) : Option (Int32) :=
  f_Mod_oddIn_L4 p1 am_fu (-1 : Int32) (0 : Int32) h
set_option maxRecDepth 100000 in
set_option maxHeartbeats 4000000 in
theorem t_Mod_oddIn {p1 : Int32} {h : am_H} (hs : am_Sh h)  {r : Int32} (hf : f_Mod_oddIn p1 h = some r) : am_Ct 2 M_Mod_oddIn [.ref 136, .int p1] h 0 0 (am_pI h r) := by
  unfold f_Mod_oddIn at hf
  refine am_Ct.of (by decide) rfl (Nat.le_of_ble_eq_true rfl) (ls := [(0, .ref 136), (1, .int p1)]) rfl ?_
  refine g_iconst (z := (-1)) (v := (-1)) (by decide +kernel) rfl ?_
  refine g_istore_n (i := 2) (by decide +kernel) rfl (by decide) (ls1 := [(0, .ref 136), (1, .int p1), (2, .int (-1 : Int32))]) rfl ?_
  refine g_iconst (z := 0) (v := 0) (by decide +kernel) rfl ?_
  refine g_istore_n (i := 3) (by decide +kernel) rfl (by decide) (ls1 := [(0, .ref 136), (1, .int p1), (2, .int (-1 : Int32)), (3, .int (0 : Int32))]) rfl ?_
  exact am_G.forget (am_subp [0, 1, 2, 3] rfl) (t_Mod_oddIn_L4  am_fu _ _ _ _ hs hf)
def f_Mod_fitting_L22 (p1 : Int32) (p2 : Int32) (p3 : Int32) : Nat → Int32 → Int32 → Int32 → am_H → Option (Int32 × Int32 × am_H)
  | 0, _, _, _, _ => none
  | n + 1, v4, v5, v6, h =>
    (am_rd (h.2.1 137) 3411 (1 : Int32)).bind fun x3 =>
    (if x3 < v6 then
      some (v4, v6, h)
    else
      (am_rd (h.2.1 137) 3411 (1 : Int32)).bind fun x5 =>
      (am_wr h 137 3411 ((29 : Int32) + p3) (if v6 = x5 then (-1 : Int32) else v6)).bind fun h7 =>
      (f_Mod_oddIn p1 h7).bind fun q8 =>
      (if q8 = (-1 : Int32) then
        (am_rd (h7.2.1 137) 3411 (1 : Int32)).bind fun x10 =>
        am_let (v4 ||| ((1 : Int32) <<< ((if v6 = x10 then (4 : Int32) else v6) &&& 31))) fun y12 =>
        f_Mod_fitting_L22 p1 p2 p3 n y12 v5 (v6 + (1 : Int32)) h7
      else
        f_Mod_fitting_L22 p1 p2 p3 n (v4 ||| (0 : Int32)) v5 (v6 + (1 : Int32)) h7))
set_option maxRecDepth 100000 in
set_option maxHeartbeats 4000000 in
theorem t_Mod_fitting_L22 {p1 : Int32} {p2 : Int32} {p3 : Int32}  {Q : Option Value → am_H → Prop} : ∀ (n : Nat) (v4 : Int32) (v5 : Int32) (v6 : Int32) (h : am_H) (q : Int32 × Int32 × am_H), am_Sh h → f_Mod_fitting_L22 p1 p2 p3 n v4 v5 v6 h = some q → (am_Sh q.2.2 → am_G 3 M_Mod_fitting 0 0 Q 102 [(0, .ref 136), (1, .int p1), (2, .int p2), (3, .int p3), (4, .int q.1), (5, .int v5), (6, .int q.2.1)] [] q.2.2 0 0) → am_G 3 M_Mod_fitting 0 0 Q 22 [(0, .ref 136), (1, .int p1), (2, .int p2), (3, .int p3), (4, .int v4), (5, .int v5), (6, .int v6)] [] h 0 0 := by
  intro n
  induction n with
  | zero =>
    intro v4 v5 v6 h q hs hf kont
    rw [f_Mod_fitting_L22] at hf
    cases hf
  | succ n ih =>
    intro v4 v5 v6 h q hs hf kont
    rw [f_Mod_fitting_L22] at hf
    refine g_iload (i := 6) (by decide +kernel) rfl ?_
    refine g_aload_n (i := 0) (by decide +kernel) rfl ?_
    refine x_getr (hs.k k_136) F_Mod_13 (by decide +kernel) rfl (hs.r r_136_1) ?_
    refine g_iconst (z := 1) (v := 1) (by decide +kernel) rfl ?_
    refine x_iald hf (hs.k k_137) (by decide +kernel) (fun x3 hf => ?_)
    refine x_icmp_gt (off := 72) (tgt := 102) hf (by decide +kernel) (by decide) (fun c4 hf => ?_) (fun c4 hf => ?_)
    · cases hf
      exact am_G.forget (am_subp [0, 1, 2, 3, 4, 5, 6] rfl) (kont hs)
    · refine g_aload_n (i := 0) (by decide +kernel) rfl ?_
      refine x_getr (hs.k k_136) F_Mod_13 (by decide +kernel) rfl (hs.r r_136_1) ?_
      refine g_bipush (z := 29) (v := 29) (by decide +kernel) rfl ?_
      refine g_iload_n (i := 3) (by decide +kernel) rfl ?_
      refine g_iadd (by decide +kernel) ?_
      refine g_iload (i := 6) (by decide +kernel) rfl ?_
      refine g_aload_n (i := 0) (by decide +kernel) rfl ?_
      refine x_getr (hs.k k_136) F_Mod_13 (by decide +kernel) rfl (hs.r r_136_1) ?_
      refine g_iconst (z := 1) (v := 1) (by decide +kernel) rfl ?_
      refine x_iald hf (hs.k k_137) (by decide +kernel) (fun x5 hf => ?_)
      refine am_cut (J := 58) (ls' := [(0, .ref 136), (1, .int p1), (2, .int p2), (3, .int p3), (4, .int v4), (5, .int v5), (6, .int v6)]) (st' := [.int (if v6 = x5 then (-1 : Int32) else v6), .int ((29 : Int32) + p3), .ref 137]) ?_ (fun K58 => ?_)
      · refine x_iast hf hs (hs.k k_137) (by decide +kernel) (fun h7 hf hs => ?_)
        refine g_iload (i := 4) (by decide +kernel) rfl ?_
        refine g_aload_n (i := 0) (by decide +kernel) rfl ?_
        refine g_iload_n (i := 1) (by decide +kernel) rfl ?_
        refine x_callVIp (as := [.int p1]) Vi_Mod_oddIn Vs_Mod_oddIn (hs.k k_136) rfl hf (fun q hq => t_Mod_oddIn hs  hq) Y_Mod_oddIn L_Mod_405 (by decide +kernel) rfl rfl (Nat.le_of_ble_eq_true rfl) (by decide) (Nat.le_refl _) (Nat.le_refl _) (fun q8 hf => ?_)
        refine g_iconst (z := (-1)) (v := (-1)) (by decide +kernel) rfl ?_
        refine x_icmp_ne (off := 25) (tgt := 92) hf (by decide +kernel) (by decide) (fun c9 hf => ?_) (fun c9 hf => ?_)
        · refine g_iconst (z := 0) (v := 0) (by decide +kernel) rfl ?_
          refine g_ior (by decide +kernel) ?_
          refine g_istore (i := 4) (by decide +kernel) rfl (by decide) (ls1 := [(0, .ref 136), (1, .int p1), (2, .int p2), (3, .int p3), (4, .int (v4 ||| (0 : Int32))), (5, .int v5), (6, .int v6)]) rfl ?_
          refine g_iinc (i := 6) (z := 1) (v := (v6 + (1 : Int32))) (by decide +kernel) rfl rfl rfl (by decide) (ls1 := [(0, .ref 136), (1, .int p1), (2, .int p2), (3, .int p3), (4, .int (v4 ||| (0 : Int32))), (5, .int v5), (6, .int (v6 + (1 : Int32)))]) rfl ?_
          refine g_goto (off := (-77)) (tgt := 22) (by decide +kernel) (by decide) ?_
          exact am_G.forget (am_subp [0, 1, 2, 3, 4, 5, 6] rfl) (ih _ _ _ _ _ hs hf kont)
        · refine g_iconst (z := 1) (v := 1) (by decide +kernel) rfl ?_
          refine g_iload (i := 6) (by decide +kernel) rfl ?_
          refine g_aload_n (i := 0) (by decide +kernel) rfl ?_
          refine x_getr (hs.k k_136) F_Mod_13 (by decide +kernel) rfl (hs.r r_136_1) ?_
          refine g_iconst (z := 1) (v := 1) (by decide +kernel) rfl ?_
          refine x_iald hf (hs.k k_137) (by decide +kernel) (fun x10 hf => ?_)
          refine am_cut (J := 88) (ls' := [(0, .ref 136), (1, .int p1), (2, .int p2), (3, .int p3), (4, .int v4), (5, .int v5), (6, .int v6)]) (st' := [.int (if v6 = x10 then (4 : Int32) else v6), .int (1 : Int32), .int v4]) ?_ (fun K88 => ?_)
          · refine g_ishl (by decide +kernel) ?_
            refine g_goto (off := 4) (tgt := 93) (by decide +kernel) (by decide) ?_
            refine g_ior (by decide +kernel) ?_
            refine x_nmI hf (fun y12 hf => ?_)
            refine g_istore (i := 4) (by decide +kernel) rfl (by decide) (ls1 := [(0, .ref 136), (1, .int p1), (2, .int p2), (3, .int p3), (4, .int y12), (5, .int v5), (6, .int v6)]) rfl ?_
            refine g_iinc (i := 6) (z := 1) (v := (v6 + (1 : Int32))) (by decide +kernel) rfl rfl rfl (by decide) (ls1 := [(0, .ref 136), (1, .int p1), (2, .int p2), (3, .int p3), (4, .int y12), (5, .int v5), (6, .int (v6 + (1 : Int32)))]) rfl ?_
            refine g_goto (off := (-77)) (tgt := 22) (by decide +kernel) (by decide) ?_
            exact am_G.forget (am_subp [0, 1, 2, 3, 4, 5, 6] rfl) (ih _ _ _ _ _ hs hf kont)
          refine p_icmp_ne (off := 7) (tgt := 86) (by decide +kernel) (by decide) (fun c11 => ?_) (fun c11 => ?_)
          · refine g_iload (i := 6) (by decide +kernel) rfl ?_
            have K1 := K88
            simp only [if_neg c11] at K1
            exact am_G.forget (am_subp [0, 1, 2, 3, 4, 5, 6] rfl) K1
          · refine g_iconst (z := 4) (v := 4) (by decide +kernel) rfl ?_
            refine g_goto (off := 5) (tgt := 88) (by decide +kernel) (by decide) ?_
            have K1 := K88
            simp only [if_pos c11] at K1
            exact am_G.forget (am_subp [0, 1, 2, 3, 4, 5, 6] rfl) K1
      refine p_icmp_ne (off := 7) (tgt := 56) (by decide +kernel) (by decide) (fun c6 => ?_) (fun c6 => ?_)
      · refine g_iload (i := 6) (by decide +kernel) rfl ?_
        have K1 := K58
        simp only [if_neg c6] at K1
        exact am_G.forget (am_subp [0, 1, 2, 3, 4, 5, 6] rfl) K1
      · refine g_iconst (z := (-1)) (v := (-1)) (by decide +kernel) rfl ?_
        refine g_goto (off := 5) (tgt := 58) (by decide +kernel) (by decide) ?_
        have K1 := K58
        simp only [if_pos c6] at K1
        exact am_G.forget (am_subp [0, 1, 2, 3, 4, 5, 6] rfl) K1
def f_Mod_fitting (p1 : Int32) (p2 : Int32) (p3 : Int32) (h : am_H) : Option (Int32 × am_H) :=
  (f_Mod_laysLets p2 h).bind fun q1 =>
  (am_rd (q1.2.1 137) 3411 ((29 : Int32) + p3)).bind fun x2 =>
  (f_Mod_fitting_L22 p1 p2 p3 am_fu (0 : Int32) x2 (0 : Int32) q1).bind fun q13 =>
  (am_wr q13.2.2 137 3411 ((29 : Int32) + p3) x2).bind fun h14 =>
  some (q13.1, h14)
set_option maxRecDepth 100000 in
set_option maxHeartbeats 4000000 in
theorem t_Mod_fitting {p1 : Int32} {p2 : Int32} {p3 : Int32} {h : am_H} (hs : am_Sh h)  {r : Int32 × am_H} (hf : f_Mod_fitting p1 p2 p3 h = some r) : am_Ct 3 M_Mod_fitting [.ref 136, .int p1, .int p2, .int p3] h 0 0 (am_qI r) := by
  unfold f_Mod_fitting at hf
  refine am_Ct.of (by decide) rfl (Nat.le_of_ble_eq_true rfl) (ls := [(0, .ref 136), (1, .int p1), (2, .int p2), (3, .int p3)]) rfl ?_
  refine g_aload_n (i := 0) (by decide +kernel) rfl ?_
  refine g_iload_n (i := 2) (by decide +kernel) rfl ?_
  refine x_callVV (as := [.int p2]) Vi_Mod_laysLets Vs_Mod_laysLets (hs.k k_136) rfl hf (fun q hq => t_Mod_laysLets hs  hq) Y_Mod_laysLets L_Mod_333 (by decide +kernel) rfl rfl (Nat.le_of_ble_eq_true rfl) (by decide) (Nat.le_refl _) (Nat.le_refl _) (fun q1 hf hs => ?_)
  refine g_iconst (z := 0) (v := 0) (by decide +kernel) rfl ?_
  refine g_istore (i := 4) (by decide +kernel) rfl (by decide) (ls1 := [(0, .ref 136), (1, .int p1), (2, .int p2), (3, .int p3), (4, .int (0 : Int32))]) rfl ?_
  refine g_aload_n (i := 0) (by decide +kernel) rfl ?_
  refine x_getr (hs.k k_136) F_Mod_13 (by decide +kernel) rfl (hs.r r_136_1) ?_
  refine g_bipush (z := 29) (v := 29) (by decide +kernel) rfl ?_
  refine g_iload_n (i := 3) (by decide +kernel) rfl ?_
  refine g_iadd (by decide +kernel) ?_
  refine x_iald hf (hs.k k_137) (by decide +kernel) (fun x2 hf => ?_)
  refine g_istore (i := 5) (by decide +kernel) rfl (by decide) (ls1 := [(0, .ref 136), (1, .int p1), (2, .int p2), (3, .int p3), (4, .int (0 : Int32)), (5, .int x2)]) rfl ?_
  refine g_iconst (z := 0) (v := 0) (by decide +kernel) rfl ?_
  refine g_istore (i := 6) (by decide +kernel) rfl (by decide) (ls1 := [(0, .ref 136), (1, .int p1), (2, .int p2), (3, .int p3), (4, .int (0 : Int32)), (5, .int x2), (6, .int (0 : Int32))]) rfl ?_
  obtain ⟨q13, hqq13, hf⟩ := Option.bind_eq_some_iff.mp hf
  refine am_G.forget (am_subp [0, 1, 2, 3, 4, 5, 6] rfl) (t_Mod_fitting_L22  am_fu _ _ _ _ q13 hs hqq13 (fun hs => ?_))
  refine g_aload_n (i := 0) (by decide +kernel) rfl ?_
  refine x_getr (hs.k k_136) F_Mod_13 (by decide +kernel) rfl (hs.r r_136_1) ?_
  refine g_bipush (z := 29) (v := 29) (by decide +kernel) rfl ?_
  refine g_iload_n (i := 3) (by decide +kernel) rfl ?_
  refine g_iadd (by decide +kernel) ?_
  refine g_iload (i := 5) (by decide +kernel) rfl ?_
  refine x_iast hf hs (hs.k k_137) (by decide +kernel) (fun h14 hf hs => ?_)
  refine g_iload (i := 4) (by decide +kernel) rfl ?_
  exact x_iret hf hs (by decide +kernel) rfl (Nat.le_refl _) (Nat.le_refl _)
def f_Mod_fits (p1 : Int32) (p2 : Int32) (p3 : Int32) (h : am_H) : Option (Int32 × am_H) :=
  am_let (am_sI h 136 0 (0 : Int32)) fun h1 =>
  (f_Mod_within ((p1).toInt64) (0 : Int64) (3 : Int64) h1).bind fun q2 =>
  (if q2 = true then
    (f_Mod_isPerson ((p2).toInt64) h1).bind fun q4 =>
    (if q4 = true then
      (am_rd (h1.2.1 137) 3411 (2 : Int32)).bind fun x6 =>
      (f_Mod_within ((p3).toInt64) (0 : Int64) (((x6 - (1 : Int32))).toInt64) h1).bind fun q7 =>
      (if q7 = true then
        (f_Mod_noSeen p1 p2 h1).bind fun q9 =>
        (if q9 = 0 then
          (f_Mod_fitting p1 p2 p3 h1).bind fun q11 =>
          some (q11.1, q11.2)
        else
          some (q9, h1))
      else
        some ((-2 : Int32), h1))
    else
      some ((-2 : Int32), h1))
  else
    some ((-2 : Int32), h1))
set_option maxRecDepth 100000 in
set_option maxHeartbeats 4000000 in
theorem t_Mod_fits {p1 : Int32} {p2 : Int32} {p3 : Int32} {h : am_H} (hs : am_Sh h)  {r : Int32 × am_H} (hf : f_Mod_fits p1 p2 p3 h = some r) : am_Ct 4 M_Mod_fits [.ref 136, .int p1, .int p2, .int p3] h 0 0 (am_qI r) := by
  unfold f_Mod_fits at hf
  refine am_Ct.of (by decide) rfl (Nat.le_of_ble_eq_true rfl) (ls := [(0, .ref 136), (1, .int p1), (2, .int p2), (3, .int p3)]) rfl ?_
  refine g_aload_n (i := 0) (by decide +kernel) rfl ?_
  refine g_iconst (z := 0) (v := 0) (by decide +kernel) rfl ?_
  refine x_puti hf hs (hs.k k_136) F_Mod_1 (by decide +kernel) rfl rfl rfl rfl (fun h1 hf hs => ?_)
  refine g_iload_n (i := 1) (by decide +kernel) rfl ?_
  refine g_i2l (by decide +kernel) ?_
  refine g_lconst (z := 0) (v := 0) (by decide +kernel) rfl ?_
  refine g_ldc2 (by decide +kernel) C_Mod_307 ?_
  refine x_callSBp (as := [.long ((p1).toInt64), .long (0 : Int64), .long (3 : Int64)]) St_Mod_within hf (fun q hq => t_Mod_within hs  hq) Y_Mod_within L_Mod_157 (by decide +kernel) rfl rfl (Nat.le_of_ble_eq_true rfl) (by decide) (Nat.le_refl _) (Nat.le_refl _) (fun q2 hf => ?_)
  refine x_ifb_eq (off := 30) (tgt := 44) hf (by decide +kernel) (by decide) (fun c3 hf => ?_) (fun c3 hf => ?_)
  · refine g_bipush (z := (-2)) (v := (-2)) (by decide +kernel) rfl ?_
    exact x_iret hf hs (by decide +kernel) rfl (Nat.le_refl _) (Nat.le_refl _)
  · refine g_aload_n (i := 0) (by decide +kernel) rfl ?_
    refine g_iload_n (i := 2) (by decide +kernel) rfl ?_
    refine g_i2l (by decide +kernel) ?_
    refine x_callVBp (as := [.long ((p2).toInt64)]) Vi_Mod_isPerson Vs_Mod_isPerson (hs.k k_136) rfl hf (fun q hq => t_Mod_isPerson hs  hq) Y_Mod_isPerson L_Mod_245 (by decide +kernel) rfl rfl (Nat.le_of_ble_eq_true rfl) (by decide) (Nat.le_refl _) (Nat.le_refl _) (fun q4 hf => ?_)
    refine x_ifb_eq (off := 21) (tgt := 44) hf (by decide +kernel) (by decide) (fun c5 hf => ?_) (fun c5 hf => ?_)
    · refine g_bipush (z := (-2)) (v := (-2)) (by decide +kernel) rfl ?_
      exact x_iret hf hs (by decide +kernel) rfl (Nat.le_refl _) (Nat.le_refl _)
    · refine g_iload_n (i := 3) (by decide +kernel) rfl ?_
      refine g_i2l (by decide +kernel) ?_
      refine g_lconst (z := 0) (v := 0) (by decide +kernel) rfl ?_
      refine g_aload_n (i := 0) (by decide +kernel) rfl ?_
      refine x_getr (hs.k k_136) F_Mod_13 (by decide +kernel) rfl (hs.r r_136_1) ?_
      refine g_iconst (z := 2) (v := 2) (by decide +kernel) rfl ?_
      refine x_iald hf (hs.k k_137) (by decide +kernel) (fun x6 hf => ?_)
      refine g_iconst (z := 1) (v := 1) (by decide +kernel) rfl ?_
      refine g_isub (by decide +kernel) ?_
      refine g_i2l (by decide +kernel) ?_
      refine x_callSBp (as := [.long ((p3).toInt64), .long (0 : Int64), .long (((x6 - (1 : Int32))).toInt64)]) St_Mod_within hf (fun q hq => t_Mod_within hs  hq) Y_Mod_within L_Mod_157 (by decide +kernel) rfl rfl (Nat.le_of_ble_eq_true rfl) (by decide) (Nat.le_refl _) (Nat.le_refl _) (fun q7 hf => ?_)
      refine x_ifb_ne (off := 6) (tgt := 47) hf (by decide +kernel) (by decide) (fun c8 hf => ?_) (fun c8 hf => ?_)
      · refine g_aload_n (i := 0) (by decide +kernel) rfl ?_
        refine g_iload_n (i := 1) (by decide +kernel) rfl ?_
        refine g_iload_n (i := 2) (by decide +kernel) rfl ?_
        refine x_callVIp (as := [.int p1, .int p2]) Vi_Mod_noSeen Vs_Mod_noSeen (hs.k k_136) rfl hf (fun q hq => t_Mod_noSeen hs  hq) Y_Mod_noSeen L_Mod_408 (by decide +kernel) rfl rfl (Nat.le_of_ble_eq_true rfl) (by decide) (Nat.le_refl _) (Nat.le_refl _) (fun q9 hf => ?_)
        refine g_istore (i := 4) (by decide +kernel) rfl (by decide) (ls1 := [(0, .ref 136), (1, .int p1), (2, .int p2), (3, .int p3), (4, .int q9)]) rfl ?_
        refine g_iload (i := 4) (by decide +kernel) rfl ?_
        refine x_if_eq (off := 8) (tgt := 65) hf (by decide +kernel) (by decide) (fun c10 hf => ?_) (fun c10 hf => ?_)
        · refine g_aload_n (i := 0) (by decide +kernel) rfl ?_
          refine g_iload_n (i := 1) (by decide +kernel) rfl ?_
          refine g_iload_n (i := 2) (by decide +kernel) rfl ?_
          refine g_iload_n (i := 3) (by decide +kernel) rfl ?_
          refine x_callVI (as := [.int p1, .int p2, .int p3]) Vi_Mod_fitting Vs_Mod_fitting (hs.k k_136) rfl hf (fun q hq => t_Mod_fitting hs  hq) Y_Mod_fitting L_Mod_411 (by decide +kernel) rfl rfl (Nat.le_of_ble_eq_true rfl) (by decide) (Nat.le_refl _) (Nat.le_refl _) (fun q11 hf hs => ?_)
          exact x_iret hf hs (by decide +kernel) rfl (Nat.le_refl _) (Nat.le_refl _)
        · refine g_iload (i := 4) (by decide +kernel) rfl ?_
          refine g_goto (off := 10) (tgt := 72) (by decide +kernel) (by decide) ?_
          exact x_iret hf hs (by decide +kernel) rfl (Nat.le_refl _) (Nat.le_refl _)
      · refine g_bipush (z := (-2)) (v := (-2)) (by decide +kernel) rfl ?_
        exact x_iret hf hs (by decide +kernel) rfl (Nat.le_refl _) (Nat.le_refl _)
def f_Mod_surest_L28 (p1 : Int32) (p2 : Int32) : Nat → Int32 → Int32 → Int32 → Int32 → am_H → Option (Int32 × Int32 × Int32 × am_H)
  | 0, _, _, _, _, _ => none
  | n + 1, v3, v4, v5, v6, h =>
    (am_rd (h.2.1 137) 3411 (2 : Int32)).bind fun x4 =>
    (if x4 ≤ v6 then
      some (v4, v5, v6, h)
    else
      (f_Mod_fitting p1 p2 v6 h).bind fun q6 =>
      (f_Mod_bitsOf q6.1 q6.2).bind fun q7 =>
      (if q7 = 0 then
        f_Mod_surest_L28 p1 p2 n v3 v4 v5 (v6 + (1 : Int32)) q6.2
      else
        (if q7 < v5 then
          f_Mod_surest_L28 p1 p2 n v3 v6 q7 (v6 + (1 : Int32)) q6.2
        else
          f_Mod_surest_L28 p1 p2 n v3 v4 v5 (v6 + (1 : Int32)) q6.2)))
set_option maxRecDepth 100000 in
set_option maxHeartbeats 4000000 in
theorem t_Mod_surest_L28 {p1 : Int32} {p2 : Int32}  {Q : Option Value → am_H → Prop} : ∀ (n : Nat) (v3 : Int32) (v4 : Int32) (v5 : Int32) (v6 : Int32) (h : am_H) (q : Int32 × Int32 × Int32 × am_H), am_Sh h → f_Mod_surest_L28 p1 p2 n v3 v4 v5 v6 h = some q → (am_Sh q.2.2.2 → am_G 4 M_Mod_surest 0 0 Q 81 [(0, .ref 136), (1, .int p1), (2, .int p2), (3, .int v3), (4, .int q.1), (5, .int q.2.1), (6, .int q.2.2.1)] [] q.2.2.2 0 0) → am_G 4 M_Mod_surest 0 0 Q 28 [(0, .ref 136), (1, .int p1), (2, .int p2), (3, .int v3), (4, .int v4), (5, .int v5), (6, .int v6)] [] h 0 0 := by
  intro n
  induction n with
  | zero =>
    intro v3 v4 v5 v6 h q hs hf kont
    rw [f_Mod_surest_L28] at hf
    cases hf
  | succ n ih =>
    intro v3 v4 v5 v6 h q hs hf kont
    rw [f_Mod_surest_L28] at hf
    refine g_iload (i := 6) (by decide +kernel) rfl ?_
    refine g_aload_n (i := 0) (by decide +kernel) rfl ?_
    refine x_getr (hs.k k_136) F_Mod_13 (by decide +kernel) rfl (hs.r r_136_1) ?_
    refine g_iconst (z := 2) (v := 2) (by decide +kernel) rfl ?_
    refine x_iald hf (hs.k k_137) (by decide +kernel) (fun x4 hf => ?_)
    refine x_icmp_ge (off := 45) (tgt := 81) hf (by decide +kernel) (by decide) (fun c5 hf => ?_) (fun c5 hf => ?_)
    · cases hf
      exact am_G.forget (am_subp [0, 1, 2, 3, 4, 5, 6] rfl) (kont hs)
    · refine g_aload_n (i := 0) (by decide +kernel) rfl ?_
      refine g_iload_n (i := 1) (by decide +kernel) rfl ?_
      refine g_iload_n (i := 2) (by decide +kernel) rfl ?_
      refine g_iload (i := 6) (by decide +kernel) rfl ?_
      refine x_callVI (as := [.int p1, .int p2, .int v6]) Vi_Mod_fitting Vs_Mod_fitting (hs.k k_136) rfl hf (fun q hq => t_Mod_fitting hs  hq) Y_Mod_fitting L_Mod_411 (by decide +kernel) rfl rfl (Nat.le_of_ble_eq_true rfl) (by decide) (Nat.le_refl _) (Nat.le_refl _) (fun q6 hf hs => ?_)
      refine x_callSIp (as := [.int q6.1]) St_Mod_bitsOf hf (fun q hq => t_Mod_bitsOf hs  hq) Y_Mod_bitsOf L_Mod_414 (by decide +kernel) rfl rfl (Nat.le_of_ble_eq_true rfl) (by decide) (Nat.le_refl _) (Nat.le_refl _) (fun q7 hf => ?_)
      refine g_istore (i := 7) (by decide +kernel) rfl (by decide) (ls1 := [(0, .ref 136), (1, .int p1), (2, .int p2), (3, .int v3), (4, .int v4), (5, .int v5), (6, .int v6), (7, .int q7)]) rfl ?_
      refine g_iload (i := 7) (by decide +kernel) rfl ?_
      refine x_if_eq (off := 21) (tgt := 75) hf (by decide +kernel) (by decide) (fun c8 hf => ?_) (fun c8 hf => ?_)
      · refine g_iinc (i := 6) (z := 1) (v := (v6 + (1 : Int32))) (by decide +kernel) rfl rfl rfl (by decide) (ls1 := [(0, .ref 136), (1, .int p1), (2, .int p2), (3, .int v3), (4, .int v4), (5, .int v5), (6, .int (v6 + (1 : Int32))), (7, .int q7)]) rfl ?_
        refine g_goto (off := (-50)) (tgt := 28) (by decide +kernel) (by decide) ?_
        exact am_G.forget (am_subp [0, 1, 2, 3, 4, 5, 6] rfl) (ih _ _ _ _ _ _ hs hf kont)
      · refine g_iload (i := 7) (by decide +kernel) rfl ?_
        refine g_iload (i := 5) (by decide +kernel) rfl ?_
        refine x_icmp_lt (off := 6) (tgt := 67) hf (by decide +kernel) (by decide) (fun c9 hf => ?_) (fun c9 hf => ?_)
        · refine g_iload (i := 6) (by decide +kernel) rfl ?_
          refine g_istore (i := 4) (by decide +kernel) rfl (by decide) (ls1 := [(0, .ref 136), (1, .int p1), (2, .int p2), (3, .int v3), (4, .int v6), (5, .int v5), (6, .int v6), (7, .int q7)]) rfl ?_
          refine g_iload (i := 7) (by decide +kernel) rfl ?_
          refine g_istore (i := 5) (by decide +kernel) rfl (by decide) (ls1 := [(0, .ref 136), (1, .int p1), (2, .int p2), (3, .int v3), (4, .int v6), (5, .int q7), (6, .int v6), (7, .int q7)]) rfl ?_
          refine g_iinc (i := 6) (z := 1) (v := (v6 + (1 : Int32))) (by decide +kernel) rfl rfl rfl (by decide) (ls1 := [(0, .ref 136), (1, .int p1), (2, .int p2), (3, .int v3), (4, .int v6), (5, .int q7), (6, .int (v6 + (1 : Int32))), (7, .int q7)]) rfl ?_
          refine g_goto (off := (-50)) (tgt := 28) (by decide +kernel) (by decide) ?_
          exact am_G.forget (am_subp [0, 1, 2, 3, 4, 5, 6] rfl) (ih _ _ _ _ _ _ hs hf kont)
        · refine g_goto (off := 11) (tgt := 75) (by decide +kernel) (by decide) ?_
          refine g_iinc (i := 6) (z := 1) (v := (v6 + (1 : Int32))) (by decide +kernel) rfl rfl rfl (by decide) (ls1 := [(0, .ref 136), (1, .int p1), (2, .int p2), (3, .int v3), (4, .int v4), (5, .int v5), (6, .int (v6 + (1 : Int32))), (7, .int q7)]) rfl ?_
          refine g_goto (off := (-50)) (tgt := 28) (by decide +kernel) (by decide) ?_
          exact am_G.forget (am_subp [0, 1, 2, 3, 4, 5, 6] rfl) (ih _ _ _ _ _ _ hs hf kont)
def f_Mod_surest (p1 : Int32) (p2 : Int32) (h : am_H) : Option (Int32 × am_H) :=
  am_let (am_sI h 136 0 (0 : Int32)) fun h1 =>
  (f_Mod_noSeen p1 p2 h1).bind fun q2 =>
  (if q2 = 0 then
    (f_Mod_surest_L28 p1 p2 am_fu q2 (-1 : Int32) (9 : Int32) (0 : Int32) h1).bind fun q10 =>
    some (q10.1, q10.2.2.2)
  else
    some (q2, h1))
set_option maxRecDepth 100000 in
set_option maxHeartbeats 4000000 in
theorem t_Mod_surest {p1 : Int32} {p2 : Int32} {h : am_H} (hs : am_Sh h)  {r : Int32 × am_H} (hf : f_Mod_surest p1 p2 h = some r) : am_Ct 4 M_Mod_surest [.ref 136, .int p1, .int p2] h 0 0 (am_qI r) := by
  unfold f_Mod_surest at hf
  refine am_Ct.of (by decide) rfl (Nat.le_of_ble_eq_true rfl) (ls := [(0, .ref 136), (1, .int p1), (2, .int p2)]) rfl ?_
  refine g_aload_n (i := 0) (by decide +kernel) rfl ?_
  refine g_iconst (z := 0) (v := 0) (by decide +kernel) rfl ?_
  refine x_puti hf hs (hs.k k_136) F_Mod_1 (by decide +kernel) rfl rfl rfl rfl (fun h1 hf hs => ?_)
  refine g_aload_n (i := 0) (by decide +kernel) rfl ?_
  refine g_iload_n (i := 1) (by decide +kernel) rfl ?_
  refine g_iload_n (i := 2) (by decide +kernel) rfl ?_
  refine x_callVIp (as := [.int p1, .int p2]) Vi_Mod_noSeen Vs_Mod_noSeen (hs.k k_136) rfl hf (fun q hq => t_Mod_noSeen hs  hq) Y_Mod_noSeen L_Mod_408 (by decide +kernel) rfl rfl (Nat.le_of_ble_eq_true rfl) (by decide) (Nat.le_refl _) (Nat.le_refl _) (fun q2 hf => ?_)
  refine g_istore_n (i := 3) (by decide +kernel) rfl (by decide) (ls1 := [(0, .ref 136), (1, .int p1), (2, .int p2), (3, .int q2)]) rfl ?_
  refine g_iload_n (i := 3) (by decide +kernel) rfl ?_
  refine x_if_eq (off := 5) (tgt := 18) hf (by decide +kernel) (by decide) (fun c3 hf => ?_) (fun c3 hf => ?_)
  · refine g_iconst (z := (-1)) (v := (-1)) (by decide +kernel) rfl ?_
    refine g_istore (i := 4) (by decide +kernel) rfl (by decide) (ls1 := [(0, .ref 136), (1, .int p1), (2, .int p2), (3, .int q2), (4, .int (-1 : Int32))]) rfl ?_
    refine g_bipush (z := 9) (v := 9) (by decide +kernel) rfl ?_
    refine g_istore (i := 5) (by decide +kernel) rfl (by decide) (ls1 := [(0, .ref 136), (1, .int p1), (2, .int p2), (3, .int q2), (4, .int (-1 : Int32)), (5, .int (9 : Int32))]) rfl ?_
    refine g_iconst (z := 0) (v := 0) (by decide +kernel) rfl ?_
    refine g_istore (i := 6) (by decide +kernel) rfl (by decide) (ls1 := [(0, .ref 136), (1, .int p1), (2, .int p2), (3, .int q2), (4, .int (-1 : Int32)), (5, .int (9 : Int32)), (6, .int (0 : Int32))]) rfl ?_
    obtain ⟨q10, hqq10, hf⟩ := Option.bind_eq_some_iff.mp hf
    refine am_G.forget (am_subp [0, 1, 2, 3, 4, 5, 6] rfl) (t_Mod_surest_L28  am_fu _ _ _ _ _ q10 hs hqq10 (fun hs => ?_))
    refine g_iload (i := 4) (by decide +kernel) rfl ?_
    exact x_iret hf hs (by decide +kernel) rfl (Nat.le_refl _) (Nat.le_refl _)
  · refine g_iload_n (i := 3) (by decide +kernel) rfl ?_
    exact x_iret hf hs (by decide +kernel) rfl (Nat.le_refl _) (Nat.le_refl _)
def f_Mod_odd (p1 : Int32) (p2 : Int32) (h : am_H) : Option (Int32 × am_H) :=
  am_let (am_sI h 136 0 (0 : Int32)) fun h1 =>
  (f_Mod_noSeen p1 p2 h1).bind fun q2 =>
  (if q2 = 0 then
    (f_Mod_laysLets p2 h1).bind fun q4 =>
    (f_Mod_oddIn p1 q4).bind fun q5 =>
    some (q5, q4)
  else
    some (q2, h1))
set_option maxRecDepth 100000 in
set_option maxHeartbeats 4000000 in
theorem t_Mod_odd {p1 : Int32} {p2 : Int32} {h : am_H} (hs : am_Sh h)  {r : Int32 × am_H} (hf : f_Mod_odd p1 p2 h = some r) : am_Ct 3 M_Mod_odd [.ref 136, .int p1, .int p2] h 0 0 (am_qI r) := by
  unfold f_Mod_odd at hf
  refine am_Ct.of (by decide) rfl (Nat.le_of_ble_eq_true rfl) (ls := [(0, .ref 136), (1, .int p1), (2, .int p2)]) rfl ?_
  refine g_aload_n (i := 0) (by decide +kernel) rfl ?_
  refine g_iconst (z := 0) (v := 0) (by decide +kernel) rfl ?_
  refine x_puti hf hs (hs.k k_136) F_Mod_1 (by decide +kernel) rfl rfl rfl rfl (fun h1 hf hs => ?_)
  refine g_aload_n (i := 0) (by decide +kernel) rfl ?_
  refine g_iload_n (i := 1) (by decide +kernel) rfl ?_
  refine g_iload_n (i := 2) (by decide +kernel) rfl ?_
  refine x_callVIp (as := [.int p1, .int p2]) Vi_Mod_noSeen Vs_Mod_noSeen (hs.k k_136) rfl hf (fun q hq => t_Mod_noSeen hs  hq) Y_Mod_noSeen L_Mod_408 (by decide +kernel) rfl rfl (Nat.le_of_ble_eq_true rfl) (by decide) (Nat.le_refl _) (Nat.le_refl _) (fun q2 hf => ?_)
  refine g_istore_n (i := 3) (by decide +kernel) rfl (by decide) (ls1 := [(0, .ref 136), (1, .int p1), (2, .int p2), (3, .int q2)]) rfl ?_
  refine g_iload_n (i := 3) (by decide +kernel) rfl ?_
  refine x_if_eq (off := 5) (tgt := 18) hf (by decide +kernel) (by decide) (fun c3 hf => ?_) (fun c3 hf => ?_)
  · refine g_aload_n (i := 0) (by decide +kernel) rfl ?_
    refine g_iload_n (i := 2) (by decide +kernel) rfl ?_
    refine x_callVV (as := [.int p2]) Vi_Mod_laysLets Vs_Mod_laysLets (hs.k k_136) rfl hf (fun q hq => t_Mod_laysLets hs  hq) Y_Mod_laysLets L_Mod_333 (by decide +kernel) rfl rfl (Nat.le_of_ble_eq_true rfl) (by decide) (Nat.le_refl _) (Nat.le_refl _) (fun q4 hf hs => ?_)
    refine g_aload_n (i := 0) (by decide +kernel) rfl ?_
    refine g_iload_n (i := 1) (by decide +kernel) rfl ?_
    refine x_callVIp (as := [.int p1]) Vi_Mod_oddIn Vs_Mod_oddIn (hs.k k_136) rfl hf (fun q hq => t_Mod_oddIn hs  hq) Y_Mod_oddIn L_Mod_405 (by decide +kernel) rfl rfl (Nat.le_of_ble_eq_true rfl) (by decide) (Nat.le_refl _) (Nat.le_refl _) (fun q5 hf => ?_)
    exact x_iret hf hs (by decide +kernel) rfl (Nat.le_refl _) (Nat.le_refl _)
  · refine g_iload_n (i := 3) (by decide +kernel) rfl ?_
    exact x_iret hf hs (by decide +kernel) rfl (Nat.le_refl _) (Nat.le_refl _)
def f_Mod_bestOn_L17 (p1 : Int32) (p2 : Int32) (p3 : Int32) : Nat → Int32 → Int64 → Int32 → am_H → Option (Int64 × Int32)
  | 0, _, _, _, _ => none
  | n + 1, v4, v5, v7, h =>
    (if (9 : Int32) ≤ v7 then
      some (v5, v7)
    else
      (f_Mod_isIn ((v4).toInt64) v7 h).bind fun q3 =>
      (if q3 = true then
        (am_rd (h.2.2.1 156) 9 v7).bind fun x5 =>
        (if (lg_cmp x5 v5) ≤ 0 then
          f_Mod_bestOn_L17 p1 p2 p3 n v4 v5 (v7 + (1 : Int32)) h
        else
          (am_rd (h.2.2.1 156) 9 v7).bind fun x7 =>
          f_Mod_bestOn_L17 p1 p2 p3 n v4 x7 (v7 + (1 : Int32)) h)
      else
        f_Mod_bestOn_L17 p1 p2 p3 n v4 v5 (v7 + (1 : Int32)) h))
set_option maxRecDepth 100000 in
set_option maxHeartbeats 4000000 in
theorem t_Mod_bestOn_L17 {p1 : Int32} {p2 : Int32} {p3 : Int32}  {Q : Option Value → am_H → Prop} : ∀ (n : Nat) (v4 : Int32) (v5 : Int64) (v7 : Int32) (h : am_H) (q : Int64 × Int32), am_Sh h → f_Mod_bestOn_L17 p1 p2 p3 n v4 v5 v7 h = some q → (am_G 2 M_Mod_bestOn 0 0 Q 63 [(0, .ref 136), (1, .int p1), (2, .int p2), (3, .int p3), (4, .int v4), (5, .long q.1), (7, .int q.2)] [] h 0 0) → am_G 2 M_Mod_bestOn 0 0 Q 17 [(0, .ref 136), (1, .int p1), (2, .int p2), (3, .int p3), (4, .int v4), (5, .long v5), (7, .int v7)] [] h 0 0 := by
  intro n
  induction n with
  | zero =>
    intro v4 v5 v7 h q hs hf kont
    rw [f_Mod_bestOn_L17] at hf
    cases hf
  | succ n ih =>
    intro v4 v5 v7 h q hs hf kont
    rw [f_Mod_bestOn_L17] at hf
    refine g_iload (i := 7) (by decide +kernel) rfl ?_
    refine g_bipush (z := 9) (v := 9) (by decide +kernel) rfl ?_
    refine x_icmp_ge (off := 42) (tgt := 63) hf (by decide +kernel) (by decide) (fun c2 hf => ?_) (fun c2 hf => ?_)
    · cases hf
      exact am_G.forget (am_subp [0, 1, 2, 3, 4, 5, 6] rfl) kont
    · refine g_iload (i := 4) (by decide +kernel) rfl ?_
      refine g_i2l (by decide +kernel) ?_
      refine g_iload (i := 7) (by decide +kernel) rfl ?_
      refine x_callSBp (as := [.long ((v4).toInt64), .int v7]) St_Mod_isIn hf (fun q hq => t_Mod_isIn hs  hq) Y_Mod_isIn L_Mod_260 (by decide +kernel) rfl rfl (Nat.le_of_ble_eq_true rfl) (by decide) (Nat.le_refl _) (Nat.le_refl _) (fun q3 hf => ?_)
      refine x_ifb_eq (off := 25) (tgt := 57) hf (by decide +kernel) (by decide) (fun c4 hf => ?_) (fun c4 hf => ?_)
      · refine g_iinc (i := 7) (z := 1) (v := (v7 + (1 : Int32))) (by decide +kernel) rfl rfl rfl (by decide) (ls1 := [(0, .ref 136), (1, .int p1), (2, .int p2), (3, .int p3), (4, .int v4), (5, .long v5), (7, .int (v7 + (1 : Int32)))]) rfl ?_
        refine g_goto (off := (-43)) (tgt := 17) (by decide +kernel) (by decide) ?_
        exact am_G.forget (am_subp [0, 1, 2, 3, 4, 5, 6] rfl) (ih _ _ _ _ _ hs hf kont)
      · refine g_aload_n (i := 0) (by decide +kernel) rfl ?_
        refine x_getr (hs.k k_136) F_Mod_76 (by decide +kernel) rfl (hs.r r_136_36) ?_
        refine g_iload (i := 7) (by decide +kernel) rfl ?_
        refine x_lald hf (hs.k k_156) (by decide +kernel) (fun x5 hf => ?_)
        refine g_lload (i := 5) (by decide +kernel) rfl ?_
        refine g_lcmp (by decide +kernel) ?_
        refine x_if_le (off := 12) (tgt := 57) hf (by decide +kernel) (by decide) (fun c6 hf => ?_) (fun c6 hf => ?_)
        · refine g_iinc (i := 7) (z := 1) (v := (v7 + (1 : Int32))) (by decide +kernel) rfl rfl rfl (by decide) (ls1 := [(0, .ref 136), (1, .int p1), (2, .int p2), (3, .int p3), (4, .int v4), (5, .long v5), (7, .int (v7 + (1 : Int32)))]) rfl ?_
          refine g_goto (off := (-43)) (tgt := 17) (by decide +kernel) (by decide) ?_
          exact am_G.forget (am_subp [0, 1, 2, 3, 4, 5, 6] rfl) (ih _ _ _ _ _ hs hf kont)
        · refine g_aload_n (i := 0) (by decide +kernel) rfl ?_
          refine x_getr (hs.k k_136) F_Mod_76 (by decide +kernel) rfl (hs.r r_136_36) ?_
          refine g_iload (i := 7) (by decide +kernel) rfl ?_
          refine x_lald hf (hs.k k_156) (by decide +kernel) (fun x7 hf => ?_)
          refine g_lstore (i := 5) (by decide +kernel) rfl (by decide) (ls1 := [(0, .ref 136), (1, .int p1), (2, .int p2), (3, .int p3), (4, .int v4), (5, .long x7), (7, .int v7)]) rfl ?_
          refine g_iinc (i := 7) (z := 1) (v := (v7 + (1 : Int32))) (by decide +kernel) rfl rfl rfl (by decide) (ls1 := [(0, .ref 136), (1, .int p1), (2, .int p2), (3, .int p3), (4, .int v4), (5, .long x7), (7, .int (v7 + (1 : Int32)))]) rfl ?_
          refine g_goto (off := (-43)) (tgt := 17) (by decide +kernel) (by decide) ?_
          exact am_G.forget (am_subp [0, 1, 2, 3, 4, 5, 6] rfl) (ih _ _ _ _ _ hs hf kont)
def f_Mod_bestOn (p1 : Int32) (p2 : Int32) (p3 : Int32) (h : am_H) : Option (Int64) :=
  (f_Mod_goesOn ((1 : Int32) <<< (p1 &&& 31)) p2 p3 h).bind fun q1 =>
  (f_Mod_bestOn_L17 p1 p2 p3 am_fu q1 (0 : Int64) (0 : Int32) h).bind fun q8 =>
  some q8.1
set_option maxRecDepth 100000 in
set_option maxHeartbeats 4000000 in
theorem t_Mod_bestOn {p1 : Int32} {p2 : Int32} {p3 : Int32} {h : am_H} (hs : am_Sh h)  {r : Int64} (hf : f_Mod_bestOn p1 p2 p3 h = some r) : am_Ct 2 M_Mod_bestOn [.ref 136, .int p1, .int p2, .int p3] h 0 0 (am_pJ h r) := by
  unfold f_Mod_bestOn at hf
  refine am_Ct.of (by decide) rfl (Nat.le_of_ble_eq_true rfl) (ls := [(0, .ref 136), (1, .int p1), (2, .int p2), (3, .int p3)]) rfl ?_
  refine g_aload_n (i := 0) (by decide +kernel) rfl ?_
  refine g_iconst (z := 1) (v := 1) (by decide +kernel) rfl ?_
  refine g_iload_n (i := 1) (by decide +kernel) rfl ?_
  refine g_ishl (by decide +kernel) ?_
  refine g_iload_n (i := 2) (by decide +kernel) rfl ?_
  refine g_iload_n (i := 3) (by decide +kernel) rfl ?_
  refine x_callVIp (as := [.int ((1 : Int32) <<< (p1 &&& 31)), .int p2, .int p3]) Vi_Mod_goesOn Vs_Mod_goesOn (hs.k k_136) rfl hf (fun q hq => t_Mod_goesOn hs  hq) Y_Mod_goesOn L_Mod_330 (by decide +kernel) rfl rfl (Nat.le_of_ble_eq_true rfl) (by decide) (Nat.le_refl _) (Nat.le_refl _) (fun q1 hf => ?_)
  refine g_istore (i := 4) (by decide +kernel) rfl (by decide) (ls1 := [(0, .ref 136), (1, .int p1), (2, .int p2), (3, .int p3), (4, .int q1)]) rfl ?_
  refine g_lconst (z := 0) (v := 0) (by decide +kernel) rfl ?_
  refine g_lstore (i := 5) (by decide +kernel) rfl (by decide) (ls1 := [(0, .ref 136), (1, .int p1), (2, .int p2), (3, .int p3), (4, .int q1), (5, .long (0 : Int64))]) rfl ?_
  refine g_iconst (z := 0) (v := 0) (by decide +kernel) rfl ?_
  refine g_istore (i := 7) (by decide +kernel) rfl (by decide) (ls1 := [(0, .ref 136), (1, .int p1), (2, .int p2), (3, .int p3), (4, .int q1), (5, .long (0 : Int64)), (7, .int (0 : Int32))]) rfl ?_
  obtain ⟨q8, hqq8, hf⟩ := Option.bind_eq_some_iff.mp hf
  refine am_G.forget (am_subp [0, 1, 2, 3, 4, 5, 6] rfl) (t_Mod_bestOn_L17  am_fu _ _ _ _ q8 hs hqq8 ?_)
  refine g_lload (i := 5) (by decide +kernel) rfl ?_
  exact x_lretp hf (by decide +kernel) rfl (Nat.le_refl _) (Nat.le_refl _)
