def f_Top_putBytes_L3 (p1 : Int32) : Nat → Int32 → am_H → Option (Int32 × am_H)
  | 0, _, _ => none
  | n + 1, v2, h =>
    (if v2 < 0 then
      some (v2, h)
    else
      (if (900 : Int32) ≤ (h.2.1 0 13) then
        some (v2, h)
      else
        (am_wr h 60 900 (h.2.1 0 13) (vp_nar .byte (((p1 >>> (v2 &&& 31))).toInt8.toInt32))).bind fun h3 =>
        am_let (am_sI h3 0 13 ((h3.2.1 0 13) + (1 : Int32))) fun h4 =>
        f_Top_putBytes_L3 p1 n (v2 + (-8 : Int32)) h4))
set_option maxRecDepth 100000 in
set_option maxHeartbeats 4000000 in
theorem t_Top_putBytes_L3 {p1 : Int32}  {Q : Option Value → am_H → Prop} : ∀ (n : Nat) (v2 : Int32) (h : am_H) (q : Int32 × am_H), am_Sh h → f_Top_putBytes_L3 p1 n v2 h = some q → (am_Sh q.2 → am_G 0 M_Top_putBytes 0 0 Q 46 [(0, .ref 0), (1, .int p1), (2, .int q.1)] [] q.2 0 0) → am_G 0 M_Top_putBytes 0 0 Q 3 [(0, .ref 0), (1, .int p1), (2, .int v2)] [] h 0 0 := by
  intro n
  induction n with
  | zero =>
    intro v2 h q hs hf kont
    rw [f_Top_putBytes_L3] at hf
    cases hf
  | succ n ih =>
    intro v2 h q hs hf kont
    rw [f_Top_putBytes_L3] at hf
    refine g_iload_n (i := 2) (by decide +kernel) rfl ?_
    refine x_if_lt (off := 42) (tgt := 46) hf (by decide +kernel) (by decide) (fun c1 hf => ?_) (fun c1 hf => ?_)
    · cases hf
      exact am_G.forget (am_subp [0, 1, 2] rfl) (kont hs)
    · refine g_aload_n (i := 0) (by decide +kernel) rfl ?_
      refine x_geti (hs.k k_0) F_Top_90 (by decide +kernel) rfl ?_
      refine g_sipush (z := 900) (v := 900) (by decide +kernel) rfl ?_
      refine x_icmp_ge (off := 32) (tgt := 46) hf (by decide +kernel) (by decide) (fun c2 hf => ?_) (fun c2 hf => ?_)
      · cases hf
        exact am_G.forget (am_subp [0, 1, 2] rfl) (kont hs)
      · refine g_aload_n (i := 0) (by decide +kernel) rfl ?_
        refine x_getr (hs.k k_0) F_Top_33 (by decide +kernel) rfl (hs.r r_0_4) ?_
        refine g_aload_n (i := 0) (by decide +kernel) rfl ?_
        refine x_geti (hs.k k_0) F_Top_90 (by decide +kernel) rfl ?_
        refine g_iload_n (i := 1) (by decide +kernel) rfl ?_
        refine g_iload_n (i := 2) (by decide +kernel) rfl ?_
        refine g_ishr (by decide +kernel) ?_
        refine g_i2b (by decide +kernel) ?_
        refine x_bast hf hs (hs.k k_60) (by decide +kernel) (fun h3 hf hs => ?_)
        refine g_aload_n (i := 0) (by decide +kernel) rfl ?_
        refine g_dup (by decide +kernel) rfl ?_
        refine x_geti (hs.k k_0) F_Top_90 (by decide +kernel) rfl ?_
        refine g_iconst (z := 1) (v := 1) (by decide +kernel) rfl ?_
        refine g_iadd (by decide +kernel) ?_
        refine x_puti hf hs (hs.k k_0) F_Top_90 (by decide +kernel) rfl rfl rfl rfl (fun h4 hf hs => ?_)
        refine g_iinc (i := 2) (z := (-8)) (v := (v2 + (-8 : Int32))) (by decide +kernel) rfl rfl rfl (by decide) (ls1 := [(0, .ref 0), (1, .int p1), (2, .int (v2 + (-8 : Int32)))]) rfl ?_
        refine g_goto (off := (-40)) (tgt := 3) (by decide +kernel) (by decide) ?_
        exact am_G.forget (am_subp [0, 1, 2] rfl) (ih _ _ _ hs hf kont)
def f_Top_putBytes (p1 : Int32) (h : am_H) : Option (am_H) :=
  (f_Top_putBytes_L3 p1 am_fu (24 : Int32) h).bind fun q5 =>
  some q5.2
set_option maxRecDepth 100000 in
set_option maxHeartbeats 4000000 in
theorem t_Top_putBytes {p1 : Int32} {h : am_H} (hs : am_Sh h)  {r : am_H} (hf : f_Top_putBytes p1 h = some r) : am_Ct 0 M_Top_putBytes [.ref 0, .int p1] h 0 0 (am_qV r) := by
  unfold f_Top_putBytes at hf
  refine am_Ct.of (by decide) rfl (Nat.le_of_ble_eq_true rfl) (ls := [(0, .ref 0), (1, .int p1)]) rfl ?_
  refine g_bipush (z := 24) (v := 24) (by decide +kernel) rfl ?_
  refine g_istore_n (i := 2) (by decide +kernel) rfl (by decide) (ls1 := [(0, .ref 0), (1, .int p1), (2, .int (24 : Int32))]) rfl ?_
  obtain ⟨q5, hqq5, hf⟩ := Option.bind_eq_some_iff.mp hf
  refine am_G.forget (am_subp [0, 1, 2] rfl) (t_Top_putBytes_L3  am_fu _ _ q5 hs hqq5 (fun hs => ?_))
  exact x_vret hf hs (by decide +kernel) rfl (Nat.le_refl _) (Nat.le_refl _)
def f_Top_feed (p1 : Int32) (p2 : Int32) (p3 : Int32) (p4 : Int32) (p5 : Int32) (h : am_H) : Option (Int32 × am_H) :=
  (if ((h.2.1 0 13) + (20 : Int32)) ≤ (900 : Int32) then
    (f_Top_putBytes p1 h).bind fun q2 =>
    (f_Top_putBytes p2 q2).bind fun q3 =>
    (f_Top_putBytes p3 q3).bind fun q4 =>
    (f_Top_putBytes p4 q4).bind fun q5 =>
    (f_Top_putBytes p5 q5).bind fun q6 =>
    some ((q6.2.1 0 13), q6)
  else
    some ((-5 : Int32), h))
set_option maxRecDepth 100000 in
set_option maxHeartbeats 4000000 in
theorem t_Top_feed {p1 : Int32} {p2 : Int32} {p3 : Int32} {p4 : Int32} {p5 : Int32} {h : am_H} (hs : am_Sh h)  {r : Int32 × am_H} (hf : f_Top_feed p1 p2 p3 p4 p5 h = some r) : am_Ct 1 M_Top_feed [.ref 0, .int p1, .int p2, .int p3, .int p4, .int p5] h 0 0 (am_qI r) := by
  unfold f_Top_feed at hf
  refine am_Ct.of (by decide) rfl (Nat.le_of_ble_eq_true rfl) (ls := [(0, .ref 0), (1, .int p1), (2, .int p2), (3, .int p3), (4, .int p4), (5, .int p5)]) rfl ?_
  refine g_aload_n (i := 0) (by decide +kernel) rfl ?_
  refine x_geti (hs.k k_0) F_Top_90 (by decide +kernel) rfl ?_
  refine g_bipush (z := 20) (v := 20) (by decide +kernel) rfl ?_
  refine g_iadd (by decide +kernel) ?_
  refine g_sipush (z := 900) (v := 900) (by decide +kernel) rfl ?_
  refine x_icmp_le (off := 6) (tgt := 16) hf (by decide +kernel) (by decide) (fun c1 hf => ?_) (fun c1 hf => ?_)
  · refine g_aload_n (i := 0) (by decide +kernel) rfl ?_
    refine g_iload_n (i := 1) (by decide +kernel) rfl ?_
    refine x_callVV (as := [.int p1]) Vi_Top_putBytes Vs_Top_putBytes (hs.k k_0) rfl hf (fun q hq => t_Top_putBytes hs  hq) Y_Top_putBytes L_Top_98 (by decide +kernel) rfl rfl (Nat.le_of_ble_eq_true rfl) (by decide) (Nat.le_refl _) (Nat.le_refl _) (fun q2 hf hs => ?_)
    refine g_aload_n (i := 0) (by decide +kernel) rfl ?_
    refine g_iload_n (i := 2) (by decide +kernel) rfl ?_
    refine x_callVV (as := [.int p2]) Vi_Top_putBytes Vs_Top_putBytes (hs.k k_0) rfl hf (fun q hq => t_Top_putBytes hs  hq) Y_Top_putBytes L_Top_98 (by decide +kernel) rfl rfl (Nat.le_of_ble_eq_true rfl) (by decide) (Nat.le_refl _) (Nat.le_refl _) (fun q3 hf hs => ?_)
    refine g_aload_n (i := 0) (by decide +kernel) rfl ?_
    refine g_iload_n (i := 3) (by decide +kernel) rfl ?_
    refine x_callVV (as := [.int p3]) Vi_Top_putBytes Vs_Top_putBytes (hs.k k_0) rfl hf (fun q hq => t_Top_putBytes hs  hq) Y_Top_putBytes L_Top_98 (by decide +kernel) rfl rfl (Nat.le_of_ble_eq_true rfl) (by decide) (Nat.le_refl _) (Nat.le_refl _) (fun q4 hf hs => ?_)
    refine g_aload_n (i := 0) (by decide +kernel) rfl ?_
    refine g_iload (i := 4) (by decide +kernel) rfl ?_
    refine x_callVV (as := [.int p4]) Vi_Top_putBytes Vs_Top_putBytes (hs.k k_0) rfl hf (fun q hq => t_Top_putBytes hs  hq) Y_Top_putBytes L_Top_98 (by decide +kernel) rfl rfl (Nat.le_of_ble_eq_true rfl) (by decide) (Nat.le_refl _) (Nat.le_refl _) (fun q5 hf hs => ?_)
    refine g_aload_n (i := 0) (by decide +kernel) rfl ?_
    refine g_iload (i := 5) (by decide +kernel) rfl ?_
    refine x_callVV (as := [.int p5]) Vi_Top_putBytes Vs_Top_putBytes (hs.k k_0) rfl hf (fun q hq => t_Top_putBytes hs  hq) Y_Top_putBytes L_Top_98 (by decide +kernel) rfl rfl (Nat.le_of_ble_eq_true rfl) (by decide) (Nat.le_refl _) (Nat.le_refl _) (fun q6 hf hs => ?_)
    refine g_aload_n (i := 0) (by decide +kernel) rfl ?_
    refine x_geti (hs.k k_0) F_Top_90 (by decide +kernel) rfl ?_
    exact x_iret hf hs (by decide +kernel) rfl (Nat.le_refl _) (Nat.le_refl _)
  · refine g_bipush (z := (-5)) (v := (-5)) (by decide +kernel) rfl ?_
    exact x_iret hf hs (by decide +kernel) rfl (Nat.le_refl _) (Nat.le_refl _)
def f_Tokens_isLetter (p0 : Int32) (h : am_H) : Option (Bool) :=
  (if p0 < (97 : Int32) then
    some false
  else
    (if (122 : Int32) < p0 then
      some false
    else
      some true))
set_option maxRecDepth 100000 in
set_option maxHeartbeats 4000000 in
theorem t_Tokens_isLetter {p0 : Int32} {h : am_H} (hs : am_Sh h)  {r : Bool} (hf : f_Tokens_isLetter p0 h = some r) : am_Ct 0 M_Tokens_isLetter [.int p0] h 0 0 (am_pB h r) := by
  unfold f_Tokens_isLetter at hf
  refine am_Ct.of (by decide) rfl (Nat.le_of_ble_eq_true rfl) (ls := [(0, .int p0)]) rfl ?_
  refine g_iload_n (i := 0) (by decide +kernel) rfl ?_
  refine g_bipush (z := 97) (v := 97) (by decide +kernel) rfl ?_
  refine x_icmp_lt (off := 13) (tgt := 16) hf (by decide +kernel) (by decide) (fun c1 hf => ?_) (fun c1 hf => ?_)
  · refine g_iconst (z := 0) (v := 0) (by decide +kernel) rfl ?_
    exact x_zretp rfl hf (by decide +kernel) rfl (Nat.le_refl _) (Nat.le_refl _)
  · refine g_iload_n (i := 0) (by decide +kernel) rfl ?_
    refine g_bipush (z := 122) (v := 122) (by decide +kernel) rfl ?_
    refine x_icmp_gt (off := 7) (tgt := 16) hf (by decide +kernel) (by decide) (fun c2 hf => ?_) (fun c2 hf => ?_)
    · refine g_iconst (z := 0) (v := 0) (by decide +kernel) rfl ?_
      exact x_zretp rfl hf (by decide +kernel) rfl (Nat.le_refl _) (Nat.le_refl _)
    · refine g_iconst (z := 1) (v := 1) (by decide +kernel) rfl ?_
      refine g_goto (off := 4) (tgt := 17) (by decide +kernel) (by decide) ?_
      exact x_zretp rfl hf (by decide +kernel) rfl (Nat.le_refl _) (Nat.le_refl _)
def f_Tokens_isDigit (p0 : Int32) (h : am_H) : Option (Bool) :=
  (if p0 < (48 : Int32) then
    some false
  else
    (if (57 : Int32) < p0 then
      some false
    else
      some true))
set_option maxRecDepth 100000 in
set_option maxHeartbeats 4000000 in
theorem t_Tokens_isDigit {p0 : Int32} {h : am_H} (hs : am_Sh h)  {r : Bool} (hf : f_Tokens_isDigit p0 h = some r) : am_Ct 0 M_Tokens_isDigit [.int p0] h 0 0 (am_pB h r) := by
  unfold f_Tokens_isDigit at hf
  refine am_Ct.of (by decide) rfl (Nat.le_of_ble_eq_true rfl) (ls := [(0, .int p0)]) rfl ?_
  refine g_iload_n (i := 0) (by decide +kernel) rfl ?_
  refine g_bipush (z := 48) (v := 48) (by decide +kernel) rfl ?_
  refine x_icmp_lt (off := 13) (tgt := 16) hf (by decide +kernel) (by decide) (fun c1 hf => ?_) (fun c1 hf => ?_)
  · refine g_iconst (z := 0) (v := 0) (by decide +kernel) rfl ?_
    exact x_zretp rfl hf (by decide +kernel) rfl (Nat.le_refl _) (Nat.le_refl _)
  · refine g_iload_n (i := 0) (by decide +kernel) rfl ?_
    refine g_bipush (z := 57) (v := 57) (by decide +kernel) rfl ?_
    refine x_icmp_gt (off := 7) (tgt := 16) hf (by decide +kernel) (by decide) (fun c2 hf => ?_) (fun c2 hf => ?_)
    · refine g_iconst (z := 0) (v := 0) (by decide +kernel) rfl ?_
      exact x_zretp rfl hf (by decide +kernel) rfl (Nat.le_refl _) (Nat.le_refl _)
    · refine g_iconst (z := 1) (v := 1) (by decide +kernel) rfl ?_
      refine g_goto (off := 4) (tgt := 17) (by decide +kernel) (by decide) ?_
      exact x_zretp rfl hf (by decide +kernel) rfl (Nat.le_refl _) (Nat.le_refl _)
def f_Tokens_endOf_L3 (p0 : Nat) (p0L : Nat) (p1 : Int32) (p2 : Int32) (p3 : Int32) : Nat → Int32 → am_H → Option (Int32)
  | 0, _, _ => none
  | n + 1, v4, h =>
    (if p2 ≤ v4 then
      some v4
    else
      (if (Int32.ofNat p0L) ≤ v4 then
        some v4
      else
        (if p3 = 0 then
          (am_rd (h.2.1 p0) p0L v4).bind fun x4 =>
          (f_Tokens_isLetter x4 h).bind fun q5 =>
          (if q5 = true then
            f_Tokens_endOf_L3 p0 p0L p1 p2 p3 n (v4 + (1 : Int32)) h
          else
            some v4)
        else
          (am_rd (h.2.1 p0) p0L v4).bind fun x7 =>
          (f_Tokens_isDigit x7 h).bind fun q8 =>
          (if q8 = true then
            f_Tokens_endOf_L3 p0 p0L p1 p2 p3 n (v4 + (1 : Int32)) h
          else
            some v4))))
set_option maxRecDepth 100000 in
set_option maxHeartbeats 4000000 in
theorem t_Tokens_endOf_L3 {p0 : Nat} {p0L : Nat} {p1 : Int32} {p2 : Int32} {p3 : Int32} (hp0 : am_K0[p0]? = some (.inr (.byte, p0L))) {Q : Option Value → am_H → Prop} : ∀ (n : Nat) (v4 : Int32) (h : am_H) (q : Int32), am_Sh h → f_Tokens_endOf_L3 p0 p0L p1 p2 p3 n v4 h = some q → (am_G 1 M_Tokens_endOf 0 0 Q 49 [(0, .ref p0), (1, .int p1), (2, .int p2), (3, .int p3), (4, .int q)] [] h 0 0) → am_G 1 M_Tokens_endOf 0 0 Q 3 [(0, .ref p0), (1, .int p1), (2, .int p2), (3, .int p3), (4, .int v4)] [] h 0 0 := by
  intro n
  induction n with
  | zero =>
    intro v4 h q hs hf kont
    rw [f_Tokens_endOf_L3] at hf
    cases hf
  | succ n ih =>
    intro v4 h q hs hf kont
    rw [f_Tokens_endOf_L3] at hf
    refine g_iload (i := 4) (by decide +kernel) rfl ?_
    refine g_iload_n (i := 2) (by decide +kernel) rfl ?_
    refine x_icmp_ge (off := 43) (tgt := 49) hf (by decide +kernel) (by decide) (fun c1 hf => ?_) (fun c1 hf => ?_)
    · cases hf
      exact am_G.forget (am_subp [0, 1, 2, 3, 4] rfl) kont
    · refine g_iload (i := 4) (by decide +kernel) rfl ?_
      refine g_aload_n (i := 0) (by decide +kernel) rfl ?_
      refine g_alen (t0 := 2) (hs.k hp0) rfl rfl (by decide +kernel) ?_
      refine x_icmp_ge (off := 36) (tgt := 49) hf (by decide +kernel) (by decide) (fun c2 hf => ?_) (fun c2 hf => ?_)
      · cases hf
        exact am_G.forget (am_subp [0, 1, 2, 3, 4] rfl) kont
      · refine g_iload_n (i := 3) (by decide +kernel) rfl ?_
        refine x_if_eq (off := 16) (tgt := 33) hf (by decide +kernel) (by decide) (fun c3 hf => ?_) (fun c3 hf => ?_)
        · refine g_aload_n (i := 0) (by decide +kernel) rfl ?_
          refine g_iload (i := 4) (by decide +kernel) rfl ?_
          refine x_bald hf (hs.k hp0) (by decide +kernel) (fun x4 hf => ?_)
          refine x_callSBp (as := [.int x4]) St_Tokens_isLetter hf (fun q hq => t_Tokens_isLetter hs  hq) Y_Tokens_isLetter L_Tokens_25 (by decide +kernel) rfl rfl (Nat.le_of_ble_eq_true rfl) (by decide) (Nat.le_refl _) (Nat.le_refl _) (fun q5 hf => ?_)
          refine x_ifb_eq (off := 9) (tgt := 49) hf (by decide +kernel) (by decide) (fun c6 hf => ?_) (fun c6 hf => ?_)
          · cases hf
            exact am_G.forget (am_subp [0, 1, 2, 3, 4] rfl) kont
          · refine g_iinc (i := 4) (z := 1) (v := (v4 + (1 : Int32))) (by decide +kernel) rfl rfl rfl (by decide) (ls1 := [(0, .ref p0), (1, .int p1), (2, .int p2), (3, .int p3), (4, .int (v4 + (1 : Int32)))]) rfl ?_
            refine g_goto (off := (-43)) (tgt := 3) (by decide +kernel) (by decide) ?_
            exact am_G.forget (am_subp [0, 1, 2, 3, 4] rfl) (ih _ _ _ hs hf kont)
        · refine g_aload_n (i := 0) (by decide +kernel) rfl ?_
          refine g_iload (i := 4) (by decide +kernel) rfl ?_
          refine x_bald hf (hs.k hp0) (by decide +kernel) (fun x7 hf => ?_)
          refine x_callSBp (as := [.int x7]) St_Tokens_isDigit hf (fun q hq => t_Tokens_isDigit hs  hq) Y_Tokens_isDigit L_Tokens_41 (by decide +kernel) rfl rfl (Nat.le_of_ble_eq_true rfl) (by decide) (Nat.le_refl _) (Nat.le_refl _) (fun q8 hf => ?_)
          refine x_ifb_eq (off := 22) (tgt := 49) hf (by decide +kernel) (by decide) (fun c9 hf => ?_) (fun c9 hf => ?_)
          · cases hf
            exact am_G.forget (am_subp [0, 1, 2, 3, 4] rfl) kont
          · refine g_goto (off := 13) (tgt := 43) (by decide +kernel) (by decide) ?_
            refine g_iinc (i := 4) (z := 1) (v := (v4 + (1 : Int32))) (by decide +kernel) rfl rfl rfl (by decide) (ls1 := [(0, .ref p0), (1, .int p1), (2, .int p2), (3, .int p3), (4, .int (v4 + (1 : Int32)))]) rfl ?_
            refine g_goto (off := (-43)) (tgt := 3) (by decide +kernel) (by decide) ?_
            exact am_G.forget (am_subp [0, 1, 2, 3, 4] rfl) (ih _ _ _ hs hf kont)
def f_Tokens_endOf (p0 : Nat) (p0L : Nat) (p1 : Int32) (p2 : Int32) (p3 : Int32) (h : am_H) : Option (Int32) :=
  (f_Tokens_endOf_L3 p0 p0L p1 p2 p3 am_fu p1 h).bind fun q10 =>
  some q10
set_option maxRecDepth 100000 in
set_option maxHeartbeats 4000000 in
theorem t_Tokens_endOf {p0 : Nat} {p0L : Nat} {p1 : Int32} {p2 : Int32} {p3 : Int32} {h : am_H} (hs : am_Sh h) (hp0 : am_K0[p0]? = some (.inr (.byte, p0L))) {r : Int32} (hf : f_Tokens_endOf p0 p0L p1 p2 p3 h = some r) : am_Ct 1 M_Tokens_endOf [.ref p0, .int p1, .int p2, .int p3] h 0 0 (am_pI h r) := by
  unfold f_Tokens_endOf at hf
  refine am_Ct.of (by decide) rfl (Nat.le_of_ble_eq_true rfl) (ls := [(0, .ref p0), (1, .int p1), (2, .int p2), (3, .int p3)]) rfl ?_
  refine g_iload_n (i := 1) (by decide +kernel) rfl ?_
  refine g_istore (i := 4) (by decide +kernel) rfl (by decide) (ls1 := [(0, .ref p0), (1, .int p1), (2, .int p2), (3, .int p3), (4, .int p1)]) rfl ?_
  obtain ⟨q10, hqq10, hf⟩ := Option.bind_eq_some_iff.mp hf
  refine am_G.forget (am_subp [0, 1, 2, 3, 4] rfl) (t_Tokens_endOf_L3 hp0 am_fu _ _ q10 hs hqq10 ?_)
  refine g_iload (i := 4) (by decide +kernel) rfl ?_
  exact x_iretp hf (by decide +kernel) rfl (Nat.le_refl _) (Nat.le_refl _)
def f_Tokens_isWordAt_L36 (p0 : Int32) (p1 : Nat) (p1L : Nat) (p2 : Int32) (p3 : Int32) : Nat → Int32 → Int32 → am_H → Option (Bool)
  | 0, _, _, _ => none
  | n + 1, v4, v5, h =>
    (if v4 ≤ v5 then
      some true
    else
      (f_String_charAt 1 (p0 + v5) h).bind fun q6 =>
      (am_rd (h.2.1 p1) p1L (p2 + v5)).bind fun x7 =>
      (if q6 = x7 then
        f_Tokens_isWordAt_L36 p0 p1 p1L p2 p3 n v4 (v5 + (1 : Int32)) h
      else
        some false))
set_option maxRecDepth 100000 in
set_option maxHeartbeats 4000000 in
theorem t_Tokens_isWordAt_L36 {p0 : Int32} {p1 : Nat} {p1L : Nat} {p2 : Int32} {p3 : Int32} (hp1 : am_K0[p1]? = some (.inr (.byte, p1L))) : ∀ (n : Nat) (v4 : Int32) (v5 : Int32) (h : am_H) (r : Bool), am_Sh h → f_Tokens_isWordAt_L36 p0 p1 p1L p2 p3 n v4 v5 h = some r → am_G 4 M_Tokens_isWordAt 0 0 (am_pB h r) 36 [(0, .int p0), (1, .ref p1), (2, .int p2), (3, .int p3), (4, .int v4), (5, .int v5)] [] h 0 0 := by
  intro n
  induction n with
  | zero =>
    intro v4 v5 h r hs hf
    rw [f_Tokens_isWordAt_L36] at hf
    cases hf
  | succ n ih =>
    intro v4 v5 h r hs hf
    rw [f_Tokens_isWordAt_L36] at hf
    refine g_iload (i := 5) (by decide +kernel) rfl ?_
    refine g_iload (i := 4) (by decide +kernel) rfl ?_
    refine x_icmp_ge (off := 29) (tgt := 69) hf (by decide +kernel) (by decide) (fun c5 hf => ?_) (fun c5 hf => ?_)
    · refine g_iconst (z := 1) (v := 1) (by decide +kernel) rfl ?_
      exact x_zretp rfl hf (by decide +kernel) rfl (Nat.le_refl _) (Nat.le_refl _)
    · refine g_ldcS sS_1 (by decide +kernel) ?_
      refine g_iload_n (i := 0) (by decide +kernel) rfl ?_
      refine g_iload (i := 5) (by decide +kernel) rfl ?_
      refine g_iadd (by decide +kernel) ?_
      refine x_callVsIp (as := [.int (p0 + v5)]) Vi_String_charAt Vs_String_charAt (by decide) rfl hf (fun q hq => t_String_charAt hs (by decide) hq) Y_String_charAt L_Tokens_61 (by decide +kernel) rfl rfl (Nat.le_of_ble_eq_true rfl) (by decide) (Nat.le_refl _) (Nat.le_refl _) (fun q6 hf => ?_)
      refine g_aload_n (i := 1) (by decide +kernel) rfl ?_
      refine g_iload_n (i := 2) (by decide +kernel) rfl ?_
      refine g_iload (i := 5) (by decide +kernel) rfl ?_
      refine g_iadd (by decide +kernel) ?_
      refine x_bald hf (hs.k hp1) (by decide +kernel) (fun x7 hf => ?_)
      refine x_icmp_eq (off := 5) (tgt := 63) hf (by decide +kernel) (by decide) (fun c8 hf => ?_) (fun c8 hf => ?_)
      · refine g_iinc (i := 5) (z := 1) (v := (v5 + (1 : Int32))) (by decide +kernel) rfl rfl rfl (by decide) (ls1 := [(0, .int p0), (1, .ref p1), (2, .int p2), (3, .int p3), (4, .int v4), (5, .int (v5 + (1 : Int32)))]) rfl ?_
        refine g_goto (off := (-30)) (tgt := 36) (by decide +kernel) (by decide) ?_
        exact am_G.forget (am_subp [0, 1, 2, 3, 4, 5] rfl) (ih _ _ _ _ hs hf)
      · refine g_iconst (z := 0) (v := 0) (by decide +kernel) rfl ?_
        exact x_zretp rfl hf (by decide +kernel) rfl (Nat.le_refl _) (Nat.le_refl _)
def f_Tokens_isWordAt (p0 : Int32) (p1 : Nat) (p1L : Nat) (p2 : Int32) (p3 : Int32) (h : am_H) : Option (Bool) :=
  (f_String_length 1 h).bind fun q1 =>
  (if q1 ≤ (p0 + (p3 - p2)) then
    some false
  else
    (f_String_charAt 1 (p0 + (p3 - p2)) h).bind fun q3 =>
    (if q3 = (32 : Int32) then
      f_Tokens_isWordAt_L36 p0 p1 p1L p2 p3 am_fu (p3 - p2) (0 : Int32) h
    else
      some false))
set_option maxRecDepth 100000 in
set_option maxHeartbeats 4000000 in
theorem t_Tokens_isWordAt {p0 : Int32} {p1 : Nat} {p1L : Nat} {p2 : Int32} {p3 : Int32} {h : am_H} (hs : am_Sh h) (hp1 : am_K0[p1]? = some (.inr (.byte, p1L))) {r : Bool} (hf : f_Tokens_isWordAt p0 p1 p1L p2 p3 h = some r) : am_Ct 4 M_Tokens_isWordAt [.int p0, .ref p1, .int p2, .int p3] h 0 0 (am_pB h r) := by
  unfold f_Tokens_isWordAt at hf
  refine am_Ct.of (by decide) rfl (Nat.le_of_ble_eq_true rfl) (ls := [(0, .int p0), (1, .ref p1), (2, .int p2), (3, .int p3)]) rfl ?_
  refine g_iload_n (i := 3) (by decide +kernel) rfl ?_
  refine g_iload_n (i := 2) (by decide +kernel) rfl ?_
  refine g_isub (by decide +kernel) ?_
  refine g_istore (i := 4) (by decide +kernel) rfl (by decide) (ls1 := [(0, .int p0), (1, .ref p1), (2, .int p2), (3, .int p3), (4, .int (p3 - p2))]) rfl ?_
  refine g_iload_n (i := 0) (by decide +kernel) rfl ?_
  refine g_iload (i := 4) (by decide +kernel) rfl ?_
  refine g_iadd (by decide +kernel) ?_
  refine g_ldcS sS_1 (by decide +kernel) ?_
  refine x_callVsIp (as := []) Vi_String_length Vs_String_length (by decide) rfl hf (fun q hq => t_String_length hs (by decide) hq) Y_String_length L_Tokens_57 (by decide +kernel) rfl rfl (Nat.le_of_ble_eq_true rfl) (by decide) (Nat.le_refl _) (Nat.le_refl _) (fun q1 hf => ?_)
  refine x_icmp_ge (off := 17) (tgt := 31) hf (by decide +kernel) (by decide) (fun c2 hf => ?_) (fun c2 hf => ?_)
  · refine g_iconst (z := 0) (v := 0) (by decide +kernel) rfl ?_
    exact x_zretp rfl hf (by decide +kernel) rfl (Nat.le_refl _) (Nat.le_refl _)
  · refine g_ldcS sS_1 (by decide +kernel) ?_
    refine g_iload_n (i := 0) (by decide +kernel) rfl ?_
    refine g_iload (i := 4) (by decide +kernel) rfl ?_
    refine g_iadd (by decide +kernel) ?_
    refine x_callVsIp (as := [.int (p0 + (p3 - p2))]) Vi_String_charAt Vs_String_charAt (by decide) rfl hf (fun q hq => t_String_charAt hs (by decide) hq) Y_String_charAt L_Tokens_61 (by decide +kernel) rfl rfl (Nat.le_of_ble_eq_true rfl) (by decide) (Nat.le_refl _) (Nat.le_refl _) (fun q3 hf => ?_)
    refine g_bipush (z := 32) (v := 32) (by decide +kernel) rfl ?_
    refine x_icmp_eq (off := 5) (tgt := 33) hf (by decide +kernel) (by decide) (fun c4 hf => ?_) (fun c4 hf => ?_)
    · refine g_iconst (z := 0) (v := 0) (by decide +kernel) rfl ?_
      refine g_istore (i := 5) (by decide +kernel) rfl (by decide) (ls1 := [(0, .int p0), (1, .ref p1), (2, .int p2), (3, .int p3), (4, .int (p3 - p2)), (5, .int (0 : Int32))]) rfl ?_
      exact am_G.forget (am_subp [0, 1, 2, 3, 4, 5] rfl) (t_Tokens_isWordAt_L36 hp1 am_fu _ _ _ _ hs hf)
    · refine g_iconst (z := 0) (v := 0) (by decide +kernel) rfl ?_
      exact x_zretp rfl hf (by decide +kernel) rfl (Nat.le_refl _) (Nat.le_refl _)
def f_Tokens_wordKind_L6 (p0 : Nat) (p0L : Nat) (p1 : Int32) (p2 : Int32) : Nat → Int32 → Int32 → am_H → Option (Int32)
  | 0, _, _, _ => none
  | n + 1, v3, v4, h =>
    (f_String_length 1 h).bind fun q1 =>
    (if q1 ≤ (v4 + (1 : Int32)) then
      some (3 : Int32)
    else
      (f_String_charAt 1 v4 h).bind fun q3 =>
      (if q3 = (32 : Int32) then
        (f_Tokens_isWordAt (v4 + (1 : Int32)) p0 p0L p1 p2 h).bind fun q5 =>
        (if q5 = true then
          some v3
        else
          f_Tokens_wordKind_L6 p0 p0L p1 p2 n (v3 + (1 : Int32)) (v4 + (1 : Int32)) h)
      else
        f_Tokens_wordKind_L6 p0 p0L p1 p2 n v3 (v4 + (1 : Int32)) h))
set_option maxRecDepth 100000 in
set_option maxHeartbeats 4000000 in
theorem t_Tokens_wordKind_L6 {p0 : Nat} {p0L : Nat} {p1 : Int32} {p2 : Int32} (hp0 : am_K0[p0]? = some (.inr (.byte, p0L))) : ∀ (n : Nat) (v3 : Int32) (v4 : Int32) (h : am_H) (r : Int32), am_Sh h → f_Tokens_wordKind_L6 p0 p0L p1 p2 n v3 v4 h = some r → am_G 5 M_Tokens_wordKind 0 0 (am_pI h r) 6 [(0, .ref p0), (1, .int p1), (2, .int p2), (3, .int v3), (4, .int v4)] [] h 0 0 := by
  intro n
  induction n with
  | zero =>
    intro v3 v4 h r hs hf
    rw [f_Tokens_wordKind_L6] at hf
    cases hf
  | succ n ih =>
    intro v3 v4 h r hs hf
    rw [f_Tokens_wordKind_L6] at hf
    refine g_iload (i := 4) (by decide +kernel) rfl ?_
    refine g_iconst (z := 1) (v := 1) (by decide +kernel) rfl ?_
    refine g_iadd (by decide +kernel) ?_
    refine g_ldcS sS_1 (by decide +kernel) ?_
    refine x_callVsIp (as := []) Vi_String_length Vs_String_length (by decide) rfl hf (fun q hq => t_String_length hs (by decide) hq) Y_String_length L_Tokens_57 (by decide +kernel) rfl rfl (Nat.le_of_ble_eq_true rfl) (by decide) (Nat.le_refl _) (Nat.le_refl _) (fun q1 hf => ?_)
    refine x_icmp_ge (off := 39) (tgt := 54) hf (by decide +kernel) (by decide) (fun c2 hf => ?_) (fun c2 hf => ?_)
    · refine g_iconst (z := 3) (v := 3) (by decide +kernel) rfl ?_
      exact x_iretp hf (by decide +kernel) rfl (Nat.le_refl _) (Nat.le_refl _)
    · refine g_ldcS sS_1 (by decide +kernel) ?_
      refine g_iload (i := 4) (by decide +kernel) rfl ?_
      refine x_callVsIp (as := [.int v4]) Vi_String_charAt Vs_String_charAt (by decide) rfl hf (fun q hq => t_String_charAt hs (by decide) hq) Y_String_charAt L_Tokens_61 (by decide +kernel) rfl rfl (Nat.le_of_ble_eq_true rfl) (by decide) (Nat.le_refl _) (Nat.le_refl _) (fun q3 hf => ?_)
      refine g_bipush (z := 32) (v := 32) (by decide +kernel) rfl ?_
      refine x_icmp_ne (off := 21) (tgt := 48) hf (by decide +kernel) (by decide) (fun c4 hf => ?_) (fun c4 hf => ?_)
      · refine g_iinc (i := 4) (z := 1) (v := (v4 + (1 : Int32))) (by decide +kernel) rfl rfl rfl (by decide) (ls1 := [(0, .ref p0), (1, .int p1), (2, .int p2), (3, .int v3), (4, .int (v4 + (1 : Int32)))]) rfl ?_
        refine g_goto (off := (-45)) (tgt := 6) (by decide +kernel) (by decide) ?_
        exact am_G.forget (am_subp [0, 1, 2, 3, 4] rfl) (ih _ _ _ _ hs hf)
      · refine g_iload (i := 4) (by decide +kernel) rfl ?_
        refine g_iconst (z := 1) (v := 1) (by decide +kernel) rfl ?_
        refine g_iadd (by decide +kernel) ?_
        refine g_aload_n (i := 0) (by decide +kernel) rfl ?_
        refine g_iload_n (i := 1) (by decide +kernel) rfl ?_
        refine g_iload_n (i := 2) (by decide +kernel) rfl ?_
        refine x_callSBp (as := [.int (v4 + (1 : Int32)), .ref p0, .int p1, .int p2]) St_Tokens_isWordAt hf (fun q hq => t_Tokens_isWordAt hs hp0 hq) Y_Tokens_isWordAt L_Tokens_65 (by decide +kernel) rfl rfl (Nat.le_of_ble_eq_true rfl) (by decide) (Nat.le_refl _) (Nat.le_refl _) (fun q5 hf => ?_)
        refine x_ifb_eq (off := 5) (tgt := 45) hf (by decide +kernel) (by decide) (fun c6 hf => ?_) (fun c6 hf => ?_)
        · refine g_iinc (i := 3) (z := 1) (v := (v3 + (1 : Int32))) (by decide +kernel) rfl rfl rfl (by decide) (ls1 := [(0, .ref p0), (1, .int p1), (2, .int p2), (3, .int (v3 + (1 : Int32))), (4, .int v4)]) rfl ?_
          refine g_iinc (i := 4) (z := 1) (v := (v4 + (1 : Int32))) (by decide +kernel) rfl rfl rfl (by decide) (ls1 := [(0, .ref p0), (1, .int p1), (2, .int p2), (3, .int (v3 + (1 : Int32))), (4, .int (v4 + (1 : Int32)))]) rfl ?_
          refine g_goto (off := (-45)) (tgt := 6) (by decide +kernel) (by decide) ?_
          exact am_G.forget (am_subp [0, 1, 2, 3, 4] rfl) (ih _ _ _ _ hs hf)
        · refine g_iload_n (i := 3) (by decide +kernel) rfl ?_
          exact x_iretp hf (by decide +kernel) rfl (Nat.le_refl _) (Nat.le_refl _)
def f_Tokens_wordKind (p0 : Nat) (p0L : Nat) (p1 : Int32) (p2 : Int32) (h : am_H) : Option (Int32) :=
  f_Tokens_wordKind_L6 p0 p0L p1 p2 am_fu (101 : Int32) (0 : Int32) h
set_option maxRecDepth 100000 in
set_option maxHeartbeats 4000000 in
theorem t_Tokens_wordKind {p0 : Nat} {p0L : Nat} {p1 : Int32} {p2 : Int32} {h : am_H} (hs : am_Sh h) (hp0 : am_K0[p0]? = some (.inr (.byte, p0L))) {r : Int32} (hf : f_Tokens_wordKind p0 p0L p1 p2 h = some r) : am_Ct 5 M_Tokens_wordKind [.ref p0, .int p1, .int p2] h 0 0 (am_pI h r) := by
  unfold f_Tokens_wordKind at hf
  refine am_Ct.of (by decide) rfl (Nat.le_of_ble_eq_true rfl) (ls := [(0, .ref p0), (1, .int p1), (2, .int p2)]) rfl ?_
  refine g_bipush (z := 101) (v := 101) (by decide +kernel) rfl ?_
  refine g_istore_n (i := 3) (by decide +kernel) rfl (by decide) (ls1 := [(0, .ref p0), (1, .int p1), (2, .int p2), (3, .int (101 : Int32))]) rfl ?_
  refine g_iconst (z := 0) (v := 0) (by decide +kernel) rfl ?_
  refine g_istore (i := 4) (by decide +kernel) rfl (by decide) (ls1 := [(0, .ref p0), (1, .int p1), (2, .int p2), (3, .int (101 : Int32)), (4, .int (0 : Int32))]) rfl ?_
  exact am_G.forget (am_subp [0, 1, 2, 3, 4] rfl) (t_Tokens_wordKind_L6 hp0 am_fu _ _ _ _ hs hf)
def f_Tokens_add (p1 : Int32) (p2 : Int32) (p3 : Int32) (h : am_H) : Option (am_H) :=
  (if (Int32.ofNat 901) ≤ (h.2.1 71 0) then
    some h
  else
    (am_wr h 72 901 (h.2.1 71 0) p1).bind fun h2 =>
    (am_wr h2 73 901 (h2.2.1 71 0) p2).bind fun h3 =>
    (am_wr h3 74 901 (h3.2.1 71 0) p3).bind fun h4 =>
    am_let (am_sI h4 71 0 ((h4.2.1 71 0) + (1 : Int32))) fun h5 =>
    some h5)
set_option maxRecDepth 100000 in
set_option maxHeartbeats 4000000 in
theorem t_Tokens_add {p1 : Int32} {p2 : Int32} {p3 : Int32} {h : am_H} (hs : am_Sh h)  {r : am_H} (hf : f_Tokens_add p1 p2 p3 h = some r) : am_Ct 0 M_Tokens_add [.ref 71, .int p1, .int p2, .int p3] h 0 0 (am_qV r) := by
  unfold f_Tokens_add at hf
  refine am_Ct.of (by decide) rfl (Nat.le_of_ble_eq_true rfl) (ls := [(0, .ref 71), (1, .int p1), (2, .int p2), (3, .int p3)]) rfl ?_
  refine g_aload_n (i := 0) (by decide +kernel) rfl ?_
  refine x_geti (hs.k k_71) F_Tokens_9 (by decide +kernel) rfl ?_
  refine g_aload_n (i := 0) (by decide +kernel) rfl ?_
  refine x_getr (hs.k k_71) F_Tokens_15 (by decide +kernel) rfl (hs.r r_71_1) ?_
  refine g_alen (t0 := 0) (hs.k k_72) rfl rfl (by decide +kernel) ?_
  refine x_icmp_ge (off := 43) (tgt := 52) hf (by decide +kernel) (by decide) (fun c1 hf => ?_) (fun c1 hf => ?_)
  · exact x_vret hf hs (by decide +kernel) rfl (Nat.le_refl _) (Nat.le_refl _)
  · refine g_aload_n (i := 0) (by decide +kernel) rfl ?_
    refine x_getr (hs.k k_71) F_Tokens_15 (by decide +kernel) rfl (hs.r r_71_1) ?_
    refine g_aload_n (i := 0) (by decide +kernel) rfl ?_
    refine x_geti (hs.k k_71) F_Tokens_9 (by decide +kernel) rfl ?_
    refine g_iload_n (i := 1) (by decide +kernel) rfl ?_
    refine x_iast hf hs (hs.k k_72) (by decide +kernel) (fun h2 hf hs => ?_)
    refine g_aload_n (i := 0) (by decide +kernel) rfl ?_
    refine x_getr (hs.k k_71) F_Tokens_19 (by decide +kernel) rfl (hs.r r_71_2) ?_
    refine g_aload_n (i := 0) (by decide +kernel) rfl ?_
    refine x_geti (hs.k k_71) F_Tokens_9 (by decide +kernel) rfl ?_
    refine g_iload_n (i := 2) (by decide +kernel) rfl ?_
    refine x_iast hf hs (hs.k k_73) (by decide +kernel) (fun h3 hf hs => ?_)
    refine g_aload_n (i := 0) (by decide +kernel) rfl ?_
    refine x_getr (hs.k k_71) F_Tokens_22 (by decide +kernel) rfl (hs.r r_71_3) ?_
    refine g_aload_n (i := 0) (by decide +kernel) rfl ?_
    refine x_geti (hs.k k_71) F_Tokens_9 (by decide +kernel) rfl ?_
    refine g_iload_n (i := 3) (by decide +kernel) rfl ?_
    refine x_iast hf hs (hs.k k_74) (by decide +kernel) (fun h4 hf hs => ?_)
    refine g_aload_n (i := 0) (by decide +kernel) rfl ?_
    refine g_dup (by decide +kernel) rfl ?_
    refine x_geti (hs.k k_71) F_Tokens_9 (by decide +kernel) rfl ?_
    refine g_iconst (z := 1) (v := 1) (by decide +kernel) rfl ?_
    refine g_iadd (by decide +kernel) ?_
    refine x_puti hf hs (hs.k k_71) F_Tokens_9 (by decide +kernel) rfl rfl rfl rfl (fun h5 hf hs => ?_)
    exact x_vret hf hs (by decide +kernel) rfl (Nat.le_refl _) (Nat.le_refl _)
def f_Tokens_valueOf_L5 (p0 : Nat) (p0L : Nat) (p1 : Int32) (p2 : Int32) : Nat → Int32 → Int32 → am_H → Option (Int32 × Int32)
  | 0, _, _, _ => none
  | n + 1, v3, v4, h =>
    (if p2 ≤ v4 then
      some (v3, v4)
    else
      (if (p1 + (3 : Int32)) ≤ v4 then
        some (v3, v4)
      else
        (am_rd (h.2.1 p0) p0L v4).bind fun x3 =>
        f_Tokens_valueOf_L5 p0 p0L p1 p2 n (((v3 * (10 : Int32)) + x3) - (48 : Int32)) (v4 + (1 : Int32)) h))
set_option maxRecDepth 100000 in
set_option maxHeartbeats 4000000 in
theorem t_Tokens_valueOf_L5 {p0 : Nat} {p0L : Nat} {p1 : Int32} {p2 : Int32} (hp0 : am_K0[p0]? = some (.inr (.byte, p0L))) {Q : Option Value → am_H → Prop} : ∀ (n : Nat) (v3 : Int32) (v4 : Int32) (h : am_H) (q : Int32 × Int32), am_Sh h → f_Tokens_valueOf_L5 p0 p0L p1 p2 n v3 v4 h = some q → (am_G 0 M_Tokens_valueOf 0 0 Q 38 [(0, .ref p0), (1, .int p1), (2, .int p2), (3, .int q.1), (4, .int q.2)] [] h 0 0) → am_G 0 M_Tokens_valueOf 0 0 Q 5 [(0, .ref p0), (1, .int p1), (2, .int p2), (3, .int v3), (4, .int v4)] [] h 0 0 := by
  intro n
  induction n with
  | zero =>
    intro v3 v4 h q hs hf kont
    rw [f_Tokens_valueOf_L5] at hf
    cases hf
  | succ n ih =>
    intro v3 v4 h q hs hf kont
    rw [f_Tokens_valueOf_L5] at hf
    refine g_iload (i := 4) (by decide +kernel) rfl ?_
    refine g_iload_n (i := 2) (by decide +kernel) rfl ?_
    refine x_icmp_ge (off := 30) (tgt := 38) hf (by decide +kernel) (by decide) (fun c1 hf => ?_) (fun c1 hf => ?_)
    · cases hf
      exact am_G.forget (am_subp [0, 1, 2, 3, 4] rfl) kont
    · refine g_iload (i := 4) (by decide +kernel) rfl ?_
      refine g_iload_n (i := 1) (by decide +kernel) rfl ?_
      refine g_iconst (z := 3) (v := 3) (by decide +kernel) rfl ?_
      refine g_iadd (by decide +kernel) ?_
      refine x_icmp_ge (off := 22) (tgt := 38) hf (by decide +kernel) (by decide) (fun c2 hf => ?_) (fun c2 hf => ?_)
      · cases hf
        exact am_G.forget (am_subp [0, 1, 2, 3, 4] rfl) kont
      · refine g_iload_n (i := 3) (by decide +kernel) rfl ?_
        refine g_bipush (z := 10) (v := 10) (by decide +kernel) rfl ?_
        refine g_imul (by decide +kernel) ?_
        refine g_aload_n (i := 0) (by decide +kernel) rfl ?_
        refine g_iload (i := 4) (by decide +kernel) rfl ?_
        refine x_bald hf (hs.k hp0) (by decide +kernel) (fun x3 hf => ?_)
        refine g_iadd (by decide +kernel) ?_
        refine g_bipush (z := 48) (v := 48) (by decide +kernel) rfl ?_
        refine g_isub (by decide +kernel) ?_
        refine g_istore_n (i := 3) (by decide +kernel) rfl (by decide) (ls1 := [(0, .ref p0), (1, .int p1), (2, .int p2), (3, .int (((v3 * (10 : Int32)) + x3) - (48 : Int32))), (4, .int v4)]) rfl ?_
        refine g_iinc (i := 4) (z := 1) (v := (v4 + (1 : Int32))) (by decide +kernel) rfl rfl rfl (by decide) (ls1 := [(0, .ref p0), (1, .int p1), (2, .int p2), (3, .int (((v3 * (10 : Int32)) + x3) - (48 : Int32))), (4, .int (v4 + (1 : Int32)))]) rfl ?_
        refine g_goto (off := (-30)) (tgt := 5) (by decide +kernel) (by decide) ?_
        exact am_G.forget (am_subp [0, 1, 2, 3, 4] rfl) (ih _ _ _ _ hs hf kont)
def f_Tokens_valueOf (p0 : Nat) (p0L : Nat) (p1 : Int32) (p2 : Int32) (h : am_H) : Option (Int32) :=
  (f_Tokens_valueOf_L5 p0 p0L p1 p2 am_fu (0 : Int32) p1 h).bind fun q4 =>
  some q4.1
set_option maxRecDepth 100000 in
set_option maxHeartbeats 4000000 in
theorem t_Tokens_valueOf {p0 : Nat} {p0L : Nat} {p1 : Int32} {p2 : Int32} {h : am_H} (hs : am_Sh h) (hp0 : am_K0[p0]? = some (.inr (.byte, p0L))) {r : Int32} (hf : f_Tokens_valueOf p0 p0L p1 p2 h = some r) : am_Ct 0 M_Tokens_valueOf [.ref p0, .int p1, .int p2] h 0 0 (am_pI h r) := by
  unfold f_Tokens_valueOf at hf
  refine am_Ct.of (by decide) rfl (Nat.le_of_ble_eq_true rfl) (ls := [(0, .ref p0), (1, .int p1), (2, .int p2)]) rfl ?_
  refine g_iconst (z := 0) (v := 0) (by decide +kernel) rfl ?_
  refine g_istore_n (i := 3) (by decide +kernel) rfl (by decide) (ls1 := [(0, .ref p0), (1, .int p1), (2, .int p2), (3, .int (0 : Int32))]) rfl ?_
  refine g_iload_n (i := 1) (by decide +kernel) rfl ?_
  refine g_istore (i := 4) (by decide +kernel) rfl (by decide) (ls1 := [(0, .ref p0), (1, .int p1), (2, .int p2), (3, .int (0 : Int32)), (4, .int p1)]) rfl ?_
  obtain ⟨q4, hqq4, hf⟩ := Option.bind_eq_some_iff.mp hf
  refine am_G.forget (am_subp [0, 1, 2, 3, 4] rfl) (t_Tokens_valueOf_L5 hp0 am_fu _ _ _ q4 hs hqq4 ?_)
  refine g_iload_n (i := 3) (by decide +kernel) rfl ?_
  exact x_iretp hf (by decide +kernel) rfl (Nat.le_refl _) (Nat.le_refl _)
def f_Tokens_cut_L10 (p1 : Nat) (p1L : Nat) (p2 : Int32) : Nat → Int32 → Int32 → am_H → Option (Int32 × Int32 × am_H)
  | 0, _, _, _ => none
  | n + 1, v3, v4, h =>
    (if (900 : Int32) < v4 then
      some (v3, v4, h)
    else
      (if p2 ≤ v3 then
        some (v3, v4, h)
      else
        (am_rd (h.2.1 p1) p1L v3).bind fun x4 =>
        (if x4 = (10 : Int32) then
          f_Tokens_cut_L10 p1 p1L p2 n (v3 + (1 : Int32)) (v4 + (1 : Int32)) h
        else
          (if x4 = (32 : Int32) then
            f_Tokens_cut_L10 p1 p1L p2 n (v3 + (1 : Int32)) (v4 + (1 : Int32)) h
          else
            (f_Tokens_isLetter x4 h).bind fun q7 =>
            (if q7 = true then
              (f_Tokens_endOf p1 p1L v3 p2 (0 : Int32) h).bind fun q23 =>
              (f_Tokens_wordKind p1 p1L v3 q23 h).bind fun q24 =>
              (f_Tokens_add q24 v3 (0 : Int32) h).bind fun q25 =>
              f_Tokens_cut_L10 p1 p1L p2 n q23 (v4 + (1 : Int32)) q25
            else
              (f_Tokens_isDigit x4 h).bind fun q9 =>
              (if q9 = true then
                (f_Tokens_endOf p1 p1L v3 p2 (1 : Int32) h).bind fun q18 =>
                (f_Tokens_valueOf p1 p1L v3 q18 h).bind fun q20 =>
                (f_Tokens_add (if (q18 - v3) ≤ (3 : Int32) then (2 : Int32) else (1 : Int32)) v3 q20 h).bind fun q21 =>
                (if (q18 - v3) ≤ (3 : Int32) then
                  f_Tokens_cut_L10 p1 p1L p2 n q18 (v4 + (1 : Int32)) q21
                else
                  f_Tokens_cut_L10 p1 p1L p2 n p2 (v4 + (1 : Int32)) q21)
              else
                ((if x4 ≤ 0 then
                    some (0 : Int32)
                  else
                    (f_String_indexOf 0 (((x4).toUInt32 % 65536).toInt32) h).bind fun q12 =>
                    (if q12 < 0 then
                      some (0 : Int32)
                    else
                      some (1 : Int32))) : Option (Int32)).bind fun m14 =>
                (f_Tokens_add (if m14 = 0 then (1 : Int32) else x4) v3 (0 : Int32) h).bind fun q16 =>
                (if m14 = 0 then
                  f_Tokens_cut_L10 p1 p1L p2 n p2 (v4 + (1 : Int32)) q16
                else
                  f_Tokens_cut_L10 p1 p1L p2 n (v3 + (1 : Int32)) (v4 + (1 : Int32)) q16)))))))
set_option maxRecDepth 100000 in
set_option maxHeartbeats 4000000 in
theorem t_Tokens_cut_L10 {p1 : Nat} {p1L : Nat} {p2 : Int32} (hp1 : am_K0[p1]? = some (.inr (.byte, p1L))) {Q : Option Value → am_H → Prop} : ∀ (n : Nat) (v3 : Int32) (v4 : Int32) (h : am_H) (q : Int32 × Int32 × am_H), am_Sh h → f_Tokens_cut_L10 p1 p1L p2 n v3 v4 h = some q → (am_Sh q.2.2 → am_G 6 M_Tokens_cut 0 0 Q 203 [(0, .ref 71), (1, .ref p1), (2, .int p2), (3, .int q.1), (4, .int q.2.1)] [] q.2.2 0 0) → am_G 6 M_Tokens_cut 0 0 Q 10 [(0, .ref 71), (1, .ref p1), (2, .int p2), (3, .int v3), (4, .int v4)] [] h 0 0 := by
  intro n
  induction n with
  | zero =>
    intro v3 v4 h q hs hf kont
    rw [f_Tokens_cut_L10] at hf
    cases hf
  | succ n ih =>
    intro v3 v4 h q hs hf kont
    rw [f_Tokens_cut_L10] at hf
    refine g_iload (i := 4) (by decide +kernel) rfl ?_
    refine g_sipush (z := 900) (v := 900) (by decide +kernel) rfl ?_
    refine x_icmp_gt (off := 188) (tgt := 203) hf (by decide +kernel) (by decide) (fun c2 hf => ?_) (fun c2 hf => ?_)
    · cases hf
      exact am_G.forget (am_subp [0, 1, 2, 3, 4] rfl) (kont hs)
    · refine g_iload_n (i := 3) (by decide +kernel) rfl ?_
      refine g_iload_n (i := 2) (by decide +kernel) rfl ?_
      refine x_icmp_ge (off := 183) (tgt := 203) hf (by decide +kernel) (by decide) (fun c3 hf => ?_) (fun c3 hf => ?_)
      · cases hf
        exact am_G.forget (am_subp [0, 1, 2, 3, 4] rfl) (kont hs)
      · refine g_aload_n (i := 1) (by decide +kernel) rfl ?_
        refine g_iload_n (i := 3) (by decide +kernel) rfl ?_
        refine x_bald hf (hs.k hp1) (by decide +kernel) (fun x4 hf => ?_)
        refine g_istore (i := 5) (by decide +kernel) rfl (by decide) (ls1 := [(0, .ref 71), (1, .ref p1), (2, .int p2), (3, .int v3), (4, .int v4), (5, .int x4)]) rfl ?_
        refine g_iload (i := 5) (by decide +kernel) rfl ?_
        refine g_bipush (z := 10) (v := 10) (by decide +kernel) rfl ?_
        refine x_icmp_eq (off := 10) (tgt := 42) hf (by decide +kernel) (by decide) (fun c5 hf => ?_) (fun c5 hf => ?_)
        · refine g_iinc (i := 3) (z := 1) (v := (v3 + (1 : Int32))) (by decide +kernel) rfl rfl rfl (by decide) (ls1 := [(0, .ref 71), (1, .ref p1), (2, .int p2), (3, .int (v3 + (1 : Int32))), (4, .int v4), (5, .int x4)]) rfl ?_
          refine g_goto (off := 152) (tgt := 197) (by decide +kernel) (by decide) ?_
          refine g_iinc (i := 4) (z := 1) (v := (v4 + (1 : Int32))) (by decide +kernel) rfl rfl rfl (by decide) (ls1 := [(0, .ref 71), (1, .ref p1), (2, .int p2), (3, .int (v3 + (1 : Int32))), (4, .int (v4 + (1 : Int32))), (5, .int x4)]) rfl ?_
          refine g_goto (off := (-190)) (tgt := 10) (by decide +kernel) (by decide) ?_
          exact am_G.forget (am_subp [0, 1, 2, 3, 4] rfl) (ih _ _ _ _ hs hf kont)
        · refine g_iload (i := 5) (by decide +kernel) rfl ?_
          refine g_bipush (z := 32) (v := 32) (by decide +kernel) rfl ?_
          refine x_icmp_ne (off := 9) (tgt := 48) hf (by decide +kernel) (by decide) (fun c6 hf => ?_) (fun c6 hf => ?_)
          · refine g_iload (i := 5) (by decide +kernel) rfl ?_
            refine x_callSBp (as := [.int x4]) St_Tokens_isLetter hf (fun q hq => t_Tokens_isLetter hs  hq) Y_Tokens_isLetter L_Tokens_25 (by decide +kernel) rfl rfl (Nat.le_of_ble_eq_true rfl) (by decide) (Nat.le_refl _) (Nat.le_refl _) (fun q7 hf => ?_)
            refine x_ifb_eq (off := 31) (tgt := 84) hf (by decide +kernel) (by decide) (fun c8 hf => ?_) (fun c8 hf => ?_)
            · refine g_iload (i := 5) (by decide +kernel) rfl ?_
              refine x_callSBp (as := [.int x4]) St_Tokens_isDigit hf (fun q hq => t_Tokens_isDigit hs  hq) Y_Tokens_isDigit L_Tokens_41 (by decide +kernel) rfl rfl (Nat.le_of_ble_eq_true rfl) (by decide) (Nat.le_refl _) (Nat.le_refl _) (fun q9 hf => ?_)
              refine x_ifb_eq (off := 55) (tgt := 144) hf (by decide +kernel) (by decide) (fun c10 hf => ?_) (fun c10 hf => ?_)
              · refine g_iload (i := 5) (by decide +kernel) rfl ?_
                obtain ⟨m14, hm165, hf⟩ := Option.bind_eq_some_iff.mp hf
                refine am_cut (J := 165) (ls' := [(0, .ref 71), (1, .ref p1), (2, .int p2), (3, .int v3), (4, .int v4), (5, .int x4)]) (st' := [.int m14]) ?_ (fun K165 => ?_)
                · refine g_istore (i := 6) (by decide +kernel) rfl (by decide) (ls1 := [(0, .ref 71), (1, .ref p1), (2, .int p2), (3, .int v3), (4, .int v4), (5, .int x4), (6, .int m14)]) rfl ?_
                  refine g_aload_n (i := 0) (by decide +kernel) rfl ?_
                  refine g_iload (i := 6) (by decide +kernel) rfl ?_
                  refine am_cut (J := 179) (ls' := [(0, .ref 71), (1, .ref p1), (2, .int p2), (3, .int v3), (4, .int v4), (5, .int x4), (6, .int m14)]) (st' := [.int (if m14 = 0 then (1 : Int32) else x4), .ref 71]) ?_ (fun K179 => ?_)
                  · refine g_iload_n (i := 3) (by decide +kernel) rfl ?_
                    refine g_iconst (z := 0) (v := 0) (by decide +kernel) rfl ?_
                    refine x_callVV (as := [.int (if m14 = 0 then (1 : Int32) else x4), .int v3, .int (0 : Int32)]) Vi_Tokens_add Vs_Tokens_add (hs.k k_71) rfl hf (fun q hq => t_Tokens_add hs  hq) Y_Tokens_add L_Tokens_37 (by decide +kernel) rfl rfl (Nat.le_of_ble_eq_true rfl) (by decide) (Nat.le_refl _) (Nat.le_refl _) (fun q16 hf hs => ?_)
                    refine g_iload (i := 6) (by decide +kernel) rfl ?_
                    refine x_if_eq (off := 9) (tgt := 195) hf (by decide +kernel) (by decide) (fun c17 hf => ?_) (fun c17 hf => ?_)
                    · refine g_iload_n (i := 2) (by decide +kernel) rfl ?_
                      refine g_istore_n (i := 3) (by decide +kernel) rfl (by decide) (ls1 := [(0, .ref 71), (1, .ref p1), (2, .int p2), (3, .int p2), (4, .int v4), (5, .int x4), (6, .int m14)]) rfl ?_
                      refine g_iinc (i := 4) (z := 1) (v := (v4 + (1 : Int32))) (by decide +kernel) rfl rfl rfl (by decide) (ls1 := [(0, .ref 71), (1, .ref p1), (2, .int p2), (3, .int p2), (4, .int (v4 + (1 : Int32))), (5, .int x4), (6, .int m14)]) rfl ?_
                      refine g_goto (off := (-190)) (tgt := 10) (by decide +kernel) (by decide) ?_
                      exact am_G.forget (am_subp [0, 1, 2, 3, 4] rfl) (ih _ _ _ _ hs hf kont)
                    · refine g_iload_n (i := 3) (by decide +kernel) rfl ?_
                      refine g_iconst (z := 1) (v := 1) (by decide +kernel) rfl ?_
                      refine g_iadd (by decide +kernel) ?_
                      refine g_goto (off := 4) (tgt := 196) (by decide +kernel) (by decide) ?_
                      refine g_istore_n (i := 3) (by decide +kernel) rfl (by decide) (ls1 := [(0, .ref 71), (1, .ref p1), (2, .int p2), (3, .int (v3 + (1 : Int32))), (4, .int v4), (5, .int x4), (6, .int m14)]) rfl ?_
                      refine g_iinc (i := 4) (z := 1) (v := (v4 + (1 : Int32))) (by decide +kernel) rfl rfl rfl (by decide) (ls1 := [(0, .ref 71), (1, .ref p1), (2, .int p2), (3, .int (v3 + (1 : Int32))), (4, .int (v4 + (1 : Int32))), (5, .int x4), (6, .int m14)]) rfl ?_
                      refine g_goto (off := (-190)) (tgt := 10) (by decide +kernel) (by decide) ?_
                      exact am_G.forget (am_subp [0, 1, 2, 3, 4] rfl) (ih _ _ _ _ hs hf kont)
                  refine p_if_eq (off := 8) (tgt := 178) (by decide +kernel) (by decide) (fun c15 => ?_) (fun c15 => ?_)
                  · refine g_iconst (z := 1) (v := 1) (by decide +kernel) rfl ?_
                    have K1 := K179
                    simp only [if_pos c15] at K1
                    exact am_G.forget (am_subp [0, 1, 2, 3, 4, 5, 6] rfl) K1
                  · refine g_iload (i := 5) (by decide +kernel) rfl ?_
                    refine g_goto (off := 4) (tgt := 179) (by decide +kernel) (by decide) ?_
                    have K1 := K179
                    simp only [if_neg c15] at K1
                    exact am_G.forget (am_subp [0, 1, 2, 3, 4, 5, 6] rfl) K1
                refine x_if_le (off := 18) (tgt := 164) hm165 (by decide +kernel) (by decide) (fun c11 hm165 => ?_) (fun c11 hm165 => ?_)
                · refine g_iconst (z := 0) (v := 0) (by decide +kernel) rfl ?_
                  cases hm165
                  exact am_G.forget (am_subp [0, 1, 2, 3, 4, 5] rfl) K165
                · refine g_ldcS sS_0 (by decide +kernel) ?_
                  refine g_iload (i := 5) (by decide +kernel) rfl ?_
                  refine g_i2c (by decide +kernel) ?_
                  refine x_callVsIp (as := [.int (((x4).toUInt32 % 65536).toInt32)]) Vi_String_indexOf Vs_String_indexOf (by decide) rfl hm165 (fun q hq => t_String_indexOf hs (by decide) hq) Y_String_indexOf L_Tokens_49 (by decide +kernel) rfl rfl (Nat.le_of_ble_eq_true rfl) (by decide) (Nat.le_refl _) (Nat.le_refl _) (fun q12 hm165 => ?_)
                  refine x_if_lt (off := 7) (tgt := 164) hm165 (by decide +kernel) (by decide) (fun c13 hm165 => ?_) (fun c13 hm165 => ?_)
                  · refine g_iconst (z := 0) (v := 0) (by decide +kernel) rfl ?_
                    cases hm165
                    exact am_G.forget (am_subp [0, 1, 2, 3, 4, 5] rfl) K165
                  · refine g_iconst (z := 1) (v := 1) (by decide +kernel) rfl ?_
                    refine g_goto (off := 4) (tgt := 165) (by decide +kernel) (by decide) ?_
                    cases hm165
                    exact am_G.forget (am_subp [0, 1, 2, 3, 4, 5] rfl) K165
              · refine g_aload_n (i := 1) (by decide +kernel) rfl ?_
                refine g_iload_n (i := 3) (by decide +kernel) rfl ?_
                refine g_iload_n (i := 2) (by decide +kernel) rfl ?_
                refine g_iconst (z := 1) (v := 1) (by decide +kernel) rfl ?_
                refine x_callSIp (as := [.ref p1, .int v3, .int p2, .int (1 : Int32)]) St_Tokens_endOf hf (fun q hq => t_Tokens_endOf hs hp1 hq) Y_Tokens_endOf L_Tokens_29 (by decide +kernel) rfl rfl (Nat.le_of_ble_eq_true rfl) (by decide) (Nat.le_refl _) (Nat.le_refl _) (fun q18 hf => ?_)
                refine g_istore (i := 6) (by decide +kernel) rfl (by decide) (ls1 := [(0, .ref 71), (1, .ref p1), (2, .int p2), (3, .int v3), (4, .int v4), (5, .int x4), (6, .int q18)]) rfl ?_
                refine g_aload_n (i := 0) (by decide +kernel) rfl ?_
                refine g_iload (i := 6) (by decide +kernel) rfl ?_
                refine g_iload_n (i := 3) (by decide +kernel) rfl ?_
                refine g_isub (by decide +kernel) ?_
                refine g_iconst (z := 3) (v := 3) (by decide +kernel) rfl ?_
                refine am_cut (J := 115) (ls' := [(0, .ref 71), (1, .ref p1), (2, .int p2), (3, .int v3), (4, .int v4), (5, .int x4), (6, .int q18)]) (st' := [.int (if (q18 - v3) ≤ (3 : Int32) then (2 : Int32) else (1 : Int32)), .ref 71]) ?_ (fun K115 => ?_)
                · refine g_iload_n (i := 3) (by decide +kernel) rfl ?_
                  refine g_aload_n (i := 1) (by decide +kernel) rfl ?_
                  refine g_iload_n (i := 3) (by decide +kernel) rfl ?_
                  refine g_iload (i := 6) (by decide +kernel) rfl ?_
                  refine x_callSIp (as := [.ref p1, .int v3, .int q18]) St_Tokens_valueOf hf (fun q hq => t_Tokens_valueOf hs hp1 hq) Y_Tokens_valueOf L_Tokens_44 (by decide +kernel) rfl rfl (Nat.le_of_ble_eq_true rfl) (by decide) (Nat.le_refl _) (Nat.le_refl _) (fun q20 hf => ?_)
                  refine x_callVV (as := [.int (if (q18 - v3) ≤ (3 : Int32) then (2 : Int32) else (1 : Int32)), .int v3, .int q20]) Vi_Tokens_add Vs_Tokens_add (hs.k k_71) rfl hf (fun q hq => t_Tokens_add hs  hq) Y_Tokens_add L_Tokens_37 (by decide +kernel) rfl rfl (Nat.le_of_ble_eq_true rfl) (by decide) (Nat.le_refl _) (Nat.le_refl _) (fun q21 hf hs => ?_)
                  refine g_iload (i := 6) (by decide +kernel) rfl ?_
                  refine g_iload_n (i := 3) (by decide +kernel) rfl ?_
                  refine g_isub (by decide +kernel) ?_
                  refine g_iconst (z := 3) (v := 3) (by decide +kernel) rfl ?_
                  refine x_icmp_le (off := 7) (tgt := 138) hf (by decide +kernel) (by decide) (fun c22 hf => ?_) (fun c22 hf => ?_)
                  · refine g_iload (i := 6) (by decide +kernel) rfl ?_
                    refine g_istore_n (i := 3) (by decide +kernel) rfl (by decide) (ls1 := [(0, .ref 71), (1, .ref p1), (2, .int p2), (3, .int q18), (4, .int v4), (5, .int x4), (6, .int q18)]) rfl ?_
                    refine g_goto (off := 56) (tgt := 197) (by decide +kernel) (by decide) ?_
                    refine g_iinc (i := 4) (z := 1) (v := (v4 + (1 : Int32))) (by decide +kernel) rfl rfl rfl (by decide) (ls1 := [(0, .ref 71), (1, .ref p1), (2, .int p2), (3, .int q18), (4, .int (v4 + (1 : Int32))), (5, .int x4), (6, .int q18)]) rfl ?_
                    refine g_goto (off := (-190)) (tgt := 10) (by decide +kernel) (by decide) ?_
                    exact am_G.forget (am_subp [0, 1, 2, 3, 4] rfl) (ih _ _ _ _ hs hf kont)
                  · refine g_iload_n (i := 2) (by decide +kernel) rfl ?_
                    refine g_goto (off := 5) (tgt := 140) (by decide +kernel) (by decide) ?_
                    refine g_istore_n (i := 3) (by decide +kernel) rfl (by decide) (ls1 := [(0, .ref 71), (1, .ref p1), (2, .int p2), (3, .int p2), (4, .int v4), (5, .int x4), (6, .int q18)]) rfl ?_
                    refine g_goto (off := 56) (tgt := 197) (by decide +kernel) (by decide) ?_
                    refine g_iinc (i := 4) (z := 1) (v := (v4 + (1 : Int32))) (by decide +kernel) rfl rfl rfl (by decide) (ls1 := [(0, .ref 71), (1, .ref p1), (2, .int p2), (3, .int p2), (4, .int (v4 + (1 : Int32))), (5, .int x4), (6, .int q18)]) rfl ?_
                    refine g_goto (off := (-190)) (tgt := 10) (by decide +kernel) (by decide) ?_
                    exact am_G.forget (am_subp [0, 1, 2, 3, 4] rfl) (ih _ _ _ _ hs hf kont)
                refine p_icmp_le (off := 7) (tgt := 114) (by decide +kernel) (by decide) (fun c19 => ?_) (fun c19 => ?_)
                · refine g_iconst (z := 2) (v := 2) (by decide +kernel) rfl ?_
                  have K1 := K115
                  simp only [if_pos c19] at K1
                  exact am_G.forget (am_subp [0, 1, 2, 3, 4, 5, 6] rfl) K1
                · refine g_iconst (z := 1) (v := 1) (by decide +kernel) rfl ?_
                  refine g_goto (off := 4) (tgt := 115) (by decide +kernel) (by decide) ?_
                  have K1 := K115
                  simp only [if_neg c19] at K1
                  exact am_G.forget (am_subp [0, 1, 2, 3, 4, 5, 6] rfl) K1
            · refine g_aload_n (i := 1) (by decide +kernel) rfl ?_
              refine g_iload_n (i := 3) (by decide +kernel) rfl ?_
              refine g_iload_n (i := 2) (by decide +kernel) rfl ?_
              refine g_iconst (z := 0) (v := 0) (by decide +kernel) rfl ?_
              refine x_callSIp (as := [.ref p1, .int v3, .int p2, .int (0 : Int32)]) St_Tokens_endOf hf (fun q hq => t_Tokens_endOf hs hp1 hq) Y_Tokens_endOf L_Tokens_29 (by decide +kernel) rfl rfl (Nat.le_of_ble_eq_true rfl) (by decide) (Nat.le_refl _) (Nat.le_refl _) (fun q23 hf => ?_)
              refine g_istore (i := 6) (by decide +kernel) rfl (by decide) (ls1 := [(0, .ref 71), (1, .ref p1), (2, .int p2), (3, .int v3), (4, .int v4), (5, .int x4), (6, .int q23)]) rfl ?_
              refine g_aload_n (i := 0) (by decide +kernel) rfl ?_
              refine g_aload_n (i := 1) (by decide +kernel) rfl ?_
              refine g_iload_n (i := 3) (by decide +kernel) rfl ?_
              refine g_iload (i := 6) (by decide +kernel) rfl ?_
              refine x_callSIp (as := [.ref p1, .int v3, .int q23]) St_Tokens_wordKind hf (fun q hq => t_Tokens_wordKind hs hp1 hq) Y_Tokens_wordKind L_Tokens_33 (by decide +kernel) rfl rfl (Nat.le_of_ble_eq_true rfl) (by decide) (Nat.le_refl _) (Nat.le_refl _) (fun q24 hf => ?_)
              refine g_iload_n (i := 3) (by decide +kernel) rfl ?_
              refine g_iconst (z := 0) (v := 0) (by decide +kernel) rfl ?_
              refine x_callVV (as := [.int q24, .int v3, .int (0 : Int32)]) Vi_Tokens_add Vs_Tokens_add (hs.k k_71) rfl hf (fun q hq => t_Tokens_add hs  hq) Y_Tokens_add L_Tokens_37 (by decide +kernel) rfl rfl (Nat.le_of_ble_eq_true rfl) (by decide) (Nat.le_refl _) (Nat.le_refl _) (fun q25 hf hs => ?_)
              refine g_iload (i := 6) (by decide +kernel) rfl ?_
              refine g_istore_n (i := 3) (by decide +kernel) rfl (by decide) (ls1 := [(0, .ref 71), (1, .ref p1), (2, .int p2), (3, .int q23), (4, .int v4), (5, .int x4), (6, .int q23)]) rfl ?_
              refine g_goto (off := 116) (tgt := 197) (by decide +kernel) (by decide) ?_
              refine g_iinc (i := 4) (z := 1) (v := (v4 + (1 : Int32))) (by decide +kernel) rfl rfl rfl (by decide) (ls1 := [(0, .ref 71), (1, .ref p1), (2, .int p2), (3, .int q23), (4, .int (v4 + (1 : Int32))), (5, .int x4), (6, .int q23)]) rfl ?_
              refine g_goto (off := (-190)) (tgt := 10) (by decide +kernel) (by decide) ?_
              exact am_G.forget (am_subp [0, 1, 2, 3, 4] rfl) (ih _ _ _ _ hs hf kont)
          · refine g_iinc (i := 3) (z := 1) (v := (v3 + (1 : Int32))) (by decide +kernel) rfl rfl rfl (by decide) (ls1 := [(0, .ref 71), (1, .ref p1), (2, .int p2), (3, .int (v3 + (1 : Int32))), (4, .int v4), (5, .int x4)]) rfl ?_
            refine g_goto (off := 152) (tgt := 197) (by decide +kernel) (by decide) ?_
            refine g_iinc (i := 4) (z := 1) (v := (v4 + (1 : Int32))) (by decide +kernel) rfl rfl rfl (by decide) (ls1 := [(0, .ref 71), (1, .ref p1), (2, .int p2), (3, .int (v3 + (1 : Int32))), (4, .int (v4 + (1 : Int32))), (5, .int x4)]) rfl ?_
            refine g_goto (off := (-190)) (tgt := 10) (by decide +kernel) (by decide) ?_
            exact am_G.forget (am_subp [0, 1, 2, 3, 4] rfl) (ih _ _ _ _ hs hf kont)
def f_Tokens_cut (p1 : Nat) (p1L : Nat) (p2 : Int32) (h : am_H) : Option (am_H) :=
  am_let (am_sI h 71 0 (0 : Int32)) fun h1 =>
  (f_Tokens_cut_L10 p1 p1L p2 am_fu (0 : Int32) (0 : Int32) h1).bind fun q26 =>
  (f_Tokens_add (0 : Int32) p2 (0 : Int32) q26.2.2).bind fun q27 =>
  some q27
set_option maxRecDepth 100000 in
set_option maxHeartbeats 4000000 in
theorem t_Tokens_cut {p1 : Nat} {p1L : Nat} {p2 : Int32} {h : am_H} (hs : am_Sh h) (hp1 : am_K0[p1]? = some (.inr (.byte, p1L))) {r : am_H} (hf : f_Tokens_cut p1 p1L p2 h = some r) : am_Ct 6 M_Tokens_cut [.ref 71, .ref p1, .int p2] h 0 0 (am_qV r) := by
  unfold f_Tokens_cut at hf
  refine am_Ct.of (by decide) rfl (Nat.le_of_ble_eq_true rfl) (ls := [(0, .ref 71), (1, .ref p1), (2, .int p2)]) rfl ?_
  refine g_aload_n (i := 0) (by decide +kernel) rfl ?_
  refine g_iconst (z := 0) (v := 0) (by decide +kernel) rfl ?_
  refine x_puti hf hs (hs.k k_71) F_Tokens_9 (by decide +kernel) rfl rfl rfl rfl (fun h1 hf hs => ?_)
  refine g_iconst (z := 0) (v := 0) (by decide +kernel) rfl ?_
  refine g_istore_n (i := 3) (by decide +kernel) rfl (by decide) (ls1 := [(0, .ref 71), (1, .ref p1), (2, .int p2), (3, .int (0 : Int32))]) rfl ?_
  refine g_iconst (z := 0) (v := 0) (by decide +kernel) rfl ?_
  refine g_istore (i := 4) (by decide +kernel) rfl (by decide) (ls1 := [(0, .ref 71), (1, .ref p1), (2, .int p2), (3, .int (0 : Int32)), (4, .int (0 : Int32))]) rfl ?_
  obtain ⟨q26, hqq26, hf⟩ := Option.bind_eq_some_iff.mp hf
  refine am_G.forget (am_subp [0, 1, 2, 3, 4] rfl) (t_Tokens_cut_L10 hp1 am_fu _ _ _ q26 hs hqq26 (fun hs => ?_))
  refine g_aload_n (i := 0) (by decide +kernel) rfl ?_
  refine g_iconst (z := 0) (v := 0) (by decide +kernel) rfl ?_
  refine g_iload_n (i := 2) (by decide +kernel) rfl ?_
  refine g_iconst (z := 0) (v := 0) (by decide +kernel) rfl ?_
  refine x_callVV (as := [.int (0 : Int32), .int p2, .int (0 : Int32)]) Vi_Tokens_add Vs_Tokens_add (hs.k k_71) rfl hf (fun q hq => t_Tokens_add hs  hq) Y_Tokens_add L_Tokens_37 (by decide +kernel) rfl rfl (Nat.le_of_ble_eq_true rfl) (by decide) (Nat.le_refl _) (Nat.le_refl _) (fun q27 hf hs => ?_)
  exact x_vret hf hs (by decide +kernel) rfl (Nat.le_refl _) (Nat.le_refl _)
def f_River_clear (o : Nat) (h : am_H) : Option (am_H) :=
  am_let (am_sI h o 0 (2 : Int32)) fun h1 =>
  am_let (am_sI h1 o 1 (1 : Int32)) fun h2 =>
  am_let (am_sI h2 o 2 (0 : Int32)) fun h3 =>
  am_let (am_sI h3 o 3 (0 : Int32)) fun h4 =>
  am_let (am_sI h4 o 4 (0 : Int32)) fun h5 =>
  am_let (am_sI h5 o 5 (0 : Int32)) fun h6 =>
  (f_Arrays_fill (o + 1) 6 (0 : Int32) h6).bind fun q7 =>
  (f_Arrays_fill (o + 3) 5 (0 : Int32) q7).bind fun q8 =>
  (f_Arrays_fill (o + 4) 5 (-1 : Int32) q8).bind fun q9 =>
  (f_Arrays_fill (o + 5) 5 (-1 : Int32) q9).bind fun q10 =>
  some q10
set_option maxRecDepth 100000 in
set_option maxHeartbeats 4000000 in
theorem t_River_clear {o : Nat} {h : am_H} (hs : am_Sh h) (ho : o ∈ am_rvL) {r : am_H} (hf : f_River_clear o h = some r) : am_Ct 1 M_River_clear [.ref o] h 0 0 (am_qV r) := by
  unfold f_River_clear at hf
  refine am_Ct.of (by decide) rfl (Nat.le_of_ble_eq_true rfl) (ls := [(0, .ref o)]) rfl ?_
  refine g_aload_n (i := 0) (by decide +kernel) rfl ?_
  refine g_iconst (z := 2) (v := 2) (by decide +kernel) rfl ?_
  refine x_puti hf hs (hs.k (k_Rv ho)) F_River_9 (by decide +kernel) rfl rfl rfl rfl (fun h1 hf hs => ?_)
  refine g_aload_n (i := 0) (by decide +kernel) rfl ?_
  refine g_iconst (z := 1) (v := 1) (by decide +kernel) rfl ?_
  refine x_puti hf hs (hs.k (k_Rv ho)) F_River_15 (by decide +kernel) rfl rfl rfl rfl (fun h2 hf hs => ?_)
  refine g_aload_n (i := 0) (by decide +kernel) rfl ?_
  refine g_iconst (z := 0) (v := 0) (by decide +kernel) rfl ?_
  refine x_puti hf hs (hs.k (k_Rv ho)) F_River_18 (by decide +kernel) rfl rfl rfl rfl (fun h3 hf hs => ?_)
  refine g_aload_n (i := 0) (by decide +kernel) rfl ?_
  refine g_iconst (z := 0) (v := 0) (by decide +kernel) rfl ?_
  refine x_puti hf hs (hs.k (k_Rv ho)) F_River_21 (by decide +kernel) rfl rfl rfl rfl (fun h4 hf hs => ?_)
  refine g_aload_n (i := 0) (by decide +kernel) rfl ?_
  refine g_iconst (z := 0) (v := 0) (by decide +kernel) rfl ?_
  refine x_puti hf hs (hs.k (k_Rv ho)) F_River_24 (by decide +kernel) rfl rfl rfl rfl (fun h5 hf hs => ?_)
  refine g_aload_n (i := 0) (by decide +kernel) rfl ?_
  refine g_iconst (z := 0) (v := 0) (by decide +kernel) rfl ?_
  refine x_puti hf hs (hs.k (k_Rv ho)) F_River_27 (by decide +kernel) rfl rfl rfl rfl (fun h6 hf hs => ?_)
  refine g_aload_n (i := 0) (by decide +kernel) rfl ?_
  refine x_getr (hs.k (k_Rv ho)) F_River_30 (by decide +kernel) rfl (hs.r (r_Rv_6 ho)) ?_
  refine g_iconst (z := 0) (v := 0) (by decide +kernel) rfl ?_
  refine x_callSV (as := [.ref (o + 1), .int (0 : Int32)]) St_Arrays_fill hf (fun q hq => t_Arrays_fill hs (k_Rv_6 ho) hq) Y_Arrays_fill L_River_55 (by decide +kernel) rfl rfl (Nat.le_of_ble_eq_true rfl) (by decide) (Nat.le_refl _) (Nat.le_refl _) (fun q7 hf hs => ?_)
  refine g_aload_n (i := 0) (by decide +kernel) rfl ?_
  refine x_getr (hs.k (k_Rv ho)) F_River_37 (by decide +kernel) rfl (hs.r (r_Rv_8 ho)) ?_
  refine g_iconst (z := 0) (v := 0) (by decide +kernel) rfl ?_
  refine x_callSV (as := [.ref (o + 3), .int (0 : Int32)]) St_Arrays_fill hf (fun q hq => t_Arrays_fill hs (k_Rv_8 ho) hq) Y_Arrays_fill L_River_55 (by decide +kernel) rfl rfl (Nat.le_of_ble_eq_true rfl) (by decide) (Nat.le_refl _) (Nat.le_refl _) (fun q8 hf hs => ?_)
  refine g_aload_n (i := 0) (by decide +kernel) rfl ?_
  refine x_getr (hs.k (k_Rv ho)) F_River_40 (by decide +kernel) rfl (hs.r (r_Rv_9 ho)) ?_
  refine g_iconst (z := (-1)) (v := (-1)) (by decide +kernel) rfl ?_
  refine x_callSV (as := [.ref (o + 4), .int (-1 : Int32)]) St_Arrays_fill hf (fun q hq => t_Arrays_fill hs (k_Rv_9 ho) hq) Y_Arrays_fill L_River_55 (by decide +kernel) rfl rfl (Nat.le_of_ble_eq_true rfl) (by decide) (Nat.le_refl _) (Nat.le_refl _) (fun q9 hf hs => ?_)
  refine g_aload_n (i := 0) (by decide +kernel) rfl ?_
  refine x_getr (hs.k (k_Rv ho)) F_River_43 (by decide +kernel) rfl (hs.r (r_Rv_10 ho)) ?_
  refine g_iconst (z := (-1)) (v := (-1)) (by decide +kernel) rfl ?_
  refine x_callSV (as := [.ref (o + 5), .int (-1 : Int32)]) St_Arrays_fill hf (fun q hq => t_Arrays_fill hs (k_Rv_10 ho) hq) Y_Arrays_fill L_River_55 (by decide +kernel) rfl rfl (Nat.le_of_ble_eq_true rfl) (by decide) (Nat.le_refl _) (Nat.le_refl _) (fun q10 hf hs => ?_)
  exact x_vret hf hs (by decide +kernel) rfl (Nat.le_refl _) (Nat.le_refl _)
def f_Law_clear (o : Nat) (h : am_H) : Option (am_H) :=
  am_let (am_sI h o 0 (0 : Int32)) fun h1 =>
  am_let (am_sI h1 o 1 (0 : Int32)) fun h2 =>
  some h2
set_option maxRecDepth 100000 in
set_option maxHeartbeats 4000000 in
theorem t_Law_clear {o : Nat} {h : am_H} (hs : am_Sh h) (ho : o ∈ am_lwL) {r : am_H} (hf : f_Law_clear o h = some r) : am_Ct 0 M_Law_clear [.ref o] h 0 0 (am_qV r) := by
  unfold f_Law_clear at hf
  refine am_Ct.of (by decide) rfl (Nat.le_of_ble_eq_true rfl) (ls := [(0, .ref o)]) rfl ?_
  refine g_aload_n (i := 0) (by decide +kernel) rfl ?_
  refine g_iconst (z := 0) (v := 0) (by decide +kernel) rfl ?_
  refine x_puti hf hs (hs.k (k_Lw ho)) F_Law_9 (by decide +kernel) rfl rfl rfl rfl (fun h1 hf hs => ?_)
  refine g_aload_n (i := 0) (by decide +kernel) rfl ?_
  refine g_iconst (z := 0) (v := 0) (by decide +kernel) rfl ?_
  refine x_puti hf hs (hs.k (k_Lw ho)) F_Law_15 (by decide +kernel) rfl rfl rfl rfl (fun h2 hf hs => ?_)
  exact x_vret hf hs (by decide +kernel) rfl (Nat.le_refl _) (Nat.le_refl _)
def f_Reader_kind  (h : am_H) : Option (Int32) :=
  (if (h.2.1 61 1) = 0 then
    (if (h.2.1 61 3) < (h.2.1 71 0) then
      (am_rd (h.2.1 72) 901 (h.2.1 61 3)).bind fun x3 =>
      some x3
    else
      some (-1 : Int32))
  else
    some (-1 : Int32))
set_option maxRecDepth 100000 in
set_option maxHeartbeats 4000000 in
theorem t_Reader_kind  {h : am_H} (hs : am_Sh h)  {r : Int32} (hf : f_Reader_kind  h = some r) : am_Ct 0 M_Reader_kind [.ref 61] h 0 0 (am_pI h r) := by
  unfold f_Reader_kind at hf
  refine am_Ct.of (by decide) rfl (Nat.le_of_ble_eq_true rfl) (ls := [(0, .ref 61)]) rfl ?_
  refine g_aload_n (i := 0) (by decide +kernel) rfl ?_
  refine x_geti (hs.k k_61) F_Reader_18 (by decide +kernel) rfl ?_
  refine x_if_ne (off := 17) (tgt := 21) hf (by decide +kernel) (by decide) (fun c1 hf => ?_) (fun c1 hf => ?_)
  · refine g_iconst (z := (-1)) (v := (-1)) (by decide +kernel) rfl ?_
    refine g_goto (off := 15) (tgt := 37) (by decide +kernel) (by decide) ?_
    exact x_iretp hf (by decide +kernel) rfl (Nat.le_refl _) (Nat.le_refl _)
  · refine g_aload_n (i := 0) (by decide +kernel) rfl ?_
    refine x_geti (hs.k k_61) F_Reader_25 (by decide +kernel) rfl ?_
    refine g_aload_n (i := 0) (by decide +kernel) rfl ?_
    refine x_getr (hs.k k_61) F_Reader_31 (by decide +kernel) rfl (hs.r r_61_4) ?_
    refine x_geti (hs.k k_71) F_Reader_169 (by decide +kernel) rfl ?_
    refine x_icmp_lt (off := 7) (tgt := 25) hf (by decide +kernel) (by decide) (fun c2 hf => ?_) (fun c2 hf => ?_)
    · refine g_aload_n (i := 0) (by decide +kernel) rfl ?_
      refine x_getr (hs.k k_61) F_Reader_31 (by decide +kernel) rfl (hs.r r_61_4) ?_
      refine x_getr (hs.k k_71) F_Reader_172 (by decide +kernel) rfl (hs.r r_71_1) ?_
      refine g_aload_n (i := 0) (by decide +kernel) rfl ?_
      refine x_geti (hs.k k_61) F_Reader_25 (by decide +kernel) rfl ?_
      refine x_iald hf (hs.k k_72) (by decide +kernel) (fun x3 hf => ?_)
      exact x_iretp hf (by decide +kernel) rfl (Nat.le_refl _) (Nat.le_refl _)
    · refine g_iconst (z := (-1)) (v := (-1)) (by decide +kernel) rfl ?_
      refine g_goto (off := 15) (tgt := 37) (by decide +kernel) (by decide) ?_
      exact x_iretp hf (by decide +kernel) rfl (Nat.le_refl _) (Nat.le_refl _)
def f_Reader_take (p1 : Int32) (h : am_H) : Option (Bool × am_H) :=
  (f_Reader_kind  h).bind fun q1 =>
  (if q1 = p1 then
    am_let (am_sI h 61 3 ((h.2.1 61 3) + (1 : Int32))) fun h3 =>
    some (true, h3)
  else
    some (false, h))
set_option maxRecDepth 100000 in
set_option maxHeartbeats 4000000 in
theorem t_Reader_take {p1 : Int32} {h : am_H} (hs : am_Sh h)  {r : Bool × am_H} (hf : f_Reader_take p1 h = some r) : am_Ct 1 M_Reader_take [.ref 61, .int p1] h 0 0 (am_qB r) := by
  unfold f_Reader_take at hf
  refine am_Ct.of (by decide) rfl (Nat.le_of_ble_eq_true rfl) (ls := [(0, .ref 61), (1, .int p1)]) rfl ?_
  refine g_aload_n (i := 0) (by decide +kernel) rfl ?_
  refine x_callVIp (as := []) Vi_Reader_kind Vs_Reader_kind (hs.k k_61) rfl hf (fun q hq => t_Reader_kind hs  hq) Y_Reader_kind L_Reader_61 (by decide +kernel) rfl rfl (Nat.le_of_ble_eq_true rfl) (by decide) (Nat.le_refl _) (Nat.le_refl _) (fun q1 hf => ?_)
  refine g_iload_n (i := 1) (by decide +kernel) rfl ?_
  refine x_icmp_eq (off := 5) (tgt := 10) hf (by decide +kernel) (by decide) (fun c2 hf => ?_) (fun c2 hf => ?_)
  · refine g_aload_n (i := 0) (by decide +kernel) rfl ?_
    refine g_dup (by decide +kernel) rfl ?_
    refine x_geti (hs.k k_61) F_Reader_25 (by decide +kernel) rfl ?_
    refine g_iconst (z := 1) (v := 1) (by decide +kernel) rfl ?_
    refine g_iadd (by decide +kernel) ?_
    refine x_puti hf hs (hs.k k_61) F_Reader_25 (by decide +kernel) rfl rfl rfl rfl (fun h3 hf hs => ?_)
    refine g_iconst (z := 1) (v := 1) (by decide +kernel) rfl ?_
    exact x_zret rfl hf hs (by decide +kernel) rfl (Nat.le_refl _) (Nat.le_refl _)
  · refine g_iconst (z := 0) (v := 0) (by decide +kernel) rfl ?_
    exact x_zret rfl hf hs (by decide +kernel) rfl (Nat.le_refl _) (Nat.le_refl _)
def f_Reader_blame (p1 : Int32) (h : am_H) : Option (am_H) :=
  (if (h.2.1 61 1) = 0 then
    (if (h.2.1 71 0) ≤ (h.2.1 61 3) then
      some h
    else
      (am_rd (h.2.1 72) 901 (h.2.1 61 3)).bind fun x3 =>
      am_let (am_sI h 61 1 (if x3 = (1 : Int32) then (1 : Int32) else p1)) fun h5 =>
      (am_rd (h5.2.1 73) 901 (h5.2.1 61 3)).bind fun x6 =>
      am_let (am_sI h5 61 2 x6) fun h7 =>
      some h7)
  else
    some h)
set_option maxRecDepth 100000 in
set_option maxHeartbeats 4000000 in
theorem t_Reader_blame {p1 : Int32} {h : am_H} (hs : am_Sh h)  {r : am_H} (hf : f_Reader_blame p1 h = some r) : am_Ct 0 M_Reader_blame [.ref 61, .int p1] h 0 0 (am_qV r) := by
  unfold f_Reader_blame at hf
  refine am_Ct.of (by decide) rfl (Nat.le_of_ble_eq_true rfl) (ls := [(0, .ref 61), (1, .int p1)]) rfl ?_
  refine g_aload_n (i := 0) (by decide +kernel) rfl ?_
  refine x_geti (hs.k k_61) F_Reader_18 (by decide +kernel) rfl ?_
  refine x_if_ne (off := 58) (tgt := 62) hf (by decide +kernel) (by decide) (fun c1 hf => ?_) (fun c1 hf => ?_)
  · exact x_vret hf hs (by decide +kernel) rfl (Nat.le_refl _) (Nat.le_refl _)
  · refine g_aload_n (i := 0) (by decide +kernel) rfl ?_
    refine x_geti (hs.k k_61) F_Reader_25 (by decide +kernel) rfl ?_
    refine g_aload_n (i := 0) (by decide +kernel) rfl ?_
    refine x_getr (hs.k k_61) F_Reader_31 (by decide +kernel) rfl (hs.r r_61_4) ?_
    refine x_geti (hs.k k_71) F_Reader_169 (by decide +kernel) rfl ?_
    refine x_icmp_ge (off := 44) (tgt := 62) hf (by decide +kernel) (by decide) (fun c2 hf => ?_) (fun c2 hf => ?_)
    · exact x_vret hf hs (by decide +kernel) rfl (Nat.le_refl _) (Nat.le_refl _)
    · refine g_aload_n (i := 0) (by decide +kernel) rfl ?_
      refine g_aload_n (i := 0) (by decide +kernel) rfl ?_
      refine x_getr (hs.k k_61) F_Reader_31 (by decide +kernel) rfl (hs.r r_61_4) ?_
      refine x_getr (hs.k k_71) F_Reader_172 (by decide +kernel) rfl (hs.r r_71_1) ?_
      refine g_aload_n (i := 0) (by decide +kernel) rfl ?_
      refine x_geti (hs.k k_61) F_Reader_25 (by decide +kernel) rfl ?_
      refine x_iald hf (hs.k k_72) (by decide +kernel) (fun x3 hf => ?_)
      refine g_iconst (z := 1) (v := 1) (by decide +kernel) rfl ?_
      refine am_cut (J := 43) (ls' := [(0, .ref 61), (1, .int p1)]) (st' := [.int (if x3 = (1 : Int32) then (1 : Int32) else p1), .ref 61]) ?_ (fun K43 => ?_)
      · refine x_puti hf hs (hs.k k_61) F_Reader_18 (by decide +kernel) rfl rfl rfl rfl (fun h5 hf hs => ?_)
        refine g_aload_n (i := 0) (by decide +kernel) rfl ?_
        refine g_aload_n (i := 0) (by decide +kernel) rfl ?_
        refine x_getr (hs.k k_61) F_Reader_31 (by decide +kernel) rfl (hs.r r_61_4) ?_
        refine x_getr (hs.k k_71) F_Reader_178 (by decide +kernel) rfl (hs.r r_71_2) ?_
        refine g_aload_n (i := 0) (by decide +kernel) rfl ?_
        refine x_geti (hs.k k_61) F_Reader_25 (by decide +kernel) rfl ?_
        refine x_iald hf (hs.k k_73) (by decide +kernel) (fun x6 hf => ?_)
        refine x_puti hf hs (hs.k k_61) F_Reader_22 (by decide +kernel) rfl rfl rfl rfl (fun h7 hf hs => ?_)
        exact x_vret hf hs (by decide +kernel) rfl (Nat.le_refl _) (Nat.le_refl _)
      refine p_icmp_ne (off := 7) (tgt := 42) (by decide +kernel) (by decide) (fun c4 => ?_) (fun c4 => ?_)
      · refine g_iload_n (i := 1) (by decide +kernel) rfl ?_
        have K1 := K43
        simp only [if_neg c4] at K1
        exact am_G.forget (am_subp [0, 1] rfl) K1
      · refine g_iconst (z := 1) (v := 1) (by decide +kernel) rfl ?_
        refine g_goto (off := 4) (tgt := 43) (by decide +kernel) (by decide) ?_
        have K1 := K43
        simp only [if_pos c4] at K1
        exact am_G.forget (am_subp [0, 1] rfl) K1
def f_Reader_expect (p1 : Int32) (h : am_H) : Option (am_H) :=
  (f_Reader_take p1 h).bind fun q1 =>
  (if q1.1 = true then
    some q1.2
  else
    (f_Reader_blame (2 : Int32) q1.2).bind fun q3 =>
    some q3)
set_option maxRecDepth 100000 in
set_option maxHeartbeats 4000000 in
theorem t_Reader_expect {p1 : Int32} {h : am_H} (hs : am_Sh h)  {r : am_H} (hf : f_Reader_expect p1 h = some r) : am_Ct 2 M_Reader_expect [.ref 61, .int p1] h 0 0 (am_qV r) := by
  unfold f_Reader_expect at hf
  refine am_Ct.of (by decide) rfl (Nat.le_of_ble_eq_true rfl) (ls := [(0, .ref 61), (1, .int p1)]) rfl ?_
  refine g_aload_n (i := 0) (by decide +kernel) rfl ?_
  refine g_iload_n (i := 1) (by decide +kernel) rfl ?_
  refine x_callVB (as := [.int p1]) Vi_Reader_take Vs_Reader_take (hs.k k_61) rfl hf (fun q hq => t_Reader_take hs  hq) Y_Reader_take L_Reader_114 (by decide +kernel) rfl rfl (Nat.le_of_ble_eq_true rfl) (by decide) (Nat.le_refl _) (Nat.le_refl _) (fun q1 hf hs => ?_)
  refine x_ifb_ne (off := 8) (tgt := 13) hf (by decide +kernel) (by decide) (fun c2 hf => ?_) (fun c2 hf => ?_)
  · exact x_vret hf hs (by decide +kernel) rfl (Nat.le_refl _) (Nat.le_refl _)
  · refine g_aload_n (i := 0) (by decide +kernel) rfl ?_
    refine g_iconst (z := 2) (v := 2) (by decide +kernel) rfl ?_
    refine x_callVV (as := [.int (2 : Int32)]) Vi_Reader_blame Vs_Reader_blame (hs.k k_61) rfl hf (fun q hq => t_Reader_blame hs  hq) Y_Reader_blame L_Reader_95 (by decide +kernel) rfl rfl (Nat.le_of_ble_eq_true rfl) (by decide) (Nat.le_refl _) (Nat.le_refl _) (fun q3 hf hs => ?_)
    exact x_vret hf hs (by decide +kernel) rfl (Nat.le_refl _) (Nat.le_refl _)
def f_Reader_readNumber (p1 : Int32) (p2 : Int32) (h : am_H) : Option (Int32 × am_H) :=
  (f_Reader_kind  h).bind fun q1 =>
  (if q1 = (2 : Int32) then
    (am_rd (h.2.1 74) 901 (h.2.1 61 3)).bind fun x3 =>
    (if x3 < p1 then
      (f_Reader_blame (3 : Int32) h).bind fun q5 =>
      some (p1, q5)
    else
      (if x3 ≤ p2 then
        am_let (am_sI h 61 3 ((h.2.1 61 3) + (1 : Int32))) fun h7 =>
        some (x3, h7)
      else
        (f_Reader_blame (3 : Int32) h).bind fun q8 =>
        some (p1, q8)))
  else
    (f_Reader_blame (2 : Int32) h).bind fun q9 =>
    some (p1, q9))
set_option maxRecDepth 100000 in
set_option maxHeartbeats 4000000 in
theorem t_Reader_readNumber {p1 : Int32} {p2 : Int32} {h : am_H} (hs : am_Sh h)  {r : Int32 × am_H} (hf : f_Reader_readNumber p1 p2 h = some r) : am_Ct 1 M_Reader_readNumber [.ref 61, .int p1, .int p2] h 0 0 (am_qI r) := by
  unfold f_Reader_readNumber at hf
  refine am_Ct.of (by decide) rfl (Nat.le_of_ble_eq_true rfl) (ls := [(0, .ref 61), (1, .int p1), (2, .int p2)]) rfl ?_
  refine g_aload_n (i := 0) (by decide +kernel) rfl ?_
  refine x_callVIp (as := []) Vi_Reader_kind Vs_Reader_kind (hs.k k_61) rfl hf (fun q hq => t_Reader_kind hs  hq) Y_Reader_kind L_Reader_61 (by decide +kernel) rfl rfl (Nat.le_of_ble_eq_true rfl) (by decide) (Nat.le_refl _) (Nat.le_refl _) (fun q1 hf => ?_)
  refine g_iconst (z := 2) (v := 2) (by decide +kernel) rfl ?_
  refine x_icmp_eq (off := 10) (tgt := 15) hf (by decide +kernel) (by decide) (fun c2 hf => ?_) (fun c2 hf => ?_)
  · refine g_aload_n (i := 0) (by decide +kernel) rfl ?_
    refine x_getr (hs.k k_61) F_Reader_31 (by decide +kernel) rfl (hs.r r_61_4) ?_
    refine x_getr (hs.k k_71) F_Reader_175 (by decide +kernel) rfl (hs.r r_71_3) ?_
    refine g_aload_n (i := 0) (by decide +kernel) rfl ?_
    refine x_geti (hs.k k_61) F_Reader_25 (by decide +kernel) rfl ?_
    refine x_iald hf (hs.k k_74) (by decide +kernel) (fun x3 hf => ?_)
    refine g_istore_n (i := 3) (by decide +kernel) rfl (by decide) (ls1 := [(0, .ref 61), (1, .int p1), (2, .int p2), (3, .int x3)]) rfl ?_
    refine g_iload_n (i := 3) (by decide +kernel) rfl ?_
    refine g_iload_n (i := 1) (by decide +kernel) rfl ?_
    refine x_icmp_lt (off := 8) (tgt := 38) hf (by decide +kernel) (by decide) (fun c4 hf => ?_) (fun c4 hf => ?_)
    · refine g_aload_n (i := 0) (by decide +kernel) rfl ?_
      refine g_iconst (z := 3) (v := 3) (by decide +kernel) rfl ?_
      refine x_callVV (as := [.int (3 : Int32)]) Vi_Reader_blame Vs_Reader_blame (hs.k k_61) rfl hf (fun q hq => t_Reader_blame hs  hq) Y_Reader_blame L_Reader_95 (by decide +kernel) rfl rfl (Nat.le_of_ble_eq_true rfl) (by decide) (Nat.le_refl _) (Nat.le_refl _) (fun q5 hf hs => ?_)
      refine g_iload_n (i := 1) (by decide +kernel) rfl ?_
      exact x_iret hf hs (by decide +kernel) rfl (Nat.le_refl _) (Nat.le_refl _)
    · refine g_iload_n (i := 3) (by decide +kernel) rfl ?_
      refine g_iload_n (i := 2) (by decide +kernel) rfl ?_
      refine x_icmp_le (off := 10) (tgt := 45) hf (by decide +kernel) (by decide) (fun c6 hf => ?_) (fun c6 hf => ?_)
      · refine g_aload_n (i := 0) (by decide +kernel) rfl ?_
        refine g_dup (by decide +kernel) rfl ?_
        refine x_geti (hs.k k_61) F_Reader_25 (by decide +kernel) rfl ?_
        refine g_iconst (z := 1) (v := 1) (by decide +kernel) rfl ?_
        refine g_iadd (by decide +kernel) ?_
        refine x_puti hf hs (hs.k k_61) F_Reader_25 (by decide +kernel) rfl rfl rfl rfl (fun h7 hf hs => ?_)
        refine g_iload_n (i := 3) (by decide +kernel) rfl ?_
        exact x_iret hf hs (by decide +kernel) rfl (Nat.le_refl _) (Nat.le_refl _)
      · refine g_aload_n (i := 0) (by decide +kernel) rfl ?_
        refine g_iconst (z := 3) (v := 3) (by decide +kernel) rfl ?_
        refine x_callVV (as := [.int (3 : Int32)]) Vi_Reader_blame Vs_Reader_blame (hs.k k_61) rfl hf (fun q hq => t_Reader_blame hs  hq) Y_Reader_blame L_Reader_95 (by decide +kernel) rfl rfl (Nat.le_of_ble_eq_true rfl) (by decide) (Nat.le_refl _) (Nat.le_refl _) (fun q8 hf hs => ?_)
        refine g_iload_n (i := 1) (by decide +kernel) rfl ?_
        exact x_iret hf hs (by decide +kernel) rfl (Nat.le_refl _) (Nat.le_refl _)
  · refine g_aload_n (i := 0) (by decide +kernel) rfl ?_
    refine g_iconst (z := 2) (v := 2) (by decide +kernel) rfl ?_
    refine x_callVV (as := [.int (2 : Int32)]) Vi_Reader_blame Vs_Reader_blame (hs.k k_61) rfl hf (fun q hq => t_Reader_blame hs  hq) Y_Reader_blame L_Reader_95 (by decide +kernel) rfl rfl (Nat.le_of_ble_eq_true rfl) (by decide) (Nat.le_refl _) (Nat.le_refl _) (fun q9 hf hs => ?_)
    refine g_iload_n (i := 1) (by decide +kernel) rfl ?_
    exact x_iret hf hs (by decide +kernel) rfl (Nat.le_refl _) (Nat.le_refl _)
def f_Reader_readHead  (h : am_H) : Option (am_H) :=
  (f_Reader_expect (101 : Int32) h).bind fun q1 =>
  (f_Reader_readNumber (2 : Int32) (4 : Int32) q1).bind fun q2 =>
  am_let (am_sI q2.2 62 0 q2.1) fun h3 =>
  (f_Reader_expect (102 : Int32) h3).bind fun q4 =>
  (f_Reader_readNumber (1 : Int32) (6 : Int32) q4).bind fun q5 =>
  am_let (am_sI q5.2 62 1 q5.1) fun h6 =>
  (f_Reader_expect (59 : Int32) h6).bind fun q7 =>
  am_let (am_sI q7 62 5 (1 : Int32)) fun h8 =>
  some h8
set_option maxRecDepth 100000 in
set_option maxHeartbeats 4000000 in
theorem t_Reader_readHead  {h : am_H} (hs : am_Sh h)  {r : am_H} (hf : f_Reader_readHead  h = some r) : am_Ct 3 M_Reader_readHead [.ref 61] h 0 0 (am_qV r) := by
  unfold f_Reader_readHead at hf
  refine am_Ct.of (by decide) rfl (Nat.le_of_ble_eq_true rfl) (ls := [(0, .ref 61)]) rfl ?_
  refine g_aload_n (i := 0) (by decide +kernel) rfl ?_
  refine g_bipush (z := 101) (v := 101) (by decide +kernel) rfl ?_
  refine x_callVV (as := [.int (101 : Int32)]) Vi_Reader_expect Vs_Reader_expect (hs.k k_61) rfl hf (fun q hq => t_Reader_expect hs  hq) Y_Reader_expect L_Reader_68 (by decide +kernel) rfl rfl (Nat.le_of_ble_eq_true rfl) (by decide) (Nat.le_refl _) (Nat.le_refl _) (fun q1 hf hs => ?_)
  refine g_aload_n (i := 0) (by decide +kernel) rfl ?_
  refine x_getr (hs.k k_61) F_Reader_12 (by decide +kernel) rfl (hs.r r_61_0) ?_
  refine g_aload_n (i := 0) (by decide +kernel) rfl ?_
  refine g_iconst (z := 2) (v := 2) (by decide +kernel) rfl ?_
  refine g_iconst (z := 4) (v := 4) (by decide +kernel) rfl ?_
  refine x_callVI (as := [.int (2 : Int32), .int (4 : Int32)]) Vi_Reader_readNumber Vs_Reader_readNumber (hs.k k_61) rfl hf (fun q hq => t_Reader_readNumber hs  hq) Y_Reader_readNumber L_Reader_79 (by decide +kernel) rfl rfl (Nat.le_of_ble_eq_true rfl) (by decide) (Nat.le_refl _) (Nat.le_refl _) (fun q2 hf hs => ?_)
  refine x_puti hf hs (hs.k k_62) F_Reader_83 (by decide +kernel) rfl rfl rfl rfl (fun h3 hf hs => ?_)
  refine g_aload_n (i := 0) (by decide +kernel) rfl ?_
  refine g_bipush (z := 102) (v := 102) (by decide +kernel) rfl ?_
  refine x_callVV (as := [.int (102 : Int32)]) Vi_Reader_expect Vs_Reader_expect (hs.k k_61) rfl hf (fun q hq => t_Reader_expect hs  hq) Y_Reader_expect L_Reader_68 (by decide +kernel) rfl rfl (Nat.le_of_ble_eq_true rfl) (by decide) (Nat.le_refl _) (Nat.le_refl _) (fun q4 hf hs => ?_)
  refine g_aload_n (i := 0) (by decide +kernel) rfl ?_
  refine x_getr (hs.k k_61) F_Reader_12 (by decide +kernel) rfl (hs.r r_61_0) ?_
  refine g_aload_n (i := 0) (by decide +kernel) rfl ?_
  refine g_iconst (z := 1) (v := 1) (by decide +kernel) rfl ?_
  refine g_bipush (z := 6) (v := 6) (by decide +kernel) rfl ?_
  refine x_callVI (as := [.int (1 : Int32), .int (6 : Int32)]) Vi_Reader_readNumber Vs_Reader_readNumber (hs.k k_61) rfl hf (fun q hq => t_Reader_readNumber hs  hq) Y_Reader_readNumber L_Reader_79 (by decide +kernel) rfl rfl (Nat.le_of_ble_eq_true rfl) (by decide) (Nat.le_refl _) (Nat.le_refl _) (fun q5 hf hs => ?_)
  refine x_puti hf hs (hs.k k_62) F_Reader_86 (by decide +kernel) rfl rfl rfl rfl (fun h6 hf hs => ?_)
  refine g_aload_n (i := 0) (by decide +kernel) rfl ?_
  refine g_bipush (z := 59) (v := 59) (by decide +kernel) rfl ?_
  refine x_callVV (as := [.int (59 : Int32)]) Vi_Reader_expect Vs_Reader_expect (hs.k k_61) rfl hf (fun q hq => t_Reader_expect hs  hq) Y_Reader_expect L_Reader_68 (by decide +kernel) rfl rfl (Nat.le_of_ble_eq_true rfl) (by decide) (Nat.le_refl _) (Nat.le_refl _) (fun q7 hf hs => ?_)
  refine g_aload_n (i := 0) (by decide +kernel) rfl ?_
  refine x_getr (hs.k k_61) F_Reader_12 (by decide +kernel) rfl (hs.r r_61_0) ?_
  refine g_iconst (z := 1) (v := 1) (by decide +kernel) rfl ?_
  refine x_puti hf hs (hs.k k_62) F_Reader_72 (by decide +kernel) rfl rfl rfl rfl (fun h8 hf hs => ?_)
  exact x_vret hf hs (by decide +kernel) rfl (Nat.le_refl _) (Nat.le_refl _)
def f_Reader_readSpan  (h : am_H) : Option (am_H) :=
  (f_Reader_readNumber (0 : Int32) ((h.2.1 62 1) - (1 : Int32)) h).bind fun q1 =>
  (f_Reader_take (105 : Int32) q1.2).bind fun q2 =>
  (if q2.1 = true then
    (am_wr q2.2 63 6 q1.1 (-1 : Int32)).bind fun h7 =>
    some h7
  else
    (f_Reader_expect (104 : Int32) q2.2).bind fun q4 =>
    (f_Reader_readNumber (0 : Int32) ((q4.2.1 62 0) - (1 : Int32)) q4).bind fun q5 =>
    (am_wr q5.2 63 6 q1.1 q5.1).bind fun h6 =>
    some h6)
set_option maxRecDepth 100000 in
set_option maxHeartbeats 4000000 in
theorem t_Reader_readSpan  {h : am_H} (hs : am_Sh h)  {r : am_H} (hf : f_Reader_readSpan  h = some r) : am_Ct 3 M_Reader_readSpan [.ref 61] h 0 0 (am_qV r) := by
  unfold f_Reader_readSpan at hf
  refine am_Ct.of (by decide) rfl (Nat.le_of_ble_eq_true rfl) (ls := [(0, .ref 61)]) rfl ?_
  refine g_aload_n (i := 0) (by decide +kernel) rfl ?_
  refine g_iconst (z := 0) (v := 0) (by decide +kernel) rfl ?_
  refine g_aload_n (i := 0) (by decide +kernel) rfl ?_
  refine x_getr (hs.k k_61) F_Reader_12 (by decide +kernel) rfl (hs.r r_61_0) ?_
  refine x_geti (hs.k k_62) F_Reader_86 (by decide +kernel) rfl ?_
  refine g_iconst (z := 1) (v := 1) (by decide +kernel) rfl ?_
  refine g_isub (by decide +kernel) ?_
  refine x_callVI (as := [.int (0 : Int32), .int ((h.2.1 62 1) - (1 : Int32))]) Vi_Reader_readNumber Vs_Reader_readNumber (hs.k k_61) rfl hf (fun q hq => t_Reader_readNumber hs  hq) Y_Reader_readNumber L_Reader_79 (by decide +kernel) rfl rfl (Nat.le_of_ble_eq_true rfl) (by decide) (Nat.le_refl _) (Nat.le_refl _) (fun q1 hf hs => ?_)
  refine g_istore_n (i := 1) (by decide +kernel) rfl (by decide) (ls1 := [(0, .ref 61), (1, .int q1.1)]) rfl ?_
  refine g_aload_n (i := 0) (by decide +kernel) rfl ?_
  refine g_bipush (z := 105) (v := 105) (by decide +kernel) rfl ?_
  refine x_callVB (as := [.int (105 : Int32)]) Vi_Reader_take Vs_Reader_take (hs.k k_61) rfl hf (fun q hq => t_Reader_take hs  hq) Y_Reader_take L_Reader_114 (by decide +kernel) rfl rfl (Nat.le_of_ble_eq_true rfl) (by decide) (Nat.le_refl _) (Nat.le_refl _) (fun q2 hf hs => ?_)
  refine x_ifb_eq (off := 14) (tgt := 35) hf (by decide +kernel) (by decide) (fun c3 hf => ?_) (fun c3 hf => ?_)
  · refine g_aload_n (i := 0) (by decide +kernel) rfl ?_
    refine g_bipush (z := 104) (v := 104) (by decide +kernel) rfl ?_
    refine x_callVV (as := [.int (104 : Int32)]) Vi_Reader_expect Vs_Reader_expect (hs.k k_61) rfl hf (fun q hq => t_Reader_expect hs  hq) Y_Reader_expect L_Reader_68 (by decide +kernel) rfl rfl (Nat.le_of_ble_eq_true rfl) (by decide) (Nat.le_refl _) (Nat.le_refl _) (fun q4 hf hs => ?_)
    refine g_aload_n (i := 0) (by decide +kernel) rfl ?_
    refine x_getr (hs.k k_61) F_Reader_12 (by decide +kernel) rfl (hs.r r_61_0) ?_
    refine x_getr (hs.k k_62) F_Reader_118 (by decide +kernel) rfl (hs.r r_62_6) ?_
    refine g_iload_n (i := 1) (by decide +kernel) rfl ?_
    refine g_aload_n (i := 0) (by decide +kernel) rfl ?_
    refine g_iconst (z := 0) (v := 0) (by decide +kernel) rfl ?_
    refine g_aload_n (i := 0) (by decide +kernel) rfl ?_
    refine x_getr (hs.k k_61) F_Reader_12 (by decide +kernel) rfl (hs.r r_61_0) ?_
    refine x_geti (hs.k k_62) F_Reader_83 (by decide +kernel) rfl ?_
    refine g_iconst (z := 1) (v := 1) (by decide +kernel) rfl ?_
    refine g_isub (by decide +kernel) ?_
    refine x_callVI (as := [.int (0 : Int32), .int ((q4.2.1 62 0) - (1 : Int32))]) Vi_Reader_readNumber Vs_Reader_readNumber (hs.k k_61) rfl hf (fun q hq => t_Reader_readNumber hs  hq) Y_Reader_readNumber L_Reader_79 (by decide +kernel) rfl rfl (Nat.le_of_ble_eq_true rfl) (by decide) (Nat.le_refl _) (Nat.le_refl _) (fun q5 hf hs => ?_)
    refine x_iast hf hs (hs.k k_63) (by decide +kernel) (fun h6 hf hs => ?_)
    exact x_vret hf hs (by decide +kernel) rfl (Nat.le_refl _) (Nat.le_refl _)
  · refine g_aload_n (i := 0) (by decide +kernel) rfl ?_
    refine x_getr (hs.k k_61) F_Reader_12 (by decide +kernel) rfl (hs.r r_61_0) ?_
    refine x_getr (hs.k k_62) F_Reader_118 (by decide +kernel) rfl (hs.r r_62_6) ?_
    refine g_iload_n (i := 1) (by decide +kernel) rfl ?_
    refine g_iconst (z := (-1)) (v := (-1)) (by decide +kernel) rfl ?_
    refine x_iast hf hs (hs.k k_63) (by decide +kernel) (fun h7 hf hs => ?_)
    exact x_vret hf hs (by decide +kernel) rfl (Nat.le_refl _) (Nat.le_refl _)
def f_Reader_readSpot  (h : am_H) : Option (Int32 × am_H) :=
  (f_Reader_readNumber (0 : Int32) ((h.2.1 62 0) - (1 : Int32)) h).bind fun q1 =>
  (f_Reader_take (107 : Int32) q1.2).bind fun q2 =>
  (if q2.1 = true then
    some (((2 : Int32) * q1.1), q2.2)
  else
    (f_Reader_expect (108 : Int32) q2.2).bind fun q4 =>
    some ((((2 : Int32) * q1.1) + (1 : Int32)), q4))
set_option maxRecDepth 100000 in
set_option maxHeartbeats 4000000 in
theorem t_Reader_readSpot  {h : am_H} (hs : am_Sh h)  {r : Int32 × am_H} (hf : f_Reader_readSpot  h = some r) : am_Ct 3 M_Reader_readSpot [.ref 61] h 0 0 (am_qI r) := by
  unfold f_Reader_readSpot at hf
  refine am_Ct.of (by decide) rfl (Nat.le_of_ble_eq_true rfl) (ls := [(0, .ref 61)]) rfl ?_
  refine g_aload_n (i := 0) (by decide +kernel) rfl ?_
  refine g_iconst (z := 0) (v := 0) (by decide +kernel) rfl ?_
  refine g_aload_n (i := 0) (by decide +kernel) rfl ?_
  refine x_getr (hs.k k_61) F_Reader_12 (by decide +kernel) rfl (hs.r r_61_0) ?_
  refine x_geti (hs.k k_62) F_Reader_83 (by decide +kernel) rfl ?_
  refine g_iconst (z := 1) (v := 1) (by decide +kernel) rfl ?_
  refine g_isub (by decide +kernel) ?_
  refine x_callVI (as := [.int (0 : Int32), .int ((h.2.1 62 0) - (1 : Int32))]) Vi_Reader_readNumber Vs_Reader_readNumber (hs.k k_61) rfl hf (fun q hq => t_Reader_readNumber hs  hq) Y_Reader_readNumber L_Reader_79 (by decide +kernel) rfl rfl (Nat.le_of_ble_eq_true rfl) (by decide) (Nat.le_refl _) (Nat.le_refl _) (fun q1 hf hs => ?_)
  refine g_istore_n (i := 1) (by decide +kernel) rfl (by decide) (ls1 := [(0, .ref 61), (1, .int q1.1)]) rfl ?_
  refine g_aload_n (i := 0) (by decide +kernel) rfl ?_
  refine g_bipush (z := 107) (v := 107) (by decide +kernel) rfl ?_
  refine x_callVB (as := [.int (107 : Int32)]) Vi_Reader_take Vs_Reader_take (hs.k k_61) rfl hf (fun q hq => t_Reader_take hs  hq) Y_Reader_take L_Reader_114 (by decide +kernel) rfl rfl (Nat.le_of_ble_eq_true rfl) (by decide) (Nat.le_refl _) (Nat.le_refl _) (fun q2 hf hs => ?_)
  refine x_ifb_eq (off := 7) (tgt := 28) hf (by decide +kernel) (by decide) (fun c3 hf => ?_) (fun c3 hf => ?_)
  · refine g_aload_n (i := 0) (by decide +kernel) rfl ?_
    refine g_bipush (z := 108) (v := 108) (by decide +kernel) rfl ?_
    refine x_callVV (as := [.int (108 : Int32)]) Vi_Reader_expect Vs_Reader_expect (hs.k k_61) rfl hf (fun q hq => t_Reader_expect hs  hq) Y_Reader_expect L_Reader_68 (by decide +kernel) rfl rfl (Nat.le_of_ble_eq_true rfl) (by decide) (Nat.le_refl _) (Nat.le_refl _) (fun q4 hf hs => ?_)
    refine g_iconst (z := 2) (v := 2) (by decide +kernel) rfl ?_
    refine g_iload_n (i := 1) (by decide +kernel) rfl ?_
    refine g_imul (by decide +kernel) ?_
    refine g_iconst (z := 1) (v := 1) (by decide +kernel) rfl ?_
    refine g_iadd (by decide +kernel) ?_
    exact x_iret hf hs (by decide +kernel) rfl (Nat.le_refl _) (Nat.le_refl _)
  · refine g_iconst (z := 2) (v := 2) (by decide +kernel) rfl ?_
    refine g_iload_n (i := 1) (by decide +kernel) rfl ?_
    refine g_imul (by decide +kernel) ?_
    exact x_iret hf hs (by decide +kernel) rfl (Nat.le_refl _) (Nat.le_refl _)
