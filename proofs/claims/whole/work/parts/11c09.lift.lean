def f_Weeks_bestChange_L37  : Nat → Int32 → Int32 → Int32 → Int32 → am_H → Option (Int32 × Int32 × Int32 × am_H)
  | 0, _, _, _, _, _ => none
  | n + 1, v1, v2, v3, v4, h =>
    (if (h.2.1 1 0) < v4 then
      some (v1, v2, v4, h)
    else
      (f_Weeks_choice v4 h).bind fun q6 =>
      (am_wr h 92 6 v3 q6).bind fun h7 =>
      (f_Weeks_doneInTime 92 6 h7).bind fun q8 =>
      (f_Integer_bitCount q8 h7).bind fun q9 =>
      (if q9 ≤ v1 then
        f_Weeks_bestChange_L37  n v1 v2 v3 (v4 + (1 : Int32)) h7
      else
        (if (h7.2.1 1 0) ≤ v4 then
          f_Weeks_bestChange_L37  n q9 (((10 : Int32) * v3) + (9 : Int32)) v3 (v4 + (1 : Int32)) h7
        else
          f_Weeks_bestChange_L37  n q9 (((10 : Int32) * v3) + v4) v3 (v4 + (1 : Int32)) h7)))
set_option maxRecDepth 100000 in
set_option maxHeartbeats 4000000 in
theorem t_Weeks_bestChange_L37   {Q : Option Value → am_H → Prop} : ∀ (n : Nat) (v1 : Int32) (v2 : Int32) (v3 : Int32) (v4 : Int32) (h : am_H) (q : Int32 × Int32 × Int32 × am_H), am_Sh h → f_Weeks_bestChange_L37  n v1 v2 v3 v4 h = some q → (am_Sh q.2.2.2 → am_G 5 M_Weeks_bestChange 0 0 Q 114 [(0, .ref 91), (1, .int q.1), (2, .int q.2.1), (3, .int v3), (4, .int q.2.2.1)] [] q.2.2.2 0 0) → am_G 5 M_Weeks_bestChange 0 0 Q 37 [(0, .ref 91), (1, .int v1), (2, .int v2), (3, .int v3), (4, .int v4)] [] h 0 0 := by
  intro n
  induction n with
  | zero =>
    intro v1 v2 v3 v4 h q hs hf kont
    rw [f_Weeks_bestChange_L37] at hf
    cases hf
  | succ n ih =>
    intro v1 v2 v3 v4 h q hs hf kont
    rw [f_Weeks_bestChange_L37] at hf
    refine g_iload (i := 4) (by decide +kernel) rfl ?_
    refine g_aload_n (i := 0) (by decide +kernel) rfl ?_
    refine x_getr (hs.k k_91) F_Weeks_50 (by decide +kernel) rfl (hs.r r_91_0) ?_
    refine x_geti (hs.k k_1) F_Weeks_130 (by decide +kernel) rfl ?_
    refine x_icmp_gt (off := 68) (tgt := 114) hf (by decide +kernel) (by decide) (fun c5 hf => ?_) (fun c5 hf => ?_)
    · cases hf
      exact am_G.forget (am_subp [0, 1, 2, 3, 4] rfl) (kont hs)
    · refine g_aload_n (i := 0) (by decide +kernel) rfl ?_
      refine x_getr (hs.k k_91) F_Weeks_9 (by decide +kernel) rfl (hs.r r_91_3) ?_
      refine g_iload_n (i := 3) (by decide +kernel) rfl ?_
      refine g_aload_n (i := 0) (by decide +kernel) rfl ?_
      refine g_iload (i := 4) (by decide +kernel) rfl ?_
      refine x_callVIp (as := [.int v4]) Vi_Weeks_choice Vs_Weeks_choice (hs.k k_91) rfl hf (fun q hq => t_Weeks_choice hs  hq) Y_Weeks_choice L_Weeks_142 (by decide +kernel) rfl rfl (Nat.le_of_ble_eq_true rfl) (by decide) (Nat.le_refl _) (Nat.le_refl _) (fun q6 hf => ?_)
      refine x_iast hf hs (hs.k k_92) (by decide +kernel) (fun h7 hf hs => ?_)
      refine g_aload_n (i := 0) (by decide +kernel) rfl ?_
      refine g_aload_n (i := 0) (by decide +kernel) rfl ?_
      refine x_getr (hs.k k_91) F_Weeks_9 (by decide +kernel) rfl (hs.r r_91_3) ?_
      refine x_callVIp (as := [.ref 92]) Vi_Weeks_doneInTime Vs_Weeks_doneInTime (hs.k k_91) rfl hf (fun q hq => t_Weeks_doneInTime hs k_92 hq) Y_Weeks_doneInTime L_Weeks_133 (by decide +kernel) rfl rfl (Nat.le_of_ble_eq_true rfl) (by decide) (Nat.le_refl _) (Nat.le_refl _) (fun q8 hf => ?_)
      refine x_callSIp (as := [.int q8]) St_Integer_bitCount hf (fun q hq => t_Integer_bitCount hs  hq) Y_Integer_bitCount L_Weeks_137 (by decide +kernel) rfl rfl (Nat.le_of_ble_eq_true rfl) (by decide) (Nat.le_refl _) (Nat.le_refl _) (fun q9 hf => ?_)
      refine g_istore (i := 5) (by decide +kernel) rfl (by decide) (ls1 := [(0, .ref 91), (1, .int v1), (2, .int v2), (3, .int v3), (4, .int v4), (5, .int q9)]) rfl ?_
      refine g_iload (i := 5) (by decide +kernel) rfl ?_
      refine g_iload_n (i := 1) (by decide +kernel) rfl ?_
      refine x_icmp_le (off := 31) (tgt := 108) hf (by decide +kernel) (by decide) (fun c10 hf => ?_) (fun c10 hf => ?_)
      · refine g_iinc (i := 4) (z := 1) (v := (v4 + (1 : Int32))) (by decide +kernel) rfl rfl rfl (by decide) (ls1 := [(0, .ref 91), (1, .int v1), (2, .int v2), (3, .int v3), (4, .int (v4 + (1 : Int32))), (5, .int q9)]) rfl ?_
        refine g_goto (off := (-74)) (tgt := 37) (by decide +kernel) (by decide) ?_
        exact am_G.forget (am_subp [0, 1, 2, 3, 4] rfl) (ih _ _ _ _ _ _ hs hf kont)
      · refine g_iload (i := 5) (by decide +kernel) rfl ?_
        refine g_istore_n (i := 1) (by decide +kernel) rfl (by decide) (ls1 := [(0, .ref 91), (1, .int q9), (2, .int v2), (3, .int v3), (4, .int v4), (5, .int q9)]) rfl ?_
        refine g_bipush (z := 10) (v := 10) (by decide +kernel) rfl ?_
        refine g_iload_n (i := 3) (by decide +kernel) rfl ?_
        refine g_imul (by decide +kernel) ?_
        refine g_iload (i := 4) (by decide +kernel) rfl ?_
        refine g_aload_n (i := 0) (by decide +kernel) rfl ?_
        refine x_getr (hs.k k_91) F_Weeks_50 (by decide +kernel) rfl (hs.r r_91_0) ?_
        refine x_geti (hs.k k_1) F_Weeks_130 (by decide +kernel) rfl ?_
        refine x_icmp_ge (off := 8) (tgt := 104) hf (by decide +kernel) (by decide) (fun c11 hf => ?_) (fun c11 hf => ?_)
        · refine g_bipush (z := 9) (v := 9) (by decide +kernel) rfl ?_
          refine g_iadd (by decide +kernel) ?_
          refine g_istore_n (i := 2) (by decide +kernel) rfl (by decide) (ls1 := [(0, .ref 91), (1, .int q9), (2, .int (((10 : Int32) * v3) + (9 : Int32))), (3, .int v3), (4, .int v4), (5, .int q9)]) rfl ?_
          refine g_iinc (i := 4) (z := 1) (v := (v4 + (1 : Int32))) (by decide +kernel) rfl rfl rfl (by decide) (ls1 := [(0, .ref 91), (1, .int q9), (2, .int (((10 : Int32) * v3) + (9 : Int32))), (3, .int v3), (4, .int (v4 + (1 : Int32))), (5, .int q9)]) rfl ?_
          refine g_goto (off := (-74)) (tgt := 37) (by decide +kernel) (by decide) ?_
          exact am_G.forget (am_subp [0, 1, 2, 3, 4] rfl) (ih _ _ _ _ _ _ hs hf kont)
        · refine g_iload (i := 4) (by decide +kernel) rfl ?_
          refine g_goto (off := 5) (tgt := 106) (by decide +kernel) (by decide) ?_
          refine g_iadd (by decide +kernel) ?_
          refine g_istore_n (i := 2) (by decide +kernel) rfl (by decide) (ls1 := [(0, .ref 91), (1, .int q9), (2, .int (((10 : Int32) * v3) + v4)), (3, .int v3), (4, .int v4), (5, .int q9)]) rfl ?_
          refine g_iinc (i := 4) (z := 1) (v := (v4 + (1 : Int32))) (by decide +kernel) rfl rfl rfl (by decide) (ls1 := [(0, .ref 91), (1, .int q9), (2, .int (((10 : Int32) * v3) + v4)), (3, .int v3), (4, .int (v4 + (1 : Int32))), (5, .int q9)]) rfl ?_
          refine g_goto (off := (-74)) (tgt := 37) (by decide +kernel) (by decide) ?_
          exact am_G.forget (am_subp [0, 1, 2, 3, 4] rfl) (ih _ _ _ _ _ _ hs hf kont)
def f_Weeks_bestChange_L23  : Nat → Int32 → Int32 → Int32 → am_H → Option (Int32 × Int32 × Int32 × am_H)
  | 0, _, _, _, _ => none
  | n + 1, v1, v2, v3, h =>
    (if (h.2.1 1 1) ≤ v3 then
      some (v1, v2, v3, h)
    else
      (f_Weeks_bestChange_L37  am_fu v1 v2 v3 (0 : Int32) h).bind fun q12 =>
      (am_rd (q12.2.2.2.2.1 11) 6 v3).bind fun x13 =>
      (am_wr q12.2.2.2 92 6 v3 x13).bind fun h14 =>
      f_Weeks_bestChange_L23  n q12.1 q12.2.1 (v3 + (1 : Int32)) h14)
set_option maxRecDepth 100000 in
set_option maxHeartbeats 4000000 in
theorem t_Weeks_bestChange_L23   {Q : Option Value → am_H → Prop} : ∀ (n : Nat) (v1 : Int32) (v2 : Int32) (v3 : Int32) (h : am_H) (q : Int32 × Int32 × Int32 × am_H), am_Sh h → f_Weeks_bestChange_L23  n v1 v2 v3 h = some q → (am_Sh q.2.2.2 → am_G 5 M_Weeks_bestChange 0 0 Q 135 [(0, .ref 91), (1, .int q.1), (2, .int q.2.1), (3, .int q.2.2.1)] [] q.2.2.2 0 0) → am_G 5 M_Weeks_bestChange 0 0 Q 23 [(0, .ref 91), (1, .int v1), (2, .int v2), (3, .int v3)] [] h 0 0 := by
  intro n
  induction n with
  | zero =>
    intro v1 v2 v3 h q hs hf kont
    rw [f_Weeks_bestChange_L23] at hf
    cases hf
  | succ n ih =>
    intro v1 v2 v3 h q hs hf kont
    rw [f_Weeks_bestChange_L23] at hf
    refine g_iload_n (i := 3) (by decide +kernel) rfl ?_
    refine g_aload_n (i := 0) (by decide +kernel) rfl ?_
    refine x_getr (hs.k k_91) F_Weeks_50 (by decide +kernel) rfl (hs.r r_91_0) ?_
    refine x_geti (hs.k k_1) F_Weeks_121 (by decide +kernel) rfl ?_
    refine x_icmp_ge (off := 104) (tgt := 135) hf (by decide +kernel) (by decide) (fun c4 hf => ?_) (fun c4 hf => ?_)
    · cases hf
      exact am_G.forget (am_subp [0, 1, 2, 3] rfl) (kont hs)
    · refine g_iconst (z := 0) (v := 0) (by decide +kernel) rfl ?_
      refine g_istore (i := 4) (by decide +kernel) rfl (by decide) (ls1 := [(0, .ref 91), (1, .int v1), (2, .int v2), (3, .int v3), (4, .int (0 : Int32))]) rfl ?_
      obtain ⟨q12, hqq12, hf⟩ := Option.bind_eq_some_iff.mp hf
      refine am_G.forget (am_subp [0, 1, 2, 3, 4] rfl) (t_Weeks_bestChange_L37  am_fu _ _ _ _ _ q12 hs hqq12 (fun hs => ?_))
      refine g_aload_n (i := 0) (by decide +kernel) rfl ?_
      refine x_getr (hs.k k_91) F_Weeks_9 (by decide +kernel) rfl (hs.r r_91_3) ?_
      refine g_iload_n (i := 3) (by decide +kernel) rfl ?_
      refine g_aload_n (i := 0) (by decide +kernel) rfl ?_
      refine x_getr (hs.k k_91) F_Weeks_54 (by decide +kernel) rfl (hs.r r_91_1) ?_
      refine x_getr (hs.k k_10) F_Weeks_115 (by decide +kernel) rfl (hs.r r_10_3) ?_
      refine g_iload_n (i := 3) (by decide +kernel) rfl ?_
      refine x_iald hf (hs.k k_11) (by decide +kernel) (fun x13 hf => ?_)
      refine x_iast hf hs (hs.k k_92) (by decide +kernel) (fun h14 hf hs => ?_)
      refine g_iinc (i := 3) (z := 1) (v := (v3 + (1 : Int32))) (by decide +kernel) rfl rfl rfl (by decide) (ls1 := [(0, .ref 91), (1, .int q12.1), (2, .int q12.2.1), (3, .int (v3 + (1 : Int32))), (4, .int q12.2.2.1)]) rfl ?_
      refine g_goto (off := (-109)) (tgt := 23) (by decide +kernel) (by decide) ?_
      exact am_G.forget (am_subp [0, 1, 2, 3] rfl) (ih _ _ _ _ _ hs hf kont)
def f_Weeks_bestChange  (h : am_H) : Option (Int32 × am_H) :=
  (f_Weeks_doneInTime 11 6 h).bind fun q1 =>
  (f_Integer_bitCount q1 h).bind fun q2 =>
  (f_Weeks_takeWeek  h).bind fun q3 =>
  (f_Weeks_bestChange_L23  am_fu q2 (-1 : Int32) (0 : Int32) q3).bind fun q15 =>
  some (q15.2.1, q15.2.2.2)
set_option maxRecDepth 100000 in
set_option maxHeartbeats 4000000 in
theorem t_Weeks_bestChange  {h : am_H} (hs : am_Sh h)  {r : Int32 × am_H} (hf : f_Weeks_bestChange  h = some r) : am_Ct 5 M_Weeks_bestChange [.ref 91] h 0 0 (am_qI r) := by
  unfold f_Weeks_bestChange at hf
  refine am_Ct.of (by decide) rfl (Nat.le_of_ble_eq_true rfl) (ls := [(0, .ref 91)]) rfl ?_
  refine g_aload_n (i := 0) (by decide +kernel) rfl ?_
  refine g_aload_n (i := 0) (by decide +kernel) rfl ?_
  refine x_getr (hs.k k_91) F_Weeks_54 (by decide +kernel) rfl (hs.r r_91_1) ?_
  refine x_getr (hs.k k_10) F_Weeks_115 (by decide +kernel) rfl (hs.r r_10_3) ?_
  refine x_callVIp (as := [.ref 11]) Vi_Weeks_doneInTime Vs_Weeks_doneInTime (hs.k k_91) rfl hf (fun q hq => t_Weeks_doneInTime hs k_11 hq) Y_Weeks_doneInTime L_Weeks_133 (by decide +kernel) rfl rfl (Nat.le_of_ble_eq_true rfl) (by decide) (Nat.le_refl _) (Nat.le_refl _) (fun q1 hf => ?_)
  refine x_callSIp (as := [.int q1]) St_Integer_bitCount hf (fun q hq => t_Integer_bitCount hs  hq) Y_Integer_bitCount L_Weeks_137 (by decide +kernel) rfl rfl (Nat.le_of_ble_eq_true rfl) (by decide) (Nat.le_refl _) (Nat.le_refl _) (fun q2 hf => ?_)
  refine g_istore_n (i := 1) (by decide +kernel) rfl (by decide) (ls1 := [(0, .ref 91), (1, .int q2)]) rfl ?_
  refine g_iconst (z := (-1)) (v := (-1)) (by decide +kernel) rfl ?_
  refine g_istore_n (i := 2) (by decide +kernel) rfl (by decide) (ls1 := [(0, .ref 91), (1, .int q2), (2, .int (-1 : Int32))]) rfl ?_
  refine g_aload_n (i := 0) (by decide +kernel) rfl ?_
  refine x_callVV (as := []) Vi_Weeks_takeWeek Vs_Weeks_takeWeek (hs.k k_91) rfl hf (fun q hq => t_Weeks_takeWeek hs  hq) Y_Weeks_takeWeek L_Weeks_118 (by decide +kernel) rfl rfl (Nat.le_of_ble_eq_true rfl) (by decide) (Nat.le_refl _) (Nat.le_refl _) (fun q3 hf hs => ?_)
  refine g_iconst (z := 0) (v := 0) (by decide +kernel) rfl ?_
  refine g_istore_n (i := 3) (by decide +kernel) rfl (by decide) (ls1 := [(0, .ref 91), (1, .int q2), (2, .int (-1 : Int32)), (3, .int (0 : Int32))]) rfl ?_
  obtain ⟨q15, hqq15, hf⟩ := Option.bind_eq_some_iff.mp hf
  refine am_G.forget (am_subp [0, 1, 2, 3] rfl) (t_Weeks_bestChange_L23  am_fu _ _ _ _ q15 hs hqq15 (fun hs => ?_))
  refine g_iload_n (i := 2) (by decide +kernel) rfl ?_
  exact x_iret hf hs (by decide +kernel) rfl (Nat.le_refl _) (Nat.le_refl _)
def f_Top_change  (h : am_H) : Option (Int32 × am_H) :=
  (f_Weeks_bestChange  h).bind fun q1 =>
  some (q1.1, q1.2)
set_option maxRecDepth 100000 in
set_option maxHeartbeats 4000000 in
theorem t_Top_change  {h : am_H} (hs : am_Sh h)  {r : Int32 × am_H} (hf : f_Top_change  h = some r) : am_Ct 6 M_Top_change [.ref 0] h 0 0 (am_qI r) := by
  unfold f_Top_change at hf
  refine am_Ct.of (by decide) rfl (Nat.le_of_ble_eq_true rfl) (ls := [(0, .ref 0)]) rfl ?_
  refine g_aload_n (i := 0) (by decide +kernel) rfl ?_
  refine x_getr (hs.k k_0) F_Top_72 (by decide +kernel) rfl (hs.r r_0_10) ?_
  refine x_callVI (as := []) Vi_Weeks_bestChange Vs_Weeks_bestChange (hs.k k_91) rfl hf (fun q hq => t_Weeks_bestChange hs  hq) Y_Weeks_bestChange L_Top_285 (by decide +kernel) rfl rfl (Nat.le_of_ble_eq_true rfl) (by decide) (Nat.le_refl _) (Nat.le_refl _) (fun q1 hf hs => ?_)
  exact x_iret hf hs (by decide +kernel) rfl (Nat.le_refl _) (Nat.le_refl _)
def f_Weeks_allCome_L2 (p1 : Int32) : Nat → Int32 → am_H → Option (Bool)
  | 0, _, _ => none
  | n + 1, v2, h =>
    (if (h.2.1 91 11) ≤ v2 then
      some true
    else
      (f_Weeks_openComes v2 p1 h).bind fun q2 =>
      (if q2 = true then
        f_Weeks_allCome_L2 p1 n (v2 + (1 : Int32)) h
      else
        some false))
set_option maxRecDepth 100000 in
set_option maxHeartbeats 4000000 in
theorem t_Weeks_allCome_L2 {p1 : Int32}  : ∀ (n : Nat) (v2 : Int32) (h : am_H) (r : Bool), am_Sh h → f_Weeks_allCome_L2 p1 n v2 h = some r → am_G 4 M_Weeks_allCome 0 0 (am_pB h r) 2 [(0, .ref 91), (1, .int p1), (2, .int v2)] [] h 0 0 := by
  intro n
  induction n with
  | zero =>
    intro v2 h r hs hf
    rw [f_Weeks_allCome_L2] at hf
    cases hf
  | succ n ih =>
    intro v2 h r hs hf
    rw [f_Weeks_allCome_L2] at hf
    refine g_iload_n (i := 2) (by decide +kernel) rfl ?_
    refine g_aload_n (i := 0) (by decide +kernel) rfl ?_
    refine x_geti (hs.k k_91) F_Weeks_38 (by decide +kernel) rfl ?_
    refine x_icmp_ge (off := 20) (tgt := 27) hf (by decide +kernel) (by decide) (fun c1 hf => ?_) (fun c1 hf => ?_)
    · refine g_iconst (z := 1) (v := 1) (by decide +kernel) rfl ?_
      exact x_zretp rfl hf (by decide +kernel) rfl (Nat.le_refl _) (Nat.le_refl _)
    · refine g_aload_n (i := 0) (by decide +kernel) rfl ?_
      refine g_iload_n (i := 2) (by decide +kernel) rfl ?_
      refine g_iload_n (i := 1) (by decide +kernel) rfl ?_
      refine x_callVBp (as := [.int v2, .int p1]) Vi_Weeks_openComes Vs_Weeks_openComes (hs.k k_91) rfl hf (fun q hq => t_Weeks_openComes hs  hq) Y_Weeks_openComes L_Weeks_190 (by decide +kernel) rfl rfl (Nat.le_of_ble_eq_true rfl) (by decide) (Nat.le_refl _) (Nat.le_refl _) (fun q2 hf => ?_)
      refine x_ifb_ne (off := 5) (tgt := 21) hf (by decide +kernel) (by decide) (fun c3 hf => ?_) (fun c3 hf => ?_)
      · refine g_iinc (i := 2) (z := 1) (v := (v2 + (1 : Int32))) (by decide +kernel) rfl rfl rfl (by decide) (ls1 := [(0, .ref 91), (1, .int p1), (2, .int (v2 + (1 : Int32)))]) rfl ?_
        refine g_goto (off := (-22)) (tgt := 2) (by decide +kernel) (by decide) ?_
        exact am_G.forget (am_subp [0, 1, 2] rfl) (ih _ _ _ hs hf)
      · refine g_iconst (z := 0) (v := 0) (by decide +kernel) rfl ?_
        exact x_zretp rfl hf (by decide +kernel) rfl (Nat.le_refl _) (Nat.le_refl _)
def f_Weeks_allCome (p1 : Int32) (h : am_H) : Option (Bool) :=
  f_Weeks_allCome_L2 p1 am_fu (0 : Int32) h
set_option maxRecDepth 100000 in
set_option maxHeartbeats 4000000 in
theorem t_Weeks_allCome {p1 : Int32} {h : am_H} (hs : am_Sh h)  {r : Bool} (hf : f_Weeks_allCome p1 h = some r) : am_Ct 4 M_Weeks_allCome [.ref 91, .int p1] h 0 0 (am_pB h r) := by
  unfold f_Weeks_allCome at hf
  refine am_Ct.of (by decide) rfl (Nat.le_of_ble_eq_true rfl) (ls := [(0, .ref 91), (1, .int p1)]) rfl ?_
  refine g_iconst (z := 0) (v := 0) (by decide +kernel) rfl ?_
  refine g_istore_n (i := 2) (by decide +kernel) rfl (by decide) (ls1 := [(0, .ref 91), (1, .int p1), (2, .int (0 : Int32))]) rfl ?_
  exact am_G.forget (am_subp [0, 1, 2] rfl) (t_Weeks_allCome_L2  am_fu _ _ _ hs hf)
def f_Weeks_weeksOf_L4 (p1 : Int32) : Nat → Int32 → Int32 → am_H → Option (Int32 × Int32)
  | 0, _, _, _ => none
  | n + 1, v2, v3, h =>
    (if p1 ≤ v3 then
      some (v2, v3)
    else
      f_Weeks_weeksOf_L4 p1 n (v2 * ((h.2.1 1 0) + (1 : Int32))) (v3 + (1 : Int32)) h)
set_option maxRecDepth 100000 in
set_option maxHeartbeats 4000000 in
theorem t_Weeks_weeksOf_L4 {p1 : Int32}  {Q : Option Value → am_H → Prop} : ∀ (n : Nat) (v2 : Int32) (v3 : Int32) (h : am_H) (q : Int32 × Int32), am_Sh h → f_Weeks_weeksOf_L4 p1 n v2 v3 h = some q → (am_G 0 M_Weeks_weeksOf 0 0 Q 27 [(0, .ref 91), (1, .int p1), (2, .int q.1), (3, .int q.2)] [] h 0 0) → am_G 0 M_Weeks_weeksOf 0 0 Q 4 [(0, .ref 91), (1, .int p1), (2, .int v2), (3, .int v3)] [] h 0 0 := by
  intro n
  induction n with
  | zero =>
    intro v2 v3 h q hs hf kont
    rw [f_Weeks_weeksOf_L4] at hf
    cases hf
  | succ n ih =>
    intro v2 v3 h q hs hf kont
    rw [f_Weeks_weeksOf_L4] at hf
    refine g_iload_n (i := 3) (by decide +kernel) rfl ?_
    refine g_iload_n (i := 1) (by decide +kernel) rfl ?_
    refine x_icmp_ge (off := 21) (tgt := 27) hf (by decide +kernel) (by decide) (fun c1 hf => ?_) (fun c1 hf => ?_)
    · cases hf
      exact am_G.forget (am_subp [0, 1, 2, 3] rfl) kont
    · refine g_iload_n (i := 2) (by decide +kernel) rfl ?_
      refine g_aload_n (i := 0) (by decide +kernel) rfl ?_
      refine x_getr (hs.k k_91) F_Weeks_50 (by decide +kernel) rfl (hs.r r_91_0) ?_
      refine x_geti (hs.k k_1) F_Weeks_130 (by decide +kernel) rfl ?_
      refine g_iconst (z := 1) (v := 1) (by decide +kernel) rfl ?_
      refine g_iadd (by decide +kernel) ?_
      refine g_imul (by decide +kernel) ?_
      refine g_istore_n (i := 2) (by decide +kernel) rfl (by decide) (ls1 := [(0, .ref 91), (1, .int p1), (2, .int (v2 * ((h.2.1 1 0) + (1 : Int32)))), (3, .int v3)]) rfl ?_
      refine g_iinc (i := 3) (z := 1) (v := (v3 + (1 : Int32))) (by decide +kernel) rfl rfl rfl (by decide) (ls1 := [(0, .ref 91), (1, .int p1), (2, .int (v2 * ((h.2.1 1 0) + (1 : Int32)))), (3, .int (v3 + (1 : Int32)))]) rfl ?_
      refine g_goto (off := (-20)) (tgt := 4) (by decide +kernel) (by decide) ?_
      exact am_G.forget (am_subp [0, 1, 2, 3] rfl) (ih _ _ _ _ hs hf kont)
def f_Weeks_weeksOf (p1 : Int32) (h : am_H) : Option (Int32) :=
  (f_Weeks_weeksOf_L4 p1 am_fu (1 : Int32) (0 : Int32) h).bind fun q2 =>
  some q2.1
set_option maxRecDepth 100000 in
set_option maxHeartbeats 4000000 in
theorem t_Weeks_weeksOf {p1 : Int32} {h : am_H} (hs : am_Sh h)  {r : Int32} (hf : f_Weeks_weeksOf p1 h = some r) : am_Ct 0 M_Weeks_weeksOf [.ref 91, .int p1] h 0 0 (am_pI h r) := by
  unfold f_Weeks_weeksOf at hf
  refine am_Ct.of (by decide) rfl (Nat.le_of_ble_eq_true rfl) (ls := [(0, .ref 91), (1, .int p1)]) rfl ?_
  refine g_iconst (z := 1) (v := 1) (by decide +kernel) rfl ?_
  refine g_istore_n (i := 2) (by decide +kernel) rfl (by decide) (ls1 := [(0, .ref 91), (1, .int p1), (2, .int (1 : Int32))]) rfl ?_
  refine g_iconst (z := 0) (v := 0) (by decide +kernel) rfl ?_
  refine g_istore_n (i := 3) (by decide +kernel) rfl (by decide) (ls1 := [(0, .ref 91), (1, .int p1), (2, .int (1 : Int32)), (3, .int (0 : Int32))]) rfl ?_
  obtain ⟨q2, hqq2, hf⟩ := Option.bind_eq_some_iff.mp hf
  refine am_G.forget (am_subp [0, 1, 2, 3] rfl) (t_Weeks_weeksOf_L4  am_fu _ _ _ q2 hs hqq2 ?_)
  refine g_iload_n (i := 2) (by decide +kernel) rfl ?_
  exact x_iretp hf (by decide +kernel) rfl (Nat.le_refl _) (Nat.le_refl _)
def am_M_Tg (t : Nat) : am_M := match t with
  | _ => M_Weeks_tryGood
def f_Weeks_tryGood_L71 (rec : Nat → Int32 → am_H → Option (am_H)) (p1 : Int32) : Nat → Int32 → Int32 → am_H → Option (Int32 × am_H)
  | 0, _, _, _ => none
  | n + 1, v2, v3, h =>
    (if (h.2.1 1 0) < v3 then
      some (v3, h)
    else
      (f_Weeks_choice v3 h).bind fun q8 =>
      (am_wr h 92 6 v2 q8).bind fun h9 =>
      (f_Weeks_stepOpen p1 v2 h9).bind fun q10 =>
      (rec 0 (p1 + (1 : Int32)) q10).bind fun q11 =>
      f_Weeks_tryGood_L71 rec p1 n v2 (v3 + (1 : Int32)) q11)
set_option maxRecDepth 100000 in
set_option maxHeartbeats 4000000 in
theorem t_Weeks_tryGood_L71 {rec : Nat → Int32 → am_H → Option (am_H)} {e : Nat} (hrec : ∀ (t : Nat) (a0 : Int32) (h : am_H), am_Sh h → ∀ q, rec t a0 h = some q → am_Ct e (am_M_Tg t) [.ref 91, .int a0] h 0 0 (am_qV q)) (he : 5 ≤ e) {p1 : Int32}  {Q : Option Value → am_H → Prop} : ∀ (n : Nat) (v2 : Int32) (v3 : Int32) (h : am_H) (q : Int32 × am_H), am_Sh h → f_Weeks_tryGood_L71 rec p1 n v2 v3 h = some q → (am_Sh q.2 → am_G (e + 1) M_Weeks_tryGood 0 0 Q 112 [(0, .ref 91), (1, .int p1), (2, .int v2), (3, .int q.1)] [] q.2 0 0) → am_G (e + 1) M_Weeks_tryGood 0 0 Q 71 [(0, .ref 91), (1, .int p1), (2, .int v2), (3, .int v3)] [] h 0 0 := by
  intro n
  induction n with
  | zero =>
    intro v2 v3 h q hs hf kont
    rw [f_Weeks_tryGood_L71] at hf
    cases hf
  | succ n ih =>
    intro v2 v3 h q hs hf kont
    rw [f_Weeks_tryGood_L71] at hf
    refine g_iload_n (i := 3) (by decide +kernel) rfl ?_
    refine g_aload_n (i := 0) (by decide +kernel) rfl ?_
    refine x_getr (hs.k k_91) F_Weeks_50 (by decide +kernel) rfl (hs.r r_91_0) ?_
    refine x_geti (hs.k k_1) F_Weeks_130 (by decide +kernel) rfl ?_
    refine x_icmp_gt (off := 33) (tgt := 112) hf (by decide +kernel) (by decide) (fun c7 hf => ?_) (fun c7 hf => ?_)
    · cases hf
      exact am_G.forget (am_subp [0, 1, 2, 3] rfl) (kont hs)
    · refine g_aload_n (i := 0) (by decide +kernel) rfl ?_
      refine x_getr (hs.k k_91) F_Weeks_9 (by decide +kernel) rfl (hs.r r_91_3) ?_
      refine g_iload_n (i := 2) (by decide +kernel) rfl ?_
      refine g_aload_n (i := 0) (by decide +kernel) rfl ?_
      refine g_iload_n (i := 3) (by decide +kernel) rfl ?_
      refine x_callVIp (as := [.int v3]) Vi_Weeks_choice Vs_Weeks_choice (hs.k k_91) rfl hf (fun q hq => t_Weeks_choice hs  hq) Y_Weeks_choice L_Weeks_142 (by decide +kernel) rfl rfl (Nat.le_of_ble_eq_true rfl) (by omega) (Nat.le_refl _) (Nat.le_refl _) (fun q8 hf => ?_)
      refine x_iast hf hs (hs.k k_92) (by decide +kernel) (fun h9 hf hs => ?_)
      refine g_aload_n (i := 0) (by decide +kernel) rfl ?_
      refine g_iload_n (i := 1) (by decide +kernel) rfl ?_
      refine g_iload_n (i := 2) (by decide +kernel) rfl ?_
      refine x_callVV (as := [.int p1, .int v2]) Vi_Weeks_stepOpen Vs_Weeks_stepOpen (hs.k k_91) rfl hf (fun q hq => t_Weeks_stepOpen hs  hq) Y_Weeks_stepOpen L_Weeks_180 (by decide +kernel) rfl rfl (Nat.le_of_ble_eq_true rfl) (by omega) (Nat.le_refl _) (Nat.le_refl _) (fun q10 hf hs => ?_)
      refine g_aload_n (i := 0) (by decide +kernel) rfl ?_
      refine g_iload_n (i := 1) (by decide +kernel) rfl ?_
      refine g_iconst (z := 1) (v := 1) (by decide +kernel) rfl ?_
      refine g_iadd (by decide +kernel) ?_
      refine x_callVV (as := [.int (p1 + (1 : Int32))]) Vi_Weeks_tryGood Vs_Weeks_tryGood (hs.k k_91) rfl hf (fun q hq => hrec 0 _ _ hs q hq) Y_Weeks_tryGood L_Weeks_164 (by decide +kernel) rfl rfl (Nat.le_of_ble_eq_true rfl) (by omega) (Nat.le_refl _) (Nat.le_refl _) (fun q11 hf hs => ?_)
      refine g_iinc (i := 3) (z := 1) (v := (v3 + (1 : Int32))) (by decide +kernel) rfl rfl rfl (by decide) (ls1 := [(0, .ref 91), (1, .int p1), (2, .int v2), (3, .int (v3 + (1 : Int32)))]) rfl ?_
      refine g_goto (off := (-38)) (tgt := 71) (by decide +kernel) (by decide) ?_
      exact am_G.forget (am_subp [0, 1, 2, 3] rfl) (ih _ _ _ _ hs hf kont)
def b_Weeks_tryGood (rec : Nat → Int32 → am_H → Option (am_H)) (p1 : Int32) (h : am_H) : Option (am_H) :=
  (f_Weeks_lost p1 h).bind fun q1 =>
  (if q1 ≤ 0 then
    (f_Weeks_allCome p1 h).bind fun q3 =>
    (if q3 = true then
      (f_Weeks_weeksOf ((h.2.1 1 1) - p1) h).bind fun q13 =>
      am_let (am_sI h 91 7 ((h.2.1 91 7) + q13)) fun h14 =>
      some h14
    else
      (if p1 < (h.2.1 1 1) then
        (f_River_hourOfWeek 1 ((h.2.1 10 0) + p1) h).bind fun q6 =>
        (f_Weeks_tryGood_L71 rec p1 am_fu q6 (0 : Int32) h).bind fun q12 =>
        some q12.2
      else
        some h))
  else
    some h)
set_option maxRecDepth 100000 in
set_option maxHeartbeats 4000000 in
theorem tb_Weeks_tryGood {rec : Nat → Int32 → am_H → Option (am_H)} {e : Nat} (hrec : ∀ (t : Nat) (a0 : Int32) (h : am_H), am_Sh h → ∀ q, rec t a0 h = some q → am_Ct e (am_M_Tg t) [.ref 91, .int a0] h 0 0 (am_qV q)) (he : 5 ≤ e) {p1 : Int32} {h : am_H} (hs : am_Sh h)  {r : am_H} (hf : b_Weeks_tryGood rec p1 h = some r) : am_Ct (e + 1) M_Weeks_tryGood [.ref 91, .int p1] h 0 0 (am_qV r) := by
  unfold b_Weeks_tryGood at hf
  refine am_Ct.of (by decide) rfl (Nat.le_of_ble_eq_true rfl) (ls := [(0, .ref 91), (1, .int p1)]) rfl ?_
  refine g_aload_n (i := 0) (by decide +kernel) rfl ?_
  refine g_iload_n (i := 1) (by decide +kernel) rfl ?_
  refine x_callVIp (as := [.int p1]) Vi_Weeks_lost Vs_Weeks_lost (hs.k k_91) rfl hf (fun q hq => t_Weeks_lost hs  hq) Y_Weeks_lost L_Weeks_177 (by decide +kernel) rfl rfl (Nat.le_of_ble_eq_true rfl) (by omega) (Nat.le_refl _) (Nat.le_refl _) (fun q1 hf => ?_)
  refine x_if_le (off := 4) (tgt := 9) hf (by decide +kernel) (by decide) (fun c2 hf => ?_) (fun c2 hf => ?_)
  · refine g_aload_n (i := 0) (by decide +kernel) rfl ?_
    refine g_iload_n (i := 1) (by decide +kernel) rfl ?_
    refine x_callVBp (as := [.int p1]) Vi_Weeks_allCome Vs_Weeks_allCome (hs.k k_91) rfl hf (fun q hq => t_Weeks_allCome hs  hq) Y_Weeks_allCome L_Weeks_184 (by decide +kernel) rfl rfl (Nat.le_of_ble_eq_true rfl) (by omega) (Nat.le_refl _) (Nat.le_refl _) (fun q3 hf => ?_)
    refine x_ifb_eq (off := 26) (tgt := 40) hf (by decide +kernel) (by decide) (fun c4 hf => ?_) (fun c4 hf => ?_)
    · refine g_iload_n (i := 1) (by decide +kernel) rfl ?_
      refine g_aload_n (i := 0) (by decide +kernel) rfl ?_
      refine x_getr (hs.k k_91) F_Weeks_50 (by decide +kernel) rfl (hs.r r_91_0) ?_
      refine x_geti (hs.k k_1) F_Weeks_121 (by decide +kernel) rfl ?_
      refine x_icmp_lt (off := 4) (tgt := 52) hf (by decide +kernel) (by decide) (fun c5 hf => ?_) (fun c5 hf => ?_)
      · refine g_aload_n (i := 0) (by decide +kernel) rfl ?_
        refine x_getr (hs.k k_91) F_Weeks_50 (by decide +kernel) rfl (hs.r r_91_0) ?_
        refine g_aload_n (i := 0) (by decide +kernel) rfl ?_
        refine x_getr (hs.k k_91) F_Weeks_54 (by decide +kernel) rfl (hs.r r_91_1) ?_
        refine x_geti (hs.k k_10) F_Weeks_79 (by decide +kernel) rfl ?_
        refine g_iload_n (i := 1) (by decide +kernel) rfl ?_
        refine g_iadd (by decide +kernel) ?_
        refine x_callVIp (as := [.int ((h.2.1 10 0) + p1)]) Vi_River_hourOfWeek Vs_River_hourOfWeek (hs.k k_1) rfl hf (fun q hq => t_River_hourOfWeek hs (by decide) hq) Y_River_hourOfWeek L_Weeks_145 (by decide +kernel) rfl rfl (Nat.le_of_ble_eq_true rfl) (by omega) (Nat.le_refl _) (Nat.le_refl _) (fun q6 hf => ?_)
        refine g_istore_n (i := 2) (by decide +kernel) rfl (by decide) (ls1 := [(0, .ref 91), (1, .int p1), (2, .int q6)]) rfl ?_
        refine g_iconst (z := 0) (v := 0) (by decide +kernel) rfl ?_
        refine g_istore_n (i := 3) (by decide +kernel) rfl (by decide) (ls1 := [(0, .ref 91), (1, .int p1), (2, .int q6), (3, .int (0 : Int32))]) rfl ?_
        obtain ⟨q12, hqq12, hf⟩ := Option.bind_eq_some_iff.mp hf
        refine am_G.forget (am_subp [0, 1, 2, 3] rfl) (t_Weeks_tryGood_L71 hrec he  am_fu _ _ _ q12 hs hqq12 (fun hs => ?_))
        exact x_vret hf hs (by decide +kernel) rfl (Nat.le_refl _) (Nat.le_refl _)
      · exact x_vret hf hs (by decide +kernel) rfl (Nat.le_refl _) (Nat.le_refl _)
    · refine g_aload_n (i := 0) (by decide +kernel) rfl ?_
      refine g_dup (by decide +kernel) rfl ?_
      refine x_geti (hs.k k_91) F_Weeks_25 (by decide +kernel) rfl ?_
      refine g_aload_n (i := 0) (by decide +kernel) rfl ?_
      refine g_aload_n (i := 0) (by decide +kernel) rfl ?_
      refine x_getr (hs.k k_91) F_Weeks_50 (by decide +kernel) rfl (hs.r r_91_0) ?_
      refine x_geti (hs.k k_1) F_Weeks_121 (by decide +kernel) rfl ?_
      refine g_iload_n (i := 1) (by decide +kernel) rfl ?_
      refine g_isub (by decide +kernel) ?_
      refine x_callVIp (as := [.int ((h.2.1 1 1) - p1)]) Vi_Weeks_weeksOf Vs_Weeks_weeksOf (hs.k k_91) rfl hf (fun q hq => t_Weeks_weeksOf hs  hq) Y_Weeks_weeksOf L_Weeks_187 (by decide +kernel) rfl rfl (Nat.le_of_ble_eq_true rfl) (by omega) (Nat.le_refl _) (Nat.le_refl _) (fun q13 hf => ?_)
      refine g_iadd (by decide +kernel) ?_
      refine x_puti hf hs (hs.k k_91) F_Weeks_25 (by decide +kernel) rfl rfl rfl rfl (fun h14 hf hs => ?_)
      exact x_vret hf hs (by decide +kernel) rfl (Nat.le_refl _) (Nat.le_refl _)
  · exact x_vret hf hs (by decide +kernel) rfl (Nat.le_refl _) (Nat.le_refl _)
def f_Tg : Nat → Nat → Int32 → am_H → Option (am_H)
  | 0, _, _, _ => none
  | n + 1, t, a0, h => match t with
    | _ => b_Weeks_tryGood (f_Tg n) a0 h
theorem t_Tg : ∀ (n t : Nat) (a0 : Int32) (h : am_H), am_Sh h → ∀ q, f_Tg n t a0 h = some q → am_Ct (5 + n) (am_M_Tg t) [.ref 91, .int a0] h 0 0 (am_qV q)
  | 0, t, a0, h, hs, q, hq => by
    rw [f_Tg] at hq
    cases hq
  | n + 1, t, a0, h, hs, q, hq => by
    have hrec := t_Tg n
    match t, hq with
    | _ + 0, hq => exact tb_Weeks_tryGood hrec (by omega) hs hq
def f_Weeks_tryGood (a0 : Int32) (h : am_H) : Option (am_H) := f_Tg 60 0 a0 h
theorem t_Weeks_tryGood {a0 : Int32} {h : am_H} (hs : am_Sh h) {r : am_H} (hf : f_Weeks_tryGood a0 h = some r) : am_Ct 65 M_Weeks_tryGood [.ref 91, .int a0] h 0 0 (am_qV r) := t_Tg 60 0 a0 h hs r hf
def f_Weeks_countGood  (h : am_H) : Option (Int32 × am_H) :=
  (if (h.2.1 91 9) = 0 then
    (f_Weeks_sortPeople  h).bind fun q2 =>
    am_let (am_sI q2 91 7 (0 : Int32)) fun h3 =>
    ((if (h3.2.1 91 13) = 0 then
        (f_Weeks_tryGood (0 : Int32) h3).bind fun q5 =>
        some q5
      else
        some h3) : Option (am_H)).bind fun m6 =>
    am_let (am_sI m6 91 9 (1 : Int32)) fun h7 =>
    some ((h7.2.1 91 7), h7)
  else
    some ((h.2.1 91 7), h))
set_option maxRecDepth 100000 in
set_option maxHeartbeats 4000000 in
theorem t_Weeks_countGood  {h : am_H} (hs : am_Sh h)  {r : Int32 × am_H} (hf : f_Weeks_countGood  h = some r) : am_Ct 66 M_Weeks_countGood [.ref 91] h 0 0 (am_qI r) := by
  unfold f_Weeks_countGood at hf
  refine am_Ct.of (by decide) rfl (Nat.le_of_ble_eq_true rfl) (ls := [(0, .ref 91)]) rfl ?_
  refine g_aload_n (i := 0) (by decide +kernel) rfl ?_
  refine x_geti (hs.k k_91) F_Weeks_32 (by decide +kernel) rfl ?_
  refine x_if_ne (off := 29) (tgt := 33) hf (by decide +kernel) (by decide) (fun c1 hf => ?_) (fun c1 hf => ?_)
  · refine g_aload_n (i := 0) (by decide +kernel) rfl ?_
    refine x_geti (hs.k k_91) F_Weeks_25 (by decide +kernel) rfl ?_
    exact x_iret hf hs (by decide +kernel) rfl (Nat.le_refl _) (Nat.le_refl _)
  · refine g_aload_n (i := 0) (by decide +kernel) rfl ?_
    refine x_callVV (as := []) Vi_Weeks_sortPeople Vs_Weeks_sortPeople (hs.k k_91) rfl hf (fun q hq => t_Weeks_sortPeople hs  hq) Y_Weeks_sortPeople L_Weeks_148 (by decide +kernel) rfl rfl (Nat.le_of_ble_eq_true rfl) (by decide) (Nat.le_refl _) (Nat.le_refl _) (fun q2 hf hs => ?_)
    refine g_aload_n (i := 0) (by decide +kernel) rfl ?_
    refine g_iconst (z := 0) (v := 0) (by decide +kernel) rfl ?_
    refine x_puti hf hs (hs.k k_91) F_Weeks_25 (by decide +kernel) rfl rfl rfl rfl (fun h3 hf hs => ?_)
    refine g_aload_n (i := 0) (by decide +kernel) rfl ?_
    refine x_geti (hs.k k_91) F_Weeks_44 (by decide +kernel) rfl ?_
    obtain ⟨m6, hm28, hf⟩ := Option.bind_eq_some_iff.mp hf
    refine am_cutS (J := 28) (ls' := [(0, .ref 91)]) (st' := []) (h' := m6) (fun hs => ?_) (fun K28 => ?_)
    · refine g_aload_n (i := 0) (by decide +kernel) rfl ?_
      refine g_iconst (z := 1) (v := 1) (by decide +kernel) rfl ?_
      refine x_puti hf hs (hs.k k_91) F_Weeks_32 (by decide +kernel) rfl rfl rfl rfl (fun h7 hf hs => ?_)
      refine g_aload_n (i := 0) (by decide +kernel) rfl ?_
      refine x_geti (hs.k k_91) F_Weeks_25 (by decide +kernel) rfl ?_
      exact x_iret hf hs (by decide +kernel) rfl (Nat.le_refl _) (Nat.le_refl _)
    refine x_if_ne (off := 8) (tgt := 28) hm28 (by decide +kernel) (by decide) (fun c4 hm28 => ?_) (fun c4 hm28 => ?_)
    · cases hm28
      exact am_G.forget (am_subp [0] rfl) (K28 hs)
    · refine g_aload_n (i := 0) (by decide +kernel) rfl ?_
      refine g_iconst (z := 0) (v := 0) (by decide +kernel) rfl ?_
      refine x_callVV (as := [.int (0 : Int32)]) Vi_Weeks_tryGood Vs_Weeks_tryGood (hs.k k_91) rfl hm28 (fun q hq => t_Weeks_tryGood hs  hq) Y_Weeks_tryGood L_Weeks_164 (by decide +kernel) rfl rfl (Nat.le_of_ble_eq_true rfl) (by decide) (Nat.le_refl _) (Nat.le_refl _) (fun q5 hm28 hs => ?_)
      cases hm28
      exact am_G.forget (am_subp [0] rfl) (K28 hs)
def f_Top_weeks  (h : am_H) : Option (Int32 × am_H) :=
  (f_Weeks_countGood  h).bind fun q1 =>
  some (q1.1, q1.2)
set_option maxRecDepth 100000 in
set_option maxHeartbeats 4000000 in
theorem t_Top_weeks  {h : am_H} (hs : am_Sh h)  {r : Int32 × am_H} (hf : f_Top_weeks  h = some r) : am_Ct 67 M_Top_weeks [.ref 0] h 0 0 (am_qI r) := by
  unfold f_Top_weeks at hf
  refine am_Ct.of (by decide) rfl (Nat.le_of_ble_eq_true rfl) (ls := [(0, .ref 0)]) rfl ?_
  refine g_aload_n (i := 0) (by decide +kernel) rfl ?_
  refine x_getr (hs.k k_0) F_Top_72 (by decide +kernel) rfl (hs.r r_0_10) ?_
  refine x_callVI (as := []) Vi_Weeks_countGood Vs_Weeks_countGood (hs.k k_91) rfl hf (fun q hq => t_Weeks_countGood hs  hq) Y_Weeks_countGood L_Top_289 (by decide +kernel) rfl rfl (Nat.le_of_ble_eq_true rfl) (by decide) (Nat.le_refl _) (Nat.le_refl _) (fun q1 hf hs => ?_)
  exact x_iret hf hs (by decide +kernel) rfl (Nat.le_refl _) (Nat.le_refl _)
def f_Weeks_bestShift_L20  : Nat → Int32 → Int32 → Int32 → Int32 → am_H → Option (Int32 × am_H)
  | 0, _, _, _, _, _ => none
  | n + 1, v1, v2, v3, v4, h =>
    (if (h.2.1 1 1) ≤ v4 then
      some (v4, h)
    else
      (f_River_hourOfWeek 1 ((v4 - v3) + (h.2.1 1 1)) h).bind fun q3 =>
      (am_rd (h.2.1 11) 6 q3).bind fun x4 =>
      (am_wr h 92 6 v4 x4).bind fun h5 =>
      f_Weeks_bestShift_L20  n v1 v2 v3 (v4 + (1 : Int32)) h5)
set_option maxRecDepth 100000 in
set_option maxHeartbeats 4000000 in
theorem t_Weeks_bestShift_L20   {Q : Option Value → am_H → Prop} : ∀ (n : Nat) (v1 : Int32) (v2 : Int32) (v3 : Int32) (v4 : Int32) (h : am_H) (q : Int32 × am_H), am_Sh h → f_Weeks_bestShift_L20  n v1 v2 v3 v4 h = some q → (am_Sh q.2 → am_G 5 M_Weeks_bestShift 0 0 Q 72 [(0, .ref 91), (1, .int v1), (2, .int v2), (3, .int v3), (4, .int q.1)] [] q.2 0 0) → am_G 5 M_Weeks_bestShift 0 0 Q 20 [(0, .ref 91), (1, .int v1), (2, .int v2), (3, .int v3), (4, .int v4)] [] h 0 0 := by
  intro n
  induction n with
  | zero =>
    intro v1 v2 v3 v4 h q hs hf kont
    rw [f_Weeks_bestShift_L20] at hf
    cases hf
  | succ n ih =>
    intro v1 v2 v3 v4 h q hs hf kont
    rw [f_Weeks_bestShift_L20] at hf
    refine g_iload (i := 4) (by decide +kernel) rfl ?_
    refine g_aload_n (i := 0) (by decide +kernel) rfl ?_
    refine x_getr (hs.k k_91) F_Weeks_50 (by decide +kernel) rfl (hs.r r_91_0) ?_
    refine x_geti (hs.k k_1) F_Weeks_121 (by decide +kernel) rfl ?_
    refine x_icmp_ge (off := 43) (tgt := 72) hf (by decide +kernel) (by decide) (fun c2 hf => ?_) (fun c2 hf => ?_)
    · cases hf
      exact am_G.forget (am_subp [0, 1, 2, 3, 4] rfl) (kont hs)
    · refine g_aload_n (i := 0) (by decide +kernel) rfl ?_
      refine x_getr (hs.k k_91) F_Weeks_9 (by decide +kernel) rfl (hs.r r_91_3) ?_
      refine g_iload (i := 4) (by decide +kernel) rfl ?_
      refine g_aload_n (i := 0) (by decide +kernel) rfl ?_
      refine x_getr (hs.k k_91) F_Weeks_54 (by decide +kernel) rfl (hs.r r_91_1) ?_
      refine x_getr (hs.k k_10) F_Weeks_115 (by decide +kernel) rfl (hs.r r_10_3) ?_
      refine g_aload_n (i := 0) (by decide +kernel) rfl ?_
      refine x_getr (hs.k k_91) F_Weeks_50 (by decide +kernel) rfl (hs.r r_91_0) ?_
      refine g_iload (i := 4) (by decide +kernel) rfl ?_
      refine g_iload_n (i := 3) (by decide +kernel) rfl ?_
      refine g_isub (by decide +kernel) ?_
      refine g_aload_n (i := 0) (by decide +kernel) rfl ?_
      refine x_getr (hs.k k_91) F_Weeks_50 (by decide +kernel) rfl (hs.r r_91_0) ?_
      refine x_geti (hs.k k_1) F_Weeks_121 (by decide +kernel) rfl ?_
      refine g_iadd (by decide +kernel) ?_
      refine x_callVIp (as := [.int ((v4 - v3) + (h.2.1 1 1))]) Vi_River_hourOfWeek Vs_River_hourOfWeek (hs.k k_1) rfl hf (fun q hq => t_River_hourOfWeek hs (by decide) hq) Y_River_hourOfWeek L_Weeks_145 (by decide +kernel) rfl rfl (Nat.le_of_ble_eq_true rfl) (by decide) (Nat.le_refl _) (Nat.le_refl _) (fun q3 hf => ?_)
      refine x_iald hf (hs.k k_11) (by decide +kernel) (fun x4 hf => ?_)
      refine x_iast hf hs (hs.k k_92) (by decide +kernel) (fun h5 hf hs => ?_)
      refine g_iinc (i := 4) (z := 1) (v := (v4 + (1 : Int32))) (by decide +kernel) rfl rfl rfl (by decide) (ls1 := [(0, .ref 91), (1, .int v1), (2, .int v2), (3, .int v3), (4, .int (v4 + (1 : Int32)))]) rfl ?_
      refine g_goto (off := (-49)) (tgt := 20) (by decide +kernel) (by decide) ?_
      exact am_G.forget (am_subp [0, 1, 2, 3, 4] rfl) (ih _ _ _ _ _ _ hs hf kont)
def f_Weeks_bestShift_L6  : Nat → Int32 → Int32 → Int32 → am_H → Option (Int32 × Int32 × Int32 × am_H)
  | 0, _, _, _, _ => none
  | n + 1, v1, v2, v3, h =>
    (if (h.2.1 1 1) ≤ v3 then
      some (v1, v2, v3, h)
    else
      (f_Weeks_bestShift_L20  am_fu v1 v2 v3 (0 : Int32) h).bind fun q6 =>
      (f_Weeks_doneInTime 92 6 q6.2).bind fun q7 =>
      (f_Integer_bitCount q7 q6.2).bind fun q8 =>
      (if q8 ≤ v1 then
        f_Weeks_bestShift_L6  n v1 v2 (v3 + (1 : Int32)) q6.2
      else
        f_Weeks_bestShift_L6  n q8 v3 (v3 + (1 : Int32)) q6.2))
set_option maxRecDepth 100000 in
set_option maxHeartbeats 4000000 in
theorem t_Weeks_bestShift_L6   {Q : Option Value → am_H → Prop} : ∀ (n : Nat) (v1 : Int32) (v2 : Int32) (v3 : Int32) (h : am_H) (q : Int32 × Int32 × Int32 × am_H), am_Sh h → f_Weeks_bestShift_L6  n v1 v2 v3 h = some q → (am_Sh q.2.2.2 → am_G 5 M_Weeks_bestShift 0 0 Q 102 [(0, .ref 91), (1, .int q.1), (2, .int q.2.1), (3, .int q.2.2.1)] [] q.2.2.2 0 0) → am_G 5 M_Weeks_bestShift 0 0 Q 6 [(0, .ref 91), (1, .int v1), (2, .int v2), (3, .int v3)] [] h 0 0 := by
  intro n
  induction n with
  | zero =>
    intro v1 v2 v3 h q hs hf kont
    rw [f_Weeks_bestShift_L6] at hf
    cases hf
  | succ n ih =>
    intro v1 v2 v3 h q hs hf kont
    rw [f_Weeks_bestShift_L6] at hf
    refine g_iload_n (i := 3) (by decide +kernel) rfl ?_
    refine g_aload_n (i := 0) (by decide +kernel) rfl ?_
    refine x_getr (hs.k k_91) F_Weeks_50 (by decide +kernel) rfl (hs.r r_91_0) ?_
    refine x_geti (hs.k k_1) F_Weeks_121 (by decide +kernel) rfl ?_
    refine x_icmp_ge (off := 88) (tgt := 102) hf (by decide +kernel) (by decide) (fun c1 hf => ?_) (fun c1 hf => ?_)
    · cases hf
      exact am_G.forget (am_subp [0, 1, 2, 3] rfl) (kont hs)
    · refine g_iconst (z := 0) (v := 0) (by decide +kernel) rfl ?_
      refine g_istore (i := 4) (by decide +kernel) rfl (by decide) (ls1 := [(0, .ref 91), (1, .int v1), (2, .int v2), (3, .int v3), (4, .int (0 : Int32))]) rfl ?_
      obtain ⟨q6, hqq6, hf⟩ := Option.bind_eq_some_iff.mp hf
      refine am_G.forget (am_subp [0, 1, 2, 3, 4] rfl) (t_Weeks_bestShift_L20  am_fu _ _ _ _ _ q6 hs hqq6 (fun hs => ?_))
      refine g_aload_n (i := 0) (by decide +kernel) rfl ?_
      refine g_aload_n (i := 0) (by decide +kernel) rfl ?_
      refine x_getr (hs.k k_91) F_Weeks_9 (by decide +kernel) rfl (hs.r r_91_3) ?_
      refine x_callVIp (as := [.ref 92]) Vi_Weeks_doneInTime Vs_Weeks_doneInTime (hs.k k_91) rfl hf (fun q hq => t_Weeks_doneInTime hs k_92 hq) Y_Weeks_doneInTime L_Weeks_133 (by decide +kernel) rfl rfl (Nat.le_of_ble_eq_true rfl) (by decide) (Nat.le_refl _) (Nat.le_refl _) (fun q7 hf => ?_)
      refine x_callSIp (as := [.int q7]) St_Integer_bitCount hf (fun q hq => t_Integer_bitCount hs  hq) Y_Integer_bitCount L_Weeks_137 (by decide +kernel) rfl rfl (Nat.le_of_ble_eq_true rfl) (by decide) (Nat.le_refl _) (Nat.le_refl _) (fun q8 hf => ?_)
      refine g_istore (i := 4) (by decide +kernel) rfl (by decide) (ls1 := [(0, .ref 91), (1, .int v1), (2, .int v2), (3, .int v3), (4, .int q8)]) rfl ?_
      refine g_iload (i := 4) (by decide +kernel) rfl ?_
      refine g_iload_n (i := 1) (by decide +kernel) rfl ?_
      refine x_icmp_le (off := 8) (tgt := 96) hf (by decide +kernel) (by decide) (fun c9 hf => ?_) (fun c9 hf => ?_)
      · refine g_iinc (i := 3) (z := 1) (v := (v3 + (1 : Int32))) (by decide +kernel) rfl rfl rfl (by decide) (ls1 := [(0, .ref 91), (1, .int v1), (2, .int v2), (3, .int (v3 + (1 : Int32))), (4, .int q8)]) rfl ?_
        refine g_goto (off := (-93)) (tgt := 6) (by decide +kernel) (by decide) ?_
        exact am_G.forget (am_subp [0, 1, 2, 3] rfl) (ih _ _ _ _ _ hs hf kont)
      · refine g_iload (i := 4) (by decide +kernel) rfl ?_
        refine g_istore_n (i := 1) (by decide +kernel) rfl (by decide) (ls1 := [(0, .ref 91), (1, .int q8), (2, .int v2), (3, .int v3), (4, .int q8)]) rfl ?_
        refine g_iload_n (i := 3) (by decide +kernel) rfl ?_
        refine g_istore_n (i := 2) (by decide +kernel) rfl (by decide) (ls1 := [(0, .ref 91), (1, .int q8), (2, .int v3), (3, .int v3), (4, .int q8)]) rfl ?_
        refine g_iinc (i := 3) (z := 1) (v := (v3 + (1 : Int32))) (by decide +kernel) rfl rfl rfl (by decide) (ls1 := [(0, .ref 91), (1, .int q8), (2, .int v3), (3, .int (v3 + (1 : Int32))), (4, .int q8)]) rfl ?_
        refine g_goto (off := (-93)) (tgt := 6) (by decide +kernel) (by decide) ?_
        exact am_G.forget (am_subp [0, 1, 2, 3] rfl) (ih _ _ _ _ _ hs hf kont)
def f_Weeks_bestShift  (h : am_H) : Option (Int32 × am_H) :=
  (f_Weeks_bestShift_L6  am_fu (-1 : Int32) (0 : Int32) (0 : Int32) h).bind fun q10 =>
  some (q10.2.1, q10.2.2.2)
set_option maxRecDepth 100000 in
set_option maxHeartbeats 4000000 in
theorem t_Weeks_bestShift  {h : am_H} (hs : am_Sh h)  {r : Int32 × am_H} (hf : f_Weeks_bestShift  h = some r) : am_Ct 5 M_Weeks_bestShift [.ref 91] h 0 0 (am_qI r) := by
  unfold f_Weeks_bestShift at hf
  refine am_Ct.of (by decide) rfl (Nat.le_of_ble_eq_true rfl) (ls := [(0, .ref 91)]) rfl ?_
  refine g_iconst (z := (-1)) (v := (-1)) (by decide +kernel) rfl ?_
  refine g_istore_n (i := 1) (by decide +kernel) rfl (by decide) (ls1 := [(0, .ref 91), (1, .int (-1 : Int32))]) rfl ?_
  refine g_iconst (z := 0) (v := 0) (by decide +kernel) rfl ?_
  refine g_istore_n (i := 2) (by decide +kernel) rfl (by decide) (ls1 := [(0, .ref 91), (1, .int (-1 : Int32)), (2, .int (0 : Int32))]) rfl ?_
  refine g_iconst (z := 0) (v := 0) (by decide +kernel) rfl ?_
  refine g_istore_n (i := 3) (by decide +kernel) rfl (by decide) (ls1 := [(0, .ref 91), (1, .int (-1 : Int32)), (2, .int (0 : Int32)), (3, .int (0 : Int32))]) rfl ?_
  obtain ⟨q10, hqq10, hf⟩ := Option.bind_eq_some_iff.mp hf
  refine am_G.forget (am_subp [0, 1, 2, 3] rfl) (t_Weeks_bestShift_L6  am_fu _ _ _ _ q10 hs hqq10 (fun hs => ?_))
  refine g_iload_n (i := 2) (by decide +kernel) rfl ?_
  exact x_iret hf hs (by decide +kernel) rfl (Nat.le_refl _) (Nat.le_refl _)
def f_Top_shift  (h : am_H) : Option (Int32 × am_H) :=
  (f_Weeks_bestShift  h).bind fun q1 =>
  some (q1.1, q1.2)
set_option maxRecDepth 100000 in
set_option maxHeartbeats 4000000 in
theorem t_Top_shift  {h : am_H} (hs : am_Sh h)  {r : Int32 × am_H} (hf : f_Top_shift  h = some r) : am_Ct 6 M_Top_shift [.ref 0] h 0 0 (am_qI r) := by
  unfold f_Top_shift at hf
  refine am_Ct.of (by decide) rfl (Nat.le_of_ble_eq_true rfl) (ls := [(0, .ref 0)]) rfl ?_
  refine g_aload_n (i := 0) (by decide +kernel) rfl ?_
  refine x_getr (hs.k k_0) F_Top_72 (by decide +kernel) rfl (hs.r r_0_10) ?_
  refine x_callVI (as := []) Vi_Weeks_bestShift Vs_Weeks_bestShift (hs.k k_91) rfl hf (fun q hq => t_Weeks_bestShift hs  hq) Y_Weeks_bestShift L_Top_292 (by decide +kernel) rfl rfl (Nat.le_of_ble_eq_true rfl) (by decide) (Nat.le_refl _) (Nat.le_refl _) (fun q1 hf hs => ?_)
  exact x_iret hf hs (by decide +kernel) rfl (Nat.le_refl _) (Nat.le_refl _)
def f_River_allSpots (o : Nat) (h : am_H) : Option (Int32) :=
  some ((((1 : Int32) <<< (((2 : Int32) * (h.2.1 o 0)) &&& 31)) - (1 : Int32)) ||| (256 : Int32))
set_option maxRecDepth 100000 in
set_option maxHeartbeats 4000000 in
theorem t_River_allSpots {o : Nat} {h : am_H} (hs : am_Sh h) (ho : o ∈ am_rvL) {r : Int32} (hf : f_River_allSpots o h = some r) : am_Ct 0 M_River_allSpots [.ref o] h 0 0 (am_pI h r) := by
  unfold f_River_allSpots at hf
  refine am_Ct.of (by decide) rfl (Nat.le_of_ble_eq_true rfl) (ls := [(0, .ref o)]) rfl ?_
  refine g_iconst (z := 1) (v := 1) (by decide +kernel) rfl ?_
  refine g_iconst (z := 2) (v := 2) (by decide +kernel) rfl ?_
  refine g_aload_n (i := 0) (by decide +kernel) rfl ?_
  refine x_geti (hs.k (k_Rv ho)) F_River_9 (by decide +kernel) rfl ?_
  refine g_imul (by decide +kernel) ?_
  refine g_ishl (by decide +kernel) ?_
  refine g_iconst (z := 1) (v := 1) (by decide +kernel) rfl ?_
  refine g_isub (by decide +kernel) ?_
  refine g_sipush (z := 256) (v := 256) (by decide +kernel) rfl ?_
  refine g_ior (by decide +kernel) ?_
  exact x_iretp hf (by decide +kernel) rfl (Nat.le_refl _) (Nat.le_refl _)
def f_Sightings_take_L32 (p1 : Nat) : Nat → Int32 → am_H → Option (Int32 × am_H)
  | 0, _, _ => none
  | n + 1, v2, h =>
    (if (h.2.1 p1 1) ≤ v2 then
      am_let (am_sI h 96 4 (h.2.1 p1 1)) fun h5 =>
      some ((0 : Int32), h5)
    else
      (f_Tray_at p1 v2 h).bind fun q6 =>
      (if (lg_cmp q6 (-1 : Int64)) < 0 then
        some ((-3 : Int32), h)
      else
        (if 0 < (lg_cmp q6 (8 : Int64)) then
          some ((-3 : Int32), h)
        else
          (if (lg_cmp q6 (-1 : Int64)) = 0 then
            ((if (lg_cmp q6 (-1 : Int64)) = 0 then
                (f_River_allSpots 1 h).bind fun q11 =>
                some q11
              else
                some ((1 : Int32) <<< (((q6).toInt32) &&& 31))) : Option (Int32)).bind fun m12 =>
            (am_wr h 97 12 v2 m12).bind fun h13 =>
            f_Sightings_take_L32 p1 n (v2 + (1 : Int32)) h13
          else
            (f_River_hasSpot 1 ((q6).toInt32) h).bind fun q14 =>
            (if q14 = true then
              ((if (lg_cmp q6 (-1 : Int64)) = 0 then
                  (f_River_allSpots 1 h).bind fun q17 =>
                  some q17
                else
                  some ((1 : Int32) <<< (((q6).toInt32) &&& 31))) : Option (Int32)).bind fun m18 =>
              (am_wr h 97 12 v2 m18).bind fun h19 =>
              f_Sightings_take_L32 p1 n (v2 + (1 : Int32)) h19
            else
              some ((-3 : Int32), h))))))
set_option maxRecDepth 100000 in
set_option maxHeartbeats 4000000 in
theorem t_Sightings_take_L32 {p1 : Nat} (hp1 : p1 ∈ am_trL) : ∀ (n : Nat) (v2 : Int32) (h : am_H) (r : Int32 × am_H), am_Sh h → f_Sightings_take_L32 p1 n v2 h = some r → am_G 1 M_Sightings_take 0 0 (am_qI r) 32 [(0, .ref 96), (1, .ref p1), (2, .int v2)] [] h 0 0 := by
  intro n
  induction n with
  | zero =>
    intro v2 h r hs hf
    rw [f_Sightings_take_L32] at hf
    cases hf
  | succ n ih =>
    intro v2 h r hs hf
    rw [f_Sightings_take_L32] at hf
    refine g_iload_n (i := 2) (by decide +kernel) rfl ?_
    refine g_aload_n (i := 1) (by decide +kernel) rfl ?_
    refine x_geti (hs.k (k_Tr hp1)) F_Sightings_36 (by decide +kernel) rfl ?_
    refine x_icmp_ge (off := 82) (tgt := 119) hf (by decide +kernel) (by decide) (fun c4 hf => ?_) (fun c4 hf => ?_)
    · refine g_aload_n (i := 0) (by decide +kernel) rfl ?_
      refine g_aload_n (i := 1) (by decide +kernel) rfl ?_
      refine x_geti (hs.k (k_Tr hp1)) F_Sightings_36 (by decide +kernel) rfl ?_
      refine x_puti hf hs (hs.k k_96) F_Sightings_18 (by decide +kernel) rfl rfl rfl rfl (fun h5 hf hs => ?_)
      refine g_iconst (z := 0) (v := 0) (by decide +kernel) rfl ?_
      exact x_iret hf hs (by decide +kernel) rfl (Nat.le_refl _) (Nat.le_refl _)
    · refine g_aload_n (i := 1) (by decide +kernel) rfl ?_
      refine g_iload_n (i := 2) (by decide +kernel) rfl ?_
      refine x_callVJp (as := [.int v2]) Vi_Tray_at Vs_Tray_at (hs.k (k_Tr hp1)) rfl hf (fun q hq => t_Tray_at hs hp1 hq) Y_Tray_at L_Sightings_37 (by decide +kernel) rfl rfl (Nat.le_of_ble_eq_true rfl) (by decide) (Nat.le_refl _) (Nat.le_refl _) (fun q6 hf => ?_)
      refine g_lstore_n (i := 3) (by decide +kernel) rfl (by decide) (ls1 := [(0, .ref 96), (1, .ref p1), (2, .int v2), (3, .long q6)]) rfl ?_
      refine g_lload_n (i := 3) (by decide +kernel) rfl ?_
      refine g_ldc2 (by decide +kernel) C_Sightings_41 ?_
      refine g_lcmp (by decide +kernel) ?_
      refine x_if_lt (off := 31) (tgt := 82) hf (by decide +kernel) (by decide) (fun c7 hf => ?_) (fun c7 hf => ?_)
      · refine g_bipush (z := (-3)) (v := (-3)) (by decide +kernel) rfl ?_
        exact x_iret hf hs (by decide +kernel) rfl (Nat.le_refl _) (Nat.le_refl _)
      · refine g_lload_n (i := 3) (by decide +kernel) rfl ?_
        refine g_ldc2 (by decide +kernel) C_Sightings_43 ?_
        refine g_lcmp (by decide +kernel) ?_
        refine x_if_gt (off := 23) (tgt := 82) hf (by decide +kernel) (by decide) (fun c8 hf => ?_) (fun c8 hf => ?_)
        · refine g_bipush (z := (-3)) (v := (-3)) (by decide +kernel) rfl ?_
          exact x_iret hf hs (by decide +kernel) rfl (Nat.le_refl _) (Nat.le_refl _)
        · refine g_lload_n (i := 3) (by decide +kernel) rfl ?_
          refine g_ldc2 (by decide +kernel) C_Sightings_41 ?_
          refine g_lcmp (by decide +kernel) ?_
          refine x_if_eq (off := 18) (tgt := 85) hf (by decide +kernel) (by decide) (fun c9 hf => ?_) (fun c9 hf => ?_)
          · refine g_aload_n (i := 0) (by decide +kernel) rfl ?_
            refine x_getr (hs.k k_96) F_Sightings_9 (by decide +kernel) rfl (hs.r r_96_2) ?_
            refine g_iload_n (i := 2) (by decide +kernel) rfl ?_
            refine g_lload_n (i := 3) (by decide +kernel) rfl ?_
            refine g_ldc2 (by decide +kernel) C_Sightings_41 ?_
            refine g_lcmp (by decide +kernel) ?_
            obtain ⟨m12, hm112, hf⟩ := Option.bind_eq_some_iff.mp hf
            refine am_cut (J := 112) (ls' := [(0, .ref 96), (1, .ref p1), (2, .int v2), (3, .long q6)]) (st' := [.int m12, .int v2, .ref 97]) ?_ (fun K112 => ?_)
            · refine x_iast hf hs (hs.k k_97) (by decide +kernel) (fun h13 hf hs => ?_)
              refine g_iinc (i := 2) (z := 1) (v := (v2 + (1 : Int32))) (by decide +kernel) rfl rfl rfl (by decide) (ls1 := [(0, .ref 96), (1, .ref p1), (2, .int (v2 + (1 : Int32))), (3, .long q6)]) rfl ?_
              refine g_goto (off := (-84)) (tgt := 32) (by decide +kernel) (by decide) ?_
              exact am_G.forget (am_subp [0, 1, 2] rfl) (ih _ _ _ hs hf)
            refine x_if_ne (off := 13) (tgt := 108) hm112 (by decide +kernel) (by decide) (fun c10 hm112 => ?_) (fun c10 hm112 => ?_)
            · refine g_iconst (z := 1) (v := 1) (by decide +kernel) rfl ?_
              refine g_lload_n (i := 3) (by decide +kernel) rfl ?_
              refine g_l2i (by decide +kernel) ?_
              refine g_ishl (by decide +kernel) ?_
              cases hm112
              exact am_G.forget (am_subp [0, 1, 2, 3] rfl) K112
            · refine g_aload_n (i := 0) (by decide +kernel) rfl ?_
              refine x_getr (hs.k k_96) F_Sightings_22 (by decide +kernel) rfl (hs.r r_96_0) ?_
              refine x_callVIp (as := []) Vi_River_allSpots Vs_River_allSpots (hs.k k_1) rfl hm112 (fun q hq => t_River_allSpots hs (by decide) hq) Y_River_allSpots L_Sightings_51 (by decide +kernel) rfl rfl (Nat.le_of_ble_eq_true rfl) (by decide) (Nat.le_refl _) (Nat.le_refl _) (fun q11 hm112 => ?_)
              refine g_goto (off := 7) (tgt := 112) (by decide +kernel) (by decide) ?_
              cases hm112
              exact am_G.forget (am_subp [0, 1, 2, 3] rfl) K112
          · refine g_aload_n (i := 0) (by decide +kernel) rfl ?_
            refine x_getr (hs.k k_96) F_Sightings_22 (by decide +kernel) rfl (hs.r r_96_0) ?_
            refine g_lload_n (i := 3) (by decide +kernel) rfl ?_
            refine g_l2i (by decide +kernel) ?_
            refine x_callVBp (as := [.int ((q6).toInt32)]) Vi_River_hasSpot Vs_River_hasSpot (hs.k k_1) rfl hf (fun q hq => t_River_hasSpot hs (by decide) hq) Y_River_hasSpot L_Sightings_45 (by decide +kernel) rfl rfl (Nat.le_of_ble_eq_true rfl) (by decide) (Nat.le_refl _) (Nat.le_refl _) (fun q14 hf => ?_)
            refine x_ifb_ne (off := 6) (tgt := 85) hf (by decide +kernel) (by decide) (fun c15 hf => ?_) (fun c15 hf => ?_)
            · refine g_aload_n (i := 0) (by decide +kernel) rfl ?_
              refine x_getr (hs.k k_96) F_Sightings_9 (by decide +kernel) rfl (hs.r r_96_2) ?_
              refine g_iload_n (i := 2) (by decide +kernel) rfl ?_
              refine g_lload_n (i := 3) (by decide +kernel) rfl ?_
              refine g_ldc2 (by decide +kernel) C_Sightings_41 ?_
              refine g_lcmp (by decide +kernel) ?_
              obtain ⟨m18, hm112, hf⟩ := Option.bind_eq_some_iff.mp hf
              refine am_cut (J := 112) (ls' := [(0, .ref 96), (1, .ref p1), (2, .int v2), (3, .long q6)]) (st' := [.int m18, .int v2, .ref 97]) ?_ (fun K112 => ?_)
              · refine x_iast hf hs (hs.k k_97) (by decide +kernel) (fun h19 hf hs => ?_)
                refine g_iinc (i := 2) (z := 1) (v := (v2 + (1 : Int32))) (by decide +kernel) rfl rfl rfl (by decide) (ls1 := [(0, .ref 96), (1, .ref p1), (2, .int (v2 + (1 : Int32))), (3, .long q6)]) rfl ?_
                refine g_goto (off := (-84)) (tgt := 32) (by decide +kernel) (by decide) ?_
                exact am_G.forget (am_subp [0, 1, 2] rfl) (ih _ _ _ hs hf)
              refine x_if_ne (off := 13) (tgt := 108) hm112 (by decide +kernel) (by decide) (fun c16 hm112 => ?_) (fun c16 hm112 => ?_)
              · refine g_iconst (z := 1) (v := 1) (by decide +kernel) rfl ?_
                refine g_lload_n (i := 3) (by decide +kernel) rfl ?_
                refine g_l2i (by decide +kernel) ?_
                refine g_ishl (by decide +kernel) ?_
                cases hm112
                exact am_G.forget (am_subp [0, 1, 2, 3] rfl) K112
              · refine g_aload_n (i := 0) (by decide +kernel) rfl ?_
                refine x_getr (hs.k k_96) F_Sightings_22 (by decide +kernel) rfl (hs.r r_96_0) ?_
                refine x_callVIp (as := []) Vi_River_allSpots Vs_River_allSpots (hs.k k_1) rfl hm112 (fun q hq => t_River_allSpots hs (by decide) hq) Y_River_allSpots L_Sightings_51 (by decide +kernel) rfl rfl (Nat.le_of_ble_eq_true rfl) (by decide) (Nat.le_refl _) (Nat.le_refl _) (fun q17 hm112 => ?_)
                refine g_goto (off := 7) (tgt := 112) (by decide +kernel) (by decide) ?_
                cases hm112
                exact am_G.forget (am_subp [0, 1, 2, 3] rfl) K112
            · refine g_bipush (z := (-3)) (v := (-3)) (by decide +kernel) rfl ?_
              exact x_iret hf hs (by decide +kernel) rfl (Nat.le_refl _) (Nat.le_refl _)
def f_Sightings_take (p1 : Nat) (h : am_H) : Option (Int32 × am_H) :=
  (if (h.2.1 p1 0) = 0 then
    some ((-6 : Int32), h)
  else
    (if (h.2.1 p1 1) < (1 : Int32) then
      some ((-4 : Int32), h)
    else
      (if (h.2.1 p1 1) ≤ (12 : Int32) then
        f_Sightings_take_L32 p1 am_fu (0 : Int32) h
      else
        some ((-4 : Int32), h))))
set_option maxRecDepth 100000 in
set_option maxHeartbeats 4000000 in
theorem t_Sightings_take {p1 : Nat} {h : am_H} (hs : am_Sh h) (hp1 : p1 ∈ am_trL) {r : Int32 × am_H} (hf : f_Sightings_take p1 h = some r) : am_Ct 1 M_Sightings_take [.ref 96, .ref p1] h 0 0 (am_qI r) := by
  unfold f_Sightings_take at hf
  refine am_Ct.of (by decide) rfl (Nat.le_of_ble_eq_true rfl) (ls := [(0, .ref 96), (1, .ref p1)]) rfl ?_
  refine g_aload_n (i := 1) (by decide +kernel) rfl ?_
  refine x_geti (hs.k (k_Tr hp1)) F_Sightings_30 (by decide +kernel) rfl ?_
  refine x_if_ne (off := 6) (tgt := 10) hf (by decide +kernel) (by decide) (fun c1 hf => ?_) (fun c1 hf => ?_)
  · refine g_aload_n (i := 1) (by decide +kernel) rfl ?_
    refine x_geti (hs.k (k_Tr hp1)) F_Sightings_36 (by decide +kernel) rfl ?_
    refine g_iconst (z := 1) (v := 1) (by decide +kernel) rfl ?_
    refine x_icmp_lt (off := 12) (tgt := 27) hf (by decide +kernel) (by decide) (fun c2 hf => ?_) (fun c2 hf => ?_)
    · refine g_bipush (z := (-4)) (v := (-4)) (by decide +kernel) rfl ?_
      exact x_iret hf hs (by decide +kernel) rfl (Nat.le_refl _) (Nat.le_refl _)
    · refine g_aload_n (i := 1) (by decide +kernel) rfl ?_
      refine x_geti (hs.k (k_Tr hp1)) F_Sightings_36 (by decide +kernel) rfl ?_
      refine g_bipush (z := 12) (v := 12) (by decide +kernel) rfl ?_
      refine x_icmp_le (off := 6) (tgt := 30) hf (by decide +kernel) (by decide) (fun c3 hf => ?_) (fun c3 hf => ?_)
      · refine g_iconst (z := 0) (v := 0) (by decide +kernel) rfl ?_
        refine g_istore_n (i := 2) (by decide +kernel) rfl (by decide) (ls1 := [(0, .ref 96), (1, .ref p1), (2, .int (0 : Int32))]) rfl ?_
        exact am_G.forget (am_subp [0, 1, 2] rfl) (t_Sightings_take_L32 hp1 am_fu _ _ _ hs hf)
      · refine g_bipush (z := (-4)) (v := (-4)) (by decide +kernel) rfl ?_
        exact x_iret hf hs (by decide +kernel) rfl (Nat.le_refl _) (Nat.le_refl _)
  · refine g_bipush (z := (-6)) (v := (-6)) (by decide +kernel) rfl ?_
    exact x_iret hf hs (by decide +kernel) rfl (Nat.le_refl _) (Nat.le_refl _)
def f_Sightings_firstBreak_L11 (p1 : Int32) (p2 : Nat) (p2L : Nat) : Nat → Int32 → Int32 → am_H → Option (Int32)
  | 0, _, _, _ => none
  | n + 1, v3, v4, h =>
    (if (h.2.1 96 4) ≤ v4 then
      some (-1 : Int32)
    else
      (am_rd (h.2.1 97) 12 v4).bind fun x3 =>
      (if (v3 &&& x3) = 0 then
        some v4
      else
        (f_River_hourOfWeek 1 ((h.2.1 10 0) + v4) h).bind fun q5 =>
        (f_River_row p1 q5 (if (h.2.1 10 1) ≤ v4 then (0 : Int32) else (1 : Int32)) h).bind fun q7 =>
        (am_rd (h.2.1 p2) p2L q5).bind fun x8 =>
        (f_River_spread 1 q7 (v3 &&& x3) x8 h).bind fun q9 =>
        f_Sightings_firstBreak_L11 p1 p2 p2L n q9 (v4 + (1 : Int32)) h))
set_option maxRecDepth 100000 in
set_option maxHeartbeats 4000000 in
theorem t_Sightings_firstBreak_L11 {p1 : Int32} {p2 : Nat} {p2L : Nat} (hp2 : am_K0[p2]? = some (.inr (.int, p2L))) : ∀ (n : Nat) (v3 : Int32) (v4 : Int32) (h : am_H) (r : Int32), am_Sh h → f_Sightings_firstBreak_L11 p1 p2 p2L n v3 v4 h = some r → am_G 2 M_Sightings_firstBreak 0 0 (am_pI h r) 11 [(0, .ref 96), (1, .int p1), (2, .ref p2), (3, .int v3), (4, .int v4)] [] h 0 0 := by
  intro n
  induction n with
  | zero =>
    intro v3 v4 h r hs hf
    rw [f_Sightings_firstBreak_L11] at hf
    cases hf
  | succ n ih =>
    intro v3 v4 h r hs hf
    rw [f_Sightings_firstBreak_L11] at hf
    refine g_iload (i := 4) (by decide +kernel) rfl ?_
    refine g_aload_n (i := 0) (by decide +kernel) rfl ?_
    refine x_geti (hs.k k_96) F_Sightings_18 (by decide +kernel) rfl ?_
    refine x_icmp_ge (off := 81) (tgt := 98) hf (by decide +kernel) (by decide) (fun c2 hf => ?_) (fun c2 hf => ?_)
    · refine g_iconst (z := (-1)) (v := (-1)) (by decide +kernel) rfl ?_
      exact x_iretp hf (by decide +kernel) rfl (Nat.le_refl _) (Nat.le_refl _)
    · refine g_iload_n (i := 3) (by decide +kernel) rfl ?_
      refine g_aload_n (i := 0) (by decide +kernel) rfl ?_
      refine x_getr (hs.k k_96) F_Sightings_9 (by decide +kernel) rfl (hs.r r_96_2) ?_
      refine g_iload (i := 4) (by decide +kernel) rfl ?_
      refine x_iald hf (hs.k k_97) (by decide +kernel) (fun x3 hf => ?_)
      refine g_iand (by decide +kernel) ?_
      refine g_istore_n (i := 3) (by decide +kernel) rfl (by decide) (ls1 := [(0, .ref 96), (1, .int p1), (2, .ref p2), (3, .int (v3 &&& x3)), (4, .int v4)]) rfl ?_
      refine g_iload_n (i := 3) (by decide +kernel) rfl ?_
      refine x_if_ne (off := 6) (tgt := 37) hf (by decide +kernel) (by decide) (fun c4 hf => ?_) (fun c4 hf => ?_)
      · refine g_aload_n (i := 0) (by decide +kernel) rfl ?_
        refine x_getr (hs.k k_96) F_Sightings_22 (by decide +kernel) rfl (hs.r r_96_0) ?_
        refine g_aload_n (i := 0) (by decide +kernel) rfl ?_
        refine x_getr (hs.k k_96) F_Sightings_26 (by decide +kernel) rfl (hs.r r_96_1) ?_
        refine x_geti (hs.k k_10) F_Sightings_55 (by decide +kernel) rfl ?_
        refine g_iload (i := 4) (by decide +kernel) rfl ?_
        refine g_iadd (by decide +kernel) ?_
        refine x_callVIp (as := [.int ((h.2.1 10 0) + v4)]) Vi_River_hourOfWeek Vs_River_hourOfWeek (hs.k k_1) rfl hf (fun q hq => t_River_hourOfWeek hs (by decide) hq) Y_River_hourOfWeek L_Sightings_60 (by decide +kernel) rfl rfl (Nat.le_of_ble_eq_true rfl) (by decide) (Nat.le_refl _) (Nat.le_refl _) (fun q5 hf => ?_)
        refine g_istore (i := 5) (by decide +kernel) rfl (by decide) (ls1 := [(0, .ref 96), (1, .int p1), (2, .ref p2), (3, .int (v3 &&& x3)), (4, .int v4), (5, .int q5)]) rfl ?_
        refine g_aload_n (i := 0) (by decide +kernel) rfl ?_
        refine x_getr (hs.k k_96) F_Sightings_22 (by decide +kernel) rfl (hs.r r_96_0) ?_
        refine g_iload_n (i := 1) (by decide +kernel) rfl ?_
        refine g_iload (i := 5) (by decide +kernel) rfl ?_
        refine g_iload (i := 4) (by decide +kernel) rfl ?_
        refine g_aload_n (i := 0) (by decide +kernel) rfl ?_
        refine x_getr (hs.k k_96) F_Sightings_26 (by decide +kernel) rfl (hs.r r_96_1) ?_
        refine x_geti (hs.k k_10) F_Sightings_64 (by decide +kernel) rfl ?_
        refine am_cut (J := 80) (ls' := [(0, .ref 96), (1, .int p1), (2, .ref p2), (3, .int (v3 &&& x3)), (4, .int v4), (5, .int q5)]) (st' := [.int (if (h.2.1 10 1) ≤ v4 then (0 : Int32) else (1 : Int32)), .int q5, .int p1, .ref 1]) ?_ (fun K80 => ?_)
        · refine x_callSIp (as := [.int p1, .int q5, .int (if (h.2.1 10 1) ≤ v4 then (0 : Int32) else (1 : Int32))]) St_River_row hf (fun q hq => t_River_row hs  hq) Y_River_row L_Sightings_67 (by decide +kernel) rfl rfl (Nat.le_of_ble_eq_true rfl) (by decide) (Nat.le_refl _) (Nat.le_refl _) (fun q7 hf => ?_)
          refine g_iload_n (i := 3) (by decide +kernel) rfl ?_
          refine g_aload_n (i := 2) (by decide +kernel) rfl ?_
          refine g_iload (i := 5) (by decide +kernel) rfl ?_
          refine x_iald hf (hs.k hp2) (by decide +kernel) (fun x8 hf => ?_)
          refine x_callVIp (as := [.int q7, .int (v3 &&& x3), .int x8]) Vi_River_spread Vs_River_spread (hs.k k_1) rfl hf (fun q hq => t_River_spread hs (by decide) hq) Y_River_spread L_Sightings_71 (by decide +kernel) rfl rfl (Nat.le_of_ble_eq_true rfl) (by decide) (Nat.le_refl _) (Nat.le_refl _) (fun q9 hf => ?_)
          refine g_istore_n (i := 3) (by decide +kernel) rfl (by decide) (ls1 := [(0, .ref 96), (1, .int p1), (2, .ref p2), (3, .int q9), (4, .int v4), (5, .int q5)]) rfl ?_
          refine g_iinc (i := 4) (z := 1) (v := (v4 + (1 : Int32))) (by decide +kernel) rfl rfl rfl (by decide) (ls1 := [(0, .ref 96), (1, .int p1), (2, .ref p2), (3, .int q9), (4, .int (v4 + (1 : Int32))), (5, .int q5)]) rfl ?_
          refine g_goto (off := (-84)) (tgt := 11) (by decide +kernel) (by decide) ?_
          exact am_G.forget (am_subp [0, 1, 2, 3, 4] rfl) (ih _ _ _ _ hs hf)
        refine p_icmp_ge (off := 7) (tgt := 79) (by decide +kernel) (by decide) (fun c6 => ?_) (fun c6 => ?_)
        · refine g_iconst (z := 0) (v := 0) (by decide +kernel) rfl ?_
          have K1 := K80
          simp only [if_pos c6] at K1
          exact am_G.forget (am_subp [0, 1, 2, 3, 4, 5] rfl) K1
        · refine g_iconst (z := 1) (v := 1) (by decide +kernel) rfl ?_
          refine g_goto (off := 4) (tgt := 80) (by decide +kernel) (by decide) ?_
          have K1 := K80
          simp only [if_neg c6] at K1
          exact am_G.forget (am_subp [0, 1, 2, 3, 4, 5] rfl) K1
      · refine g_iload (i := 4) (by decide +kernel) rfl ?_
        exact x_iretp hf (by decide +kernel) rfl (Nat.le_refl _) (Nat.le_refl _)
def f_Sightings_firstBreak (p1 : Int32) (p2 : Nat) (p2L : Nat) (h : am_H) : Option (Int32) :=
  (f_River_allSpots 1 h).bind fun q1 =>
  f_Sightings_firstBreak_L11 p1 p2 p2L am_fu q1 (0 : Int32) h
set_option maxRecDepth 100000 in
set_option maxHeartbeats 4000000 in
theorem t_Sightings_firstBreak {p1 : Int32} {p2 : Nat} {p2L : Nat} {h : am_H} (hs : am_Sh h) (hp2 : am_K0[p2]? = some (.inr (.int, p2L))) {r : Int32} (hf : f_Sightings_firstBreak p1 p2 p2L h = some r) : am_Ct 2 M_Sightings_firstBreak [.ref 96, .int p1, .ref p2] h 0 0 (am_pI h r) := by
  unfold f_Sightings_firstBreak at hf
  refine am_Ct.of (by decide) rfl (Nat.le_of_ble_eq_true rfl) (ls := [(0, .ref 96), (1, .int p1), (2, .ref p2)]) rfl ?_
  refine g_aload_n (i := 0) (by decide +kernel) rfl ?_
  refine x_getr (hs.k k_96) F_Sightings_22 (by decide +kernel) rfl (hs.r r_96_0) ?_
  refine x_callVIp (as := []) Vi_River_allSpots Vs_River_allSpots (hs.k k_1) rfl hf (fun q hq => t_River_allSpots hs (by decide) hq) Y_River_allSpots L_Sightings_51 (by decide +kernel) rfl rfl (Nat.le_of_ble_eq_true rfl) (by decide) (Nat.le_refl _) (Nat.le_refl _) (fun q1 hf => ?_)
  refine g_istore_n (i := 3) (by decide +kernel) rfl (by decide) (ls1 := [(0, .ref 96), (1, .int p1), (2, .ref p2), (3, .int q1)]) rfl ?_
  refine g_iconst (z := 0) (v := 0) (by decide +kernel) rfl ?_
  refine g_istore (i := 4) (by decide +kernel) rfl (by decide) (ls1 := [(0, .ref 96), (1, .int p1), (2, .ref p2), (3, .int q1), (4, .int (0 : Int32))]) rfl ?_
  exact am_G.forget (am_subp [0, 1, 2, 3, 4] rfl) (t_Sightings_firstBreak_L11 hp2 am_fu _ _ _ _ hs hf)
def f_Sightings_fitting_L23 (p1 : Int32) (p2 : Int32) : Nat → Int32 → Int32 → am_H → Option (Int32 × Int32 × am_H)
  | 0, _, _, _ => none
  | n + 1, v3, v4, h =>
    (if (h.2.1 1 0) ≤ v4 then
      some (v3, v4, h)
    else
      (am_wr h 98 6 p2 v4).bind fun h3 =>
      (f_Sightings_firstBreak p1 98 6 h3).bind fun q4 =>
      (if q4 = (-1 : Int32) then
        f_Sightings_fitting_L23 p1 p2 n (v3 ||| ((1 : Int32) <<< (v4 &&& 31))) (v4 + (1 : Int32)) h3
      else
        f_Sightings_fitting_L23 p1 p2 n v3 (v4 + (1 : Int32)) h3))
set_option maxRecDepth 100000 in
set_option maxHeartbeats 4000000 in
theorem t_Sightings_fitting_L23 {p1 : Int32} {p2 : Int32}  {Q : Option Value → am_H → Prop} : ∀ (n : Nat) (v3 : Int32) (v4 : Int32) (h : am_H) (q : Int32 × Int32 × am_H), am_Sh h → f_Sightings_fitting_L23 p1 p2 n v3 v4 h = some q → (am_Sh q.2.2 → am_G 3 M_Sightings_fitting 0 0 Q 69 [(0, .ref 96), (1, .int p1), (2, .int p2), (3, .int q.1), (4, .int q.2.1)] [] q.2.2 0 0) → am_G 3 M_Sightings_fitting 0 0 Q 23 [(0, .ref 96), (1, .int p1), (2, .int p2), (3, .int v3), (4, .int v4)] [] h 0 0 := by
  intro n
  induction n with
  | zero =>
    intro v3 v4 h q hs hf kont
    rw [f_Sightings_fitting_L23] at hf
    cases hf
  | succ n ih =>
    intro v3 v4 h q hs hf kont
    rw [f_Sightings_fitting_L23] at hf
    refine g_iload (i := 4) (by decide +kernel) rfl ?_
    refine g_aload_n (i := 0) (by decide +kernel) rfl ?_
    refine x_getr (hs.k k_96) F_Sightings_22 (by decide +kernel) rfl (hs.r r_96_0) ?_
    refine x_geti (hs.k k_1) F_Sightings_84 (by decide +kernel) rfl ?_
    refine x_icmp_ge (off := 37) (tgt := 69) hf (by decide +kernel) (by decide) (fun c2 hf => ?_) (fun c2 hf => ?_)
    · cases hf
      exact am_G.forget (am_subp [0, 1, 2, 3, 4] rfl) (kont hs)
    · refine g_aload_n (i := 0) (by decide +kernel) rfl ?_
      refine x_getr (hs.k k_96) F_Sightings_15 (by decide +kernel) rfl (hs.r r_96_3) ?_
      refine g_iload_n (i := 2) (by decide +kernel) rfl ?_
      refine g_iload (i := 4) (by decide +kernel) rfl ?_
      refine x_iast hf hs (hs.k k_98) (by decide +kernel) (fun h3 hf hs => ?_)
      refine g_aload_n (i := 0) (by decide +kernel) rfl ?_
      refine g_iload_n (i := 1) (by decide +kernel) rfl ?_
      refine g_aload_n (i := 0) (by decide +kernel) rfl ?_
      refine x_getr (hs.k k_96) F_Sightings_15 (by decide +kernel) rfl (hs.r r_96_3) ?_
      refine x_callVIp (as := [.int p1, .ref 98]) Vi_Sightings_firstBreak Vs_Sightings_firstBreak (hs.k k_96) rfl hf (fun q hq => t_Sightings_firstBreak hs k_98 hq) Y_Sightings_firstBreak L_Sightings_87 (by decide +kernel) rfl rfl (Nat.le_of_ble_eq_true rfl) (by decide) (Nat.le_refl _) (Nat.le_refl _) (fun q4 hf => ?_)
      refine g_iconst (z := (-1)) (v := (-1)) (by decide +kernel) rfl ?_
      refine x_icmp_ne (off := 10) (tgt := 63) hf (by decide +kernel) (by decide) (fun c5 hf => ?_) (fun c5 hf => ?_)
      · refine g_iinc (i := 4) (z := 1) (v := (v4 + (1 : Int32))) (by decide +kernel) rfl rfl rfl (by decide) (ls1 := [(0, .ref 96), (1, .int p1), (2, .int p2), (3, .int v3), (4, .int (v4 + (1 : Int32)))]) rfl ?_
        refine g_goto (off := (-43)) (tgt := 23) (by decide +kernel) (by decide) ?_
        exact am_G.forget (am_subp [0, 1, 2, 3, 4] rfl) (ih _ _ _ _ hs hf kont)
      · refine g_iload_n (i := 3) (by decide +kernel) rfl ?_
        refine g_iconst (z := 1) (v := 1) (by decide +kernel) rfl ?_
        refine g_iload (i := 4) (by decide +kernel) rfl ?_
        refine g_ishl (by decide +kernel) ?_
        refine g_ior (by decide +kernel) ?_
        refine g_istore_n (i := 3) (by decide +kernel) rfl (by decide) (ls1 := [(0, .ref 96), (1, .int p1), (2, .int p2), (3, .int (v3 ||| ((1 : Int32) <<< (v4 &&& 31)))), (4, .int v4)]) rfl ?_
        refine g_iinc (i := 4) (z := 1) (v := (v4 + (1 : Int32))) (by decide +kernel) rfl rfl rfl (by decide) (ls1 := [(0, .ref 96), (1, .int p1), (2, .int p2), (3, .int (v3 ||| ((1 : Int32) <<< (v4 &&& 31)))), (4, .int (v4 + (1 : Int32)))]) rfl ?_
        refine g_goto (off := (-43)) (tgt := 23) (by decide +kernel) (by decide) ?_
        exact am_G.forget (am_subp [0, 1, 2, 3, 4] rfl) (ih _ _ _ _ hs hf kont)
def f_Sightings_fitting (p1 : Int32) (p2 : Int32) (h : am_H) : Option (Int32 × am_H) :=
  (am_cp h 11 6 (0 : Int32) 98 6 (0 : Int32) (6 : Int32)).bind fun h1 =>
  (f_Sightings_fitting_L23 p1 p2 am_fu (0 : Int32) (0 : Int32) h1).bind fun q6 =>
  (am_wr q6.2.2 98 6 p2 (-1 : Int32)).bind fun h7 =>
  (f_Sightings_firstBreak p1 98 6 h7).bind fun q8 =>
  (if q8 = (-1 : Int32) then
    some ((q6.1 ||| (16 : Int32)), h7)
  else
    some (q6.1, h7))
set_option maxRecDepth 100000 in
set_option maxHeartbeats 4000000 in
theorem t_Sightings_fitting {p1 : Int32} {p2 : Int32} {h : am_H} (hs : am_Sh h)  {r : Int32 × am_H} (hf : f_Sightings_fitting p1 p2 h = some r) : am_Ct 3 M_Sightings_fitting [.ref 96, .int p1, .int p2] h 0 0 (am_qI r) := by
  unfold f_Sightings_fitting at hf
  refine am_Ct.of (by decide) rfl (Nat.le_of_ble_eq_true rfl) (ls := [(0, .ref 96), (1, .int p1), (2, .int p2)]) rfl ?_
  refine g_aload_n (i := 0) (by decide +kernel) rfl ?_
  refine x_getr (hs.k k_96) F_Sightings_26 (by decide +kernel) rfl (hs.r r_96_1) ?_
  refine x_getr (hs.k k_10) F_Sightings_75 (by decide +kernel) rfl (hs.r r_10_3) ?_
  refine g_iconst (z := 0) (v := 0) (by decide +kernel) rfl ?_
  refine g_aload_n (i := 0) (by decide +kernel) rfl ?_
  refine x_getr (hs.k k_96) F_Sightings_15 (by decide +kernel) rfl (hs.r r_96_3) ?_
  refine g_iconst (z := 0) (v := 0) (by decide +kernel) rfl ?_
  refine g_bipush (z := 6) (v := 6) (by decide +kernel) rfl ?_
  refine x_copy hf hs (hs.k k_11) (hs.k k_98) L_Sightings_78 (by decide) (Nat.le_of_ble_eq_true rfl) (by decide +kernel) (fun h1 hf hs => ?_)
  refine g_iconst (z := 0) (v := 0) (by decide +kernel) rfl ?_
  refine g_istore_n (i := 3) (by decide +kernel) rfl (by decide) (ls1 := [(0, .ref 96), (1, .int p1), (2, .int p2), (3, .int (0 : Int32))]) rfl ?_
  refine g_iconst (z := 0) (v := 0) (by decide +kernel) rfl ?_
  refine g_istore (i := 4) (by decide +kernel) rfl (by decide) (ls1 := [(0, .ref 96), (1, .int p1), (2, .int p2), (3, .int (0 : Int32)), (4, .int (0 : Int32))]) rfl ?_
  obtain ⟨q6, hqq6, hf⟩ := Option.bind_eq_some_iff.mp hf
  refine am_G.forget (am_subp [0, 1, 2, 3, 4] rfl) (t_Sightings_fitting_L23  am_fu _ _ _ q6 hs hqq6 (fun hs => ?_))
  refine g_aload_n (i := 0) (by decide +kernel) rfl ?_
  refine x_getr (hs.k k_96) F_Sightings_15 (by decide +kernel) rfl (hs.r r_96_3) ?_
  refine g_iload_n (i := 2) (by decide +kernel) rfl ?_
  refine g_iconst (z := (-1)) (v := (-1)) (by decide +kernel) rfl ?_
  refine x_iast hf hs (hs.k k_98) (by decide +kernel) (fun h7 hf hs => ?_)
  refine g_aload_n (i := 0) (by decide +kernel) rfl ?_
  refine g_iload_n (i := 1) (by decide +kernel) rfl ?_
  refine g_aload_n (i := 0) (by decide +kernel) rfl ?_
  refine x_getr (hs.k k_96) F_Sightings_15 (by decide +kernel) rfl (hs.r r_96_3) ?_
  refine x_callVIp (as := [.int p1, .ref 98]) Vi_Sightings_firstBreak Vs_Sightings_firstBreak (hs.k k_96) rfl hf (fun q hq => t_Sightings_firstBreak hs k_98 hq) Y_Sightings_firstBreak L_Sightings_87 (by decide +kernel) rfl rfl (Nat.le_of_ble_eq_true rfl) (by decide) (Nat.le_refl _) (Nat.le_refl _) (fun q8 hf => ?_)
  refine g_iconst (z := (-1)) (v := (-1)) (by decide +kernel) rfl ?_
  refine x_icmp_ne (off := 10) (tgt := 96) hf (by decide +kernel) (by decide) (fun c9 hf => ?_) (fun c9 hf => ?_)
  · refine g_iload_n (i := 3) (by decide +kernel) rfl ?_
    exact x_iret hf hs (by decide +kernel) rfl (Nat.le_refl _) (Nat.le_refl _)
  · refine g_iload_n (i := 3) (by decide +kernel) rfl ?_
    refine g_bipush (z := 16) (v := 16) (by decide +kernel) rfl ?_
    refine g_ior (by decide +kernel) ?_
    refine g_goto (off := 4) (tgt := 97) (by decide +kernel) (by decide) ?_
    exact x_iret hf hs (by decide +kernel) rfl (Nat.le_refl _) (Nat.le_refl _)
def f_Top_fits (p1 : Int32) (p2 : Int32) (p3 : Int32) (h : am_H) : Option (Int32 × am_H) :=
  (f_Top_isTray p1 h).bind fun q1 =>
  (if q1 = true then
    (f_River_hasPerson 1 p2 h).bind fun q3 =>
    (if q3 = true then
      (f_River_hasHour 1 p3 h).bind fun q5 =>
      (if q5 = true then
        (am_el 102 2 4 p1).bind fun e7 =>
        (f_Sightings_take e7 h).bind fun q8 =>
        (if q8.1 = 0 then
          (f_Sightings_fitting p2 p3 q8.2).bind fun q10 =>
          some (q10.1, q10.2)
        else
          some (q8.1, q8.2))
      else
        some ((-2 : Int32), h))
    else
      some ((-2 : Int32), h))
  else
    some ((-2 : Int32), h))
set_option maxRecDepth 100000 in
set_option maxHeartbeats 4000000 in
theorem t_Top_fits {p1 : Int32} {p2 : Int32} {p3 : Int32} {h : am_H} (hs : am_Sh h)  {r : Int32 × am_H} (hf : f_Top_fits p1 p2 p3 h = some r) : am_Ct 4 M_Top_fits [.ref 0, .int p1, .int p2, .int p3] h 0 0 (am_qI r) := by
  unfold f_Top_fits at hf
  refine am_Ct.of (by decide) rfl (Nat.le_of_ble_eq_true rfl) (ls := [(0, .ref 0), (1, .int p1), (2, .int p2), (3, .int p3)]) rfl ?_
  refine g_iload_n (i := 1) (by decide +kernel) rfl ?_
  refine x_callSBp (as := [.int p1]) St_Top_isTray hf (fun q hq => t_Top_isTray hs  hq) Y_Top_isTray L_Top_204 (by decide +kernel) rfl rfl (Nat.le_of_ble_eq_true rfl) (by decide) (Nat.le_refl _) (Nat.le_refl _) (fun q1 hf => ?_)
  refine x_ifb_eq (off := 25) (tgt := 29) hf (by decide +kernel) (by decide) (fun c2 hf => ?_) (fun c2 hf => ?_)
  · refine g_bipush (z := (-2)) (v := (-2)) (by decide +kernel) rfl ?_
    exact x_iret hf hs (by decide +kernel) rfl (Nat.le_refl _) (Nat.le_refl _)
  · refine g_aload_n (i := 0) (by decide +kernel) rfl ?_
    refine x_getr (hs.k k_0) F_Top_10 (by decide +kernel) rfl (hs.r r_0_0) ?_
    refine g_iload_n (i := 2) (by decide +kernel) rfl ?_
    refine x_callVBp (as := [.int p2]) Vi_River_hasPerson Vs_River_hasPerson (hs.k k_1) rfl hf (fun q hq => t_River_hasPerson hs (by decide) hq) Y_River_hasPerson L_Top_140 (by decide +kernel) rfl rfl (Nat.le_of_ble_eq_true rfl) (by decide) (Nat.le_refl _) (Nat.le_refl _) (fun q3 hf => ?_)
    refine x_ifb_eq (off := 14) (tgt := 29) hf (by decide +kernel) (by decide) (fun c4 hf => ?_) (fun c4 hf => ?_)
    · refine g_bipush (z := (-2)) (v := (-2)) (by decide +kernel) rfl ?_
      exact x_iret hf hs (by decide +kernel) rfl (Nat.le_refl _) (Nat.le_refl _)
    · refine g_aload_n (i := 0) (by decide +kernel) rfl ?_
      refine x_getr (hs.k k_0) F_Top_10 (by decide +kernel) rfl (hs.r r_0_0) ?_
      refine g_iload_n (i := 3) (by decide +kernel) rfl ?_
      refine x_callVBp (as := [.int p3]) Vi_River_hasHour Vs_River_hasHour (hs.k k_1) rfl hf (fun q hq => t_River_hasHour hs (by decide) hq) Y_River_hasHour L_Top_177 (by decide +kernel) rfl rfl (Nat.le_of_ble_eq_true rfl) (by decide) (Nat.le_refl _) (Nat.le_refl _) (fun q5 hf => ?_)
      refine x_ifb_ne (off := 6) (tgt := 32) hf (by decide +kernel) (by decide) (fun c6 hf => ?_) (fun c6 hf => ?_)
      · refine g_aload_n (i := 0) (by decide +kernel) rfl ?_
        refine x_getr (hs.k k_0) F_Top_79 (by decide +kernel) rfl (hs.r r_0_11) ?_
        refine g_aload_n (i := 0) (by decide +kernel) rfl ?_
        refine x_getr (hs.k k_0) F_Top_46 (by decide +kernel) rfl (hs.r r_0_6) ?_
        refine g_iload_n (i := 1) (by decide +kernel) rfl ?_
        refine x_aald (a := 102) (s := 2) (t0 := 4) hf (hs.k k_83) rfl (by decide +kernel) (fun j hj => hs.r (e_83 hj).1) (fun j7 hj7 hf => ?_)
        refine x_callVI (as := [.ref (102 + 2 * j7)]) Vi_Sightings_take Vs_Sightings_take (hs.k k_96) rfl hf (fun q hq => t_Sightings_take hs (e_83 hj7).2 hq) Y_Sightings_take L_Top_295 (by decide +kernel) rfl rfl (Nat.le_of_ble_eq_true rfl) (by decide) (Nat.le_refl _) (Nat.le_refl _) (fun q8 hf hs => ?_)
        refine g_istore (i := 4) (by decide +kernel) rfl (by decide) (ls1 := [(0, .ref 0), (1, .int p1), (2, .int p2), (3, .int p3), (4, .int q8.1)]) rfl ?_
        refine g_iload (i := 4) (by decide +kernel) rfl ?_
        refine x_if_eq (off := 8) (tgt := 57) hf (by decide +kernel) (by decide) (fun c9 hf => ?_) (fun c9 hf => ?_)
        · refine g_aload_n (i := 0) (by decide +kernel) rfl ?_
          refine x_getr (hs.k k_0) F_Top_79 (by decide +kernel) rfl (hs.r r_0_11) ?_
          refine g_iload_n (i := 2) (by decide +kernel) rfl ?_
          refine g_iload_n (i := 3) (by decide +kernel) rfl ?_
          refine x_callVI (as := [.int p2, .int p3]) Vi_Sightings_fitting Vs_Sightings_fitting (hs.k k_96) rfl hf (fun q hq => t_Sightings_fitting hs  hq) Y_Sightings_fitting L_Top_299 (by decide +kernel) rfl rfl (Nat.le_of_ble_eq_true rfl) (by decide) (Nat.le_refl _) (Nat.le_refl _) (fun q10 hf hs => ?_)
          exact x_iret hf hs (by decide +kernel) rfl (Nat.le_refl _) (Nat.le_refl _)
        · refine g_iload (i := 4) (by decide +kernel) rfl ?_
          refine g_goto (off := 12) (tgt := 66) (by decide +kernel) (by decide) ?_
          exact x_iret hf hs (by decide +kernel) rfl (Nat.le_refl _) (Nat.le_refl _)
      · refine g_bipush (z := (-2)) (v := (-2)) (by decide +kernel) rfl ?_
        exact x_iret hf hs (by decide +kernel) rfl (Nat.le_refl _) (Nat.le_refl _)
def f_Sightings_surestHour_L8 (p1 : Int32) : Nat → Int32 → Int32 → Int32 → am_H → Option (Int32 × Int32 × Int32 × am_H)
  | 0, _, _, _, _ => none
  | n + 1, v2, v3, v4, h =>
    (if (h.2.1 1 1) ≤ v4 then
      some (v2, v3, v4, h)
    else
      (f_Sightings_fitting p1 v4 h).bind fun q2 =>
      (f_Integer_bitCount q2.1 q2.2).bind fun q3 =>
      (if q3 ≤ 0 then
        f_Sightings_surestHour_L8 p1 n v2 v3 (v4 + (1 : Int32)) q2.2
      else
        (if v3 ≤ q3 then
          f_Sightings_surestHour_L8 p1 n v2 v3 (v4 + (1 : Int32)) q2.2
        else
          f_Sightings_surestHour_L8 p1 n v4 q3 (v4 + (1 : Int32)) q2.2)))
set_option maxRecDepth 100000 in
set_option maxHeartbeats 4000000 in
theorem t_Sightings_surestHour_L8 {p1 : Int32}  {Q : Option Value → am_H → Prop} : ∀ (n : Nat) (v2 : Int32) (v3 : Int32) (v4 : Int32) (h : am_H) (q : Int32 × Int32 × Int32 × am_H), am_Sh h → f_Sightings_surestHour_L8 p1 n v2 v3 v4 h = some q → (am_Sh q.2.2.2 → am_G 4 M_Sightings_surestHour 0 0 Q 55 [(0, .ref 96), (1, .int p1), (2, .int q.1), (3, .int q.2.1), (4, .int q.2.2.1)] [] q.2.2.2 0 0) → am_G 4 M_Sightings_surestHour 0 0 Q 8 [(0, .ref 96), (1, .int p1), (2, .int v2), (3, .int v3), (4, .int v4)] [] h 0 0 := by
  intro n
  induction n with
  | zero =>
    intro v2 v3 v4 h q hs hf kont
    rw [f_Sightings_surestHour_L8] at hf
    cases hf
  | succ n ih =>
    intro v2 v3 v4 h q hs hf kont
    rw [f_Sightings_surestHour_L8] at hf
    refine g_iload (i := 4) (by decide +kernel) rfl ?_
    refine g_aload_n (i := 0) (by decide +kernel) rfl ?_
    refine x_getr (hs.k k_96) F_Sightings_22 (by decide +kernel) rfl (hs.r r_96_0) ?_
    refine x_geti (hs.k k_1) F_Sightings_91 (by decide +kernel) rfl ?_
    refine x_icmp_ge (off := 38) (tgt := 55) hf (by decide +kernel) (by decide) (fun c1 hf => ?_) (fun c1 hf => ?_)
    · cases hf
      exact am_G.forget (am_subp [0, 1, 2, 3, 4] rfl) (kont hs)
    · refine g_aload_n (i := 0) (by decide +kernel) rfl ?_
      refine g_iload_n (i := 1) (by decide +kernel) rfl ?_
      refine g_iload (i := 4) (by decide +kernel) rfl ?_
      refine x_callVI (as := [.int p1, .int v4]) Vi_Sightings_fitting Vs_Sightings_fitting (hs.k k_96) rfl hf (fun q hq => t_Sightings_fitting hs  hq) Y_Sightings_fitting L_Sightings_94 (by decide +kernel) rfl rfl (Nat.le_of_ble_eq_true rfl) (by decide) (Nat.le_refl _) (Nat.le_refl _) (fun q2 hf hs => ?_)
      refine x_callSIp (as := [.int q2.1]) St_Integer_bitCount hf (fun q hq => t_Integer_bitCount hs  hq) Y_Integer_bitCount L_Sightings_98 (by decide +kernel) rfl rfl (Nat.le_of_ble_eq_true rfl) (by decide) (Nat.le_refl _) (Nat.le_refl _) (fun q3 hf => ?_)
      refine g_istore (i := 5) (by decide +kernel) rfl (by decide) (ls1 := [(0, .ref 96), (1, .int p1), (2, .int v2), (3, .int v3), (4, .int v4), (5, .int q3)]) rfl ?_
      refine g_iload (i := 5) (by decide +kernel) rfl ?_
      refine x_if_le (off := 15) (tgt := 49) hf (by decide +kernel) (by decide) (fun c4 hf => ?_) (fun c4 hf => ?_)
      · refine g_iinc (i := 4) (z := 1) (v := (v4 + (1 : Int32))) (by decide +kernel) rfl rfl rfl (by decide) (ls1 := [(0, .ref 96), (1, .int p1), (2, .int v2), (3, .int v3), (4, .int (v4 + (1 : Int32))), (5, .int q3)]) rfl ?_
        refine g_goto (off := (-44)) (tgt := 8) (by decide +kernel) (by decide) ?_
        exact am_G.forget (am_subp [0, 1, 2, 3, 4] rfl) (ih _ _ _ _ _ hs hf kont)
      · refine g_iload (i := 5) (by decide +kernel) rfl ?_
        refine g_iload_n (i := 3) (by decide +kernel) rfl ?_
        refine x_icmp_ge (off := 9) (tgt := 49) hf (by decide +kernel) (by decide) (fun c5 hf => ?_) (fun c5 hf => ?_)
        · refine g_iinc (i := 4) (z := 1) (v := (v4 + (1 : Int32))) (by decide +kernel) rfl rfl rfl (by decide) (ls1 := [(0, .ref 96), (1, .int p1), (2, .int v2), (3, .int v3), (4, .int (v4 + (1 : Int32))), (5, .int q3)]) rfl ?_
          refine g_goto (off := (-44)) (tgt := 8) (by decide +kernel) (by decide) ?_
          exact am_G.forget (am_subp [0, 1, 2, 3, 4] rfl) (ih _ _ _ _ _ hs hf kont)
        · refine g_iload (i := 5) (by decide +kernel) rfl ?_
          refine g_istore_n (i := 3) (by decide +kernel) rfl (by decide) (ls1 := [(0, .ref 96), (1, .int p1), (2, .int v2), (3, .int q3), (4, .int v4), (5, .int q3)]) rfl ?_
          refine g_iload (i := 4) (by decide +kernel) rfl ?_
          refine g_istore_n (i := 2) (by decide +kernel) rfl (by decide) (ls1 := [(0, .ref 96), (1, .int p1), (2, .int v4), (3, .int q3), (4, .int v4), (5, .int q3)]) rfl ?_
          refine g_iinc (i := 4) (z := 1) (v := (v4 + (1 : Int32))) (by decide +kernel) rfl rfl rfl (by decide) (ls1 := [(0, .ref 96), (1, .int p1), (2, .int v4), (3, .int q3), (4, .int (v4 + (1 : Int32))), (5, .int q3)]) rfl ?_
          refine g_goto (off := (-44)) (tgt := 8) (by decide +kernel) (by decide) ?_
          exact am_G.forget (am_subp [0, 1, 2, 3, 4] rfl) (ih _ _ _ _ _ hs hf kont)
def f_Sightings_surestHour (p1 : Int32) (h : am_H) : Option (Int32 × am_H) :=
  (f_Sightings_surestHour_L8 p1 am_fu (-1 : Int32) (9 : Int32) (0 : Int32) h).bind fun q6 =>
  some (q6.1, q6.2.2.2)
set_option maxRecDepth 100000 in
set_option maxHeartbeats 4000000 in
theorem t_Sightings_surestHour {p1 : Int32} {h : am_H} (hs : am_Sh h)  {r : Int32 × am_H} (hf : f_Sightings_surestHour p1 h = some r) : am_Ct 4 M_Sightings_surestHour [.ref 96, .int p1] h 0 0 (am_qI r) := by
  unfold f_Sightings_surestHour at hf
  refine am_Ct.of (by decide) rfl (Nat.le_of_ble_eq_true rfl) (ls := [(0, .ref 96), (1, .int p1)]) rfl ?_
  refine g_iconst (z := (-1)) (v := (-1)) (by decide +kernel) rfl ?_
  refine g_istore_n (i := 2) (by decide +kernel) rfl (by decide) (ls1 := [(0, .ref 96), (1, .int p1), (2, .int (-1 : Int32))]) rfl ?_
  refine g_bipush (z := 9) (v := 9) (by decide +kernel) rfl ?_
  refine g_istore_n (i := 3) (by decide +kernel) rfl (by decide) (ls1 := [(0, .ref 96), (1, .int p1), (2, .int (-1 : Int32)), (3, .int (9 : Int32))]) rfl ?_
  refine g_iconst (z := 0) (v := 0) (by decide +kernel) rfl ?_
  refine g_istore (i := 4) (by decide +kernel) rfl (by decide) (ls1 := [(0, .ref 96), (1, .int p1), (2, .int (-1 : Int32)), (3, .int (9 : Int32)), (4, .int (0 : Int32))]) rfl ?_
  obtain ⟨q6, hqq6, hf⟩ := Option.bind_eq_some_iff.mp hf
  refine am_G.forget (am_subp [0, 1, 2, 3, 4] rfl) (t_Sightings_surestHour_L8  am_fu _ _ _ _ q6 hs hqq6 (fun hs => ?_))
  refine g_iload_n (i := 2) (by decide +kernel) rfl ?_
  exact x_iret hf hs (by decide +kernel) rfl (Nat.le_refl _) (Nat.le_refl _)
def f_Top_surest (p1 : Int32) (p2 : Int32) (h : am_H) : Option (Int32 × am_H) :=
  (f_Top_isTray p1 h).bind fun q1 =>
  (if q1 = true then
    (f_River_hasPerson 1 p2 h).bind fun q3 =>
    (if q3 = true then
      (am_el 102 2 4 p1).bind fun e5 =>
      (f_Sightings_take e5 h).bind fun q6 =>
      (if q6.1 = 0 then
        (f_Sightings_surestHour p2 q6.2).bind fun q8 =>
        some (q8.1, q8.2)
      else
        some (q6.1, q6.2))
    else
      some ((-2 : Int32), h))
  else
    some ((-2 : Int32), h))
set_option maxRecDepth 100000 in
set_option maxHeartbeats 4000000 in
theorem t_Top_surest {p1 : Int32} {p2 : Int32} {h : am_H} (hs : am_Sh h)  {r : Int32 × am_H} (hf : f_Top_surest p1 p2 h = some r) : am_Ct 5 M_Top_surest [.ref 0, .int p1, .int p2] h 0 0 (am_qI r) := by
  unfold f_Top_surest at hf
  refine am_Ct.of (by decide) rfl (Nat.le_of_ble_eq_true rfl) (ls := [(0, .ref 0), (1, .int p1), (2, .int p2)]) rfl ?_
  refine g_iload_n (i := 1) (by decide +kernel) rfl ?_
  refine x_callSBp (as := [.int p1]) St_Top_isTray hf (fun q hq => t_Top_isTray hs  hq) Y_Top_isTray L_Top_204 (by decide +kernel) rfl rfl (Nat.le_of_ble_eq_true rfl) (by decide) (Nat.le_refl _) (Nat.le_refl _) (fun q1 hf => ?_)
  refine x_ifb_eq (off := 14) (tgt := 18) hf (by decide +kernel) (by decide) (fun c2 hf => ?_) (fun c2 hf => ?_)
  · refine g_bipush (z := (-2)) (v := (-2)) (by decide +kernel) rfl ?_
    exact x_iret hf hs (by decide +kernel) rfl (Nat.le_refl _) (Nat.le_refl _)
  · refine g_aload_n (i := 0) (by decide +kernel) rfl ?_
    refine x_getr (hs.k k_0) F_Top_10 (by decide +kernel) rfl (hs.r r_0_0) ?_
    refine g_iload_n (i := 2) (by decide +kernel) rfl ?_
    refine x_callVBp (as := [.int p2]) Vi_River_hasPerson Vs_River_hasPerson (hs.k k_1) rfl hf (fun q hq => t_River_hasPerson hs (by decide) hq) Y_River_hasPerson L_Top_140 (by decide +kernel) rfl rfl (Nat.le_of_ble_eq_true rfl) (by decide) (Nat.le_refl _) (Nat.le_refl _) (fun q3 hf => ?_)
    refine x_ifb_ne (off := 6) (tgt := 21) hf (by decide +kernel) (by decide) (fun c4 hf => ?_) (fun c4 hf => ?_)
    · refine g_aload_n (i := 0) (by decide +kernel) rfl ?_
      refine x_getr (hs.k k_0) F_Top_79 (by decide +kernel) rfl (hs.r r_0_11) ?_
      refine g_aload_n (i := 0) (by decide +kernel) rfl ?_
      refine x_getr (hs.k k_0) F_Top_46 (by decide +kernel) rfl (hs.r r_0_6) ?_
      refine g_iload_n (i := 1) (by decide +kernel) rfl ?_
      refine x_aald (a := 102) (s := 2) (t0 := 4) hf (hs.k k_83) rfl (by decide +kernel) (fun j hj => hs.r (e_83 hj).1) (fun j5 hj5 hf => ?_)
      refine x_callVI (as := [.ref (102 + 2 * j5)]) Vi_Sightings_take Vs_Sightings_take (hs.k k_96) rfl hf (fun q hq => t_Sightings_take hs (e_83 hj5).2 hq) Y_Sightings_take L_Top_295 (by decide +kernel) rfl rfl (Nat.le_of_ble_eq_true rfl) (by decide) (Nat.le_refl _) (Nat.le_refl _) (fun q6 hf hs => ?_)
      refine g_istore_n (i := 3) (by decide +kernel) rfl (by decide) (ls1 := [(0, .ref 0), (1, .int p1), (2, .int p2), (3, .int q6.1)]) rfl ?_
      refine g_iload_n (i := 3) (by decide +kernel) rfl ?_
      refine x_if_eq (off := 7) (tgt := 43) hf (by decide +kernel) (by decide) (fun c7 hf => ?_) (fun c7 hf => ?_)
      · refine g_aload_n (i := 0) (by decide +kernel) rfl ?_
        refine x_getr (hs.k k_0) F_Top_79 (by decide +kernel) rfl (hs.r r_0_11) ?_
        refine g_iload_n (i := 2) (by decide +kernel) rfl ?_
        refine x_callVI (as := [.int p2]) Vi_Sightings_surestHour Vs_Sightings_surestHour (hs.k k_96) rfl hf (fun q hq => t_Sightings_surestHour hs  hq) Y_Sightings_surestHour L_Top_302 (by decide +kernel) rfl rfl (Nat.le_of_ble_eq_true rfl) (by decide) (Nat.le_refl _) (Nat.le_refl _) (fun q8 hf hs => ?_)
        exact x_iret hf hs (by decide +kernel) rfl (Nat.le_refl _) (Nat.le_refl _)
      · refine g_iload_n (i := 3) (by decide +kernel) rfl ?_
        refine g_goto (off := 11) (tgt := 51) (by decide +kernel) (by decide) ?_
        exact x_iret hf hs (by decide +kernel) rfl (Nat.le_refl _) (Nat.le_refl _)
    · refine g_bipush (z := (-2)) (v := (-2)) (by decide +kernel) rfl ?_
      exact x_iret hf hs (by decide +kernel) rfl (Nat.le_refl _) (Nat.le_refl _)
