def f_Mod_inTimeSet_L4  : Nat → Int32 → Int32 → am_H → Option (Int32 × Int32 × am_H)
  | 0, _, _, _ => none
  | n + 1, v1, v2, h =>
    (am_rd (h.2.1 137) 3411 (3 : Int32)).bind fun x1 =>
    (if x1 ≤ v2 then
      some (v1, v2, h)
    else
      (f_Mod_isErrand v2 h).bind fun q3 =>
      (if q3 = true then
        (f_Mod_laysLets v2 h).bind fun q5 =>
        (f_Mod_isInTime v2 (0 : Int32) q5).bind fun q6 =>
        (if q6 = true then
          f_Mod_inTimeSet_L4  n (v1 ||| ((1 : Int32) <<< (v2 &&& 31))) (v2 + (1 : Int32)) q5
        else
          f_Mod_inTimeSet_L4  n (v1 ||| (0 : Int32)) (v2 + (1 : Int32)) q5)
      else
        f_Mod_inTimeSet_L4  n v1 (v2 + (1 : Int32)) h))
set_option maxRecDepth 100000 in
set_option maxHeartbeats 4000000 in
theorem t_Mod_inTimeSet_L4   {Q : Option Value → am_H → Prop} : ∀ (n : Nat) (v1 : Int32) (v2 : Int32) (h : am_H) (q : Int32 × Int32 × am_H), am_Sh h → f_Mod_inTimeSet_L4  n v1 v2 h = some q → (am_Sh q.2.2 → am_G 4 M_Mod_inTimeSet 0 0 Q 55 [(0, .ref 136), (1, .int q.1), (2, .int q.2.1)] [] q.2.2 0 0) → am_G 4 M_Mod_inTimeSet 0 0 Q 4 [(0, .ref 136), (1, .int v1), (2, .int v2)] [] h 0 0 := by
  intro n
  induction n with
  | zero =>
    intro v1 v2 h q hs hf kont
    rw [f_Mod_inTimeSet_L4] at hf
    cases hf
  | succ n ih =>
    intro v1 v2 h q hs hf kont
    rw [f_Mod_inTimeSet_L4] at hf
    refine g_iload_n (i := 2) (by decide +kernel) rfl ?_
    refine g_aload_n (i := 0) (by decide +kernel) rfl ?_
    refine x_getr (hs.k k_136) F_Mod_13 (by decide +kernel) rfl (hs.r r_136_1) ?_
    refine g_iconst (z := 3) (v := 3) (by decide +kernel) rfl ?_
    refine x_iald hf (hs.k k_137) (by decide +kernel) (fun x1 hf => ?_)
    refine x_icmp_ge (off := 44) (tgt := 55) hf (by decide +kernel) (by decide) (fun c2 hf => ?_) (fun c2 hf => ?_)
    · cases hf
      exact am_G.forget (am_subp [0, 1, 2] rfl) (kont hs)
    · refine g_aload_n (i := 0) (by decide +kernel) rfl ?_
      refine g_iload_n (i := 2) (by decide +kernel) rfl ?_
      refine x_callVBp (as := [.int v2]) Vi_Mod_isErrand Vs_Mod_isErrand (hs.k k_136) rfl hf (fun q hq => t_Mod_isErrand hs  hq) Y_Mod_isErrand L_Mod_362 (by decide +kernel) rfl rfl (Nat.le_of_ble_eq_true rfl) (by decide) (Nat.le_refl _) (Nat.le_refl _) (fun q3 hf => ?_)
      refine x_ifb_ne (off := 6) (tgt := 25) hf (by decide +kernel) (by decide) (fun c4 hf => ?_) (fun c4 hf => ?_)
      · refine g_aload_n (i := 0) (by decide +kernel) rfl ?_
        refine g_iload_n (i := 2) (by decide +kernel) rfl ?_
        refine x_callVV (as := [.int v2]) Vi_Mod_laysLets Vs_Mod_laysLets (hs.k k_136) rfl hf (fun q hq => t_Mod_laysLets hs  hq) Y_Mod_laysLets L_Mod_333 (by decide +kernel) rfl rfl (Nat.le_of_ble_eq_true rfl) (by decide) (Nat.le_refl _) (Nat.le_refl _) (fun q5 hf hs => ?_)
        refine g_iload_n (i := 1) (by decide +kernel) rfl ?_
        refine g_aload_n (i := 0) (by decide +kernel) rfl ?_
        refine g_iload_n (i := 2) (by decide +kernel) rfl ?_
        refine g_iconst (z := 0) (v := 0) (by decide +kernel) rfl ?_
        refine x_callVBp (as := [.int v2, .int (0 : Int32)]) Vi_Mod_isInTime Vs_Mod_isInTime (hs.k k_136) rfl hf (fun q hq => t_Mod_isInTime hs  hq) Y_Mod_isInTime L_Mod_365 (by decide +kernel) rfl rfl (Nat.le_of_ble_eq_true rfl) (by decide) (Nat.le_refl _) (Nat.le_refl _) (fun q6 hf => ?_)
        refine x_ifb_eq (off := 9) (tgt := 46) hf (by decide +kernel) (by decide) (fun c7 hf => ?_) (fun c7 hf => ?_)
        · refine g_iconst (z := 0) (v := 0) (by decide +kernel) rfl ?_
          refine g_ior (by decide +kernel) ?_
          refine g_istore_n (i := 1) (by decide +kernel) rfl (by decide) (ls1 := [(0, .ref 136), (1, .int (v1 ||| (0 : Int32))), (2, .int v2)]) rfl ?_
          refine g_iinc (i := 2) (z := 1) (v := (v2 + (1 : Int32))) (by decide +kernel) rfl rfl rfl (by decide) (ls1 := [(0, .ref 136), (1, .int (v1 ||| (0 : Int32))), (2, .int (v2 + (1 : Int32)))]) rfl ?_
          refine g_goto (off := (-48)) (tgt := 4) (by decide +kernel) (by decide) ?_
          exact am_G.forget (am_subp [0, 1, 2] rfl) (ih _ _ _ _ hs hf kont)
        · refine g_iconst (z := 1) (v := 1) (by decide +kernel) rfl ?_
          refine g_iload_n (i := 2) (by decide +kernel) rfl ?_
          refine g_ishl (by decide +kernel) ?_
          refine g_goto (off := 4) (tgt := 47) (by decide +kernel) (by decide) ?_
          refine g_ior (by decide +kernel) ?_
          refine g_istore_n (i := 1) (by decide +kernel) rfl (by decide) (ls1 := [(0, .ref 136), (1, .int (v1 ||| ((1 : Int32) <<< (v2 &&& 31)))), (2, .int v2)]) rfl ?_
          refine g_iinc (i := 2) (z := 1) (v := (v2 + (1 : Int32))) (by decide +kernel) rfl rfl rfl (by decide) (ls1 := [(0, .ref 136), (1, .int (v1 ||| ((1 : Int32) <<< (v2 &&& 31)))), (2, .int (v2 + (1 : Int32)))]) rfl ?_
          refine g_goto (off := (-48)) (tgt := 4) (by decide +kernel) (by decide) ?_
          exact am_G.forget (am_subp [0, 1, 2] rfl) (ih _ _ _ _ hs hf kont)
      · refine g_goto (off := 27) (tgt := 49) (by decide +kernel) (by decide) ?_
        refine g_iinc (i := 2) (z := 1) (v := (v2 + (1 : Int32))) (by decide +kernel) rfl rfl rfl (by decide) (ls1 := [(0, .ref 136), (1, .int v1), (2, .int (v2 + (1 : Int32)))]) rfl ?_
        refine g_goto (off := (-48)) (tgt := 4) (by decide +kernel) (by decide) ?_
        exact am_G.forget (am_subp [0, 1, 2] rfl) (ih _ _ _ _ hs hf kont)
def f_Mod_inTimeSet  (h : am_H) : Option (Int32 × am_H) :=
  (f_Mod_inTimeSet_L4  am_fu (0 : Int32) (0 : Int32) h).bind fun q8 =>
  some (q8.1, q8.2.2)
set_option maxRecDepth 100000 in
set_option maxHeartbeats 4000000 in
theorem t_Mod_inTimeSet  {h : am_H} (hs : am_Sh h)  {r : Int32 × am_H} (hf : f_Mod_inTimeSet  h = some r) : am_Ct 4 M_Mod_inTimeSet [.ref 136] h 0 0 (am_qI r) := by
  unfold f_Mod_inTimeSet at hf
  refine am_Ct.of (by decide) rfl (Nat.le_of_ble_eq_true rfl) (ls := [(0, .ref 136)]) rfl ?_
  refine g_iconst (z := 0) (v := 0) (by decide +kernel) rfl ?_
  refine g_istore_n (i := 1) (by decide +kernel) rfl (by decide) (ls1 := [(0, .ref 136), (1, .int (0 : Int32))]) rfl ?_
  refine g_iconst (z := 0) (v := 0) (by decide +kernel) rfl ?_
  refine g_istore_n (i := 2) (by decide +kernel) rfl (by decide) (ls1 := [(0, .ref 136), (1, .int (0 : Int32)), (2, .int (0 : Int32))]) rfl ?_
  obtain ⟨q8, hqq8, hf⟩ := Option.bind_eq_some_iff.mp hf
  refine am_G.forget (am_subp [0, 1, 2] rfl) (t_Mod_inTimeSet_L4  am_fu _ _ _ q8 hs hqq8 (fun hs => ?_))
  refine g_iload_n (i := 1) (by decide +kernel) rfl ?_
  exact x_iret hf hs (by decide +kernel) rfl (Nat.le_refl _) (Nat.le_refl _)
def f_Mod_inTime  (h : am_H) : Option (Int32 × am_H) :=
  am_let (am_sI h 136 0 (0 : Int32)) fun h1 =>
  (f_Mod_inTimeSet  h1).bind fun q2 =>
  some (q2.1, q2.2)
set_option maxRecDepth 100000 in
set_option maxHeartbeats 4000000 in
theorem t_Mod_inTime  {h : am_H} (hs : am_Sh h)  {r : Int32 × am_H} (hf : f_Mod_inTime  h = some r) : am_Ct 5 M_Mod_inTime [.ref 136] h 0 0 (am_qI r) := by
  unfold f_Mod_inTime at hf
  refine am_Ct.of (by decide) rfl (Nat.le_of_ble_eq_true rfl) (ls := [(0, .ref 136)]) rfl ?_
  refine g_aload_n (i := 0) (by decide +kernel) rfl ?_
  refine g_iconst (z := 0) (v := 0) (by decide +kernel) rfl ?_
  refine x_puti hf hs (hs.k k_136) F_Mod_1 (by decide +kernel) rfl rfl rfl rfl (fun h1 hf hs => ?_)
  refine g_aload_n (i := 0) (by decide +kernel) rfl ?_
  refine x_callVI (as := []) Vi_Mod_inTimeSet Vs_Mod_inTimeSet (hs.k k_136) rfl hf (fun q hq => t_Mod_inTimeSet hs  hq) Y_Mod_inTimeSet L_Mod_369 (by decide +kernel) rfl rfl (Nat.le_of_ble_eq_true rfl) (by decide) (Nat.le_refl _) (Nat.le_refl _) (fun q2 hf hs => ?_)
  exact x_iret hf hs (by decide +kernel) rfl (Nat.le_refl _) (Nat.le_refl _)
def f_Mod_spare_L37 (p1 : Int32) : Nat → Int32 → Int32 → am_H → Option (Int32 × Int32)
  | 0, _, _, _ => none
  | n + 1, v2, v3, h =>
    (if (60 : Int32) < v3 then
      some (v2, v3)
    else
      (f_Mod_isInTime p1 v3 h).bind fun q8 =>
      (if q8 = true then
        f_Mod_spare_L37 p1 n v3 (v3 + (1 : Int32)) h
      else
        f_Mod_spare_L37 p1 n v2 (v3 + (1 : Int32)) h))
set_option maxRecDepth 100000 in
set_option maxHeartbeats 4000000 in
theorem t_Mod_spare_L37 {p1 : Int32}  {Q : Option Value → am_H → Prop} : ∀ (n : Nat) (v2 : Int32) (v3 : Int32) (h : am_H) (q : Int32 × Int32), am_Sh h → f_Mod_spare_L37 p1 n v2 v3 h = some q → (am_G 4 M_Mod_spare 0 0 Q 60 [(0, .ref 136), (1, .int p1), (2, .int q.1), (3, .int q.2)] [] h 0 0) → am_G 4 M_Mod_spare 0 0 Q 37 [(0, .ref 136), (1, .int p1), (2, .int v2), (3, .int v3)] [] h 0 0 := by
  intro n
  induction n with
  | zero =>
    intro v2 v3 h q hs hf kont
    rw [f_Mod_spare_L37] at hf
    cases hf
  | succ n ih =>
    intro v2 v3 h q hs hf kont
    rw [f_Mod_spare_L37] at hf
    refine g_iload_n (i := 3) (by decide +kernel) rfl ?_
    refine g_bipush (z := 60) (v := 60) (by decide +kernel) rfl ?_
    refine x_icmp_gt (off := 20) (tgt := 60) hf (by decide +kernel) (by decide) (fun c7 hf => ?_) (fun c7 hf => ?_)
    · cases hf
      exact am_G.forget (am_subp [0, 1, 2, 3] rfl) kont
    · refine g_aload_n (i := 0) (by decide +kernel) rfl ?_
      refine g_iload_n (i := 1) (by decide +kernel) rfl ?_
      refine g_iload_n (i := 3) (by decide +kernel) rfl ?_
      refine x_callVBp (as := [.int p1, .int v3]) Vi_Mod_isInTime Vs_Mod_isInTime (hs.k k_136) rfl hf (fun q hq => t_Mod_isInTime hs  hq) Y_Mod_isInTime L_Mod_365 (by decide +kernel) rfl rfl (Nat.le_of_ble_eq_true rfl) (by decide) (Nat.le_refl _) (Nat.le_refl _) (fun q8 hf => ?_)
      refine x_ifb_eq (off := 5) (tgt := 54) hf (by decide +kernel) (by decide) (fun c9 hf => ?_) (fun c9 hf => ?_)
      · refine g_iinc (i := 3) (z := 1) (v := (v3 + (1 : Int32))) (by decide +kernel) rfl rfl rfl (by decide) (ls1 := [(0, .ref 136), (1, .int p1), (2, .int v2), (3, .int (v3 + (1 : Int32)))]) rfl ?_
        refine g_goto (off := (-20)) (tgt := 37) (by decide +kernel) (by decide) ?_
        exact am_G.forget (am_subp [0, 1, 2, 3] rfl) (ih _ _ _ _ hs hf kont)
      · refine g_iload_n (i := 3) (by decide +kernel) rfl ?_
        refine g_istore_n (i := 2) (by decide +kernel) rfl (by decide) (ls1 := [(0, .ref 136), (1, .int p1), (2, .int v3), (3, .int v3)]) rfl ?_
        refine g_iinc (i := 3) (z := 1) (v := (v3 + (1 : Int32))) (by decide +kernel) rfl rfl rfl (by decide) (ls1 := [(0, .ref 136), (1, .int p1), (2, .int v3), (3, .int (v3 + (1 : Int32)))]) rfl ?_
        refine g_goto (off := (-20)) (tgt := 37) (by decide +kernel) (by decide) ?_
        exact am_G.forget (am_subp [0, 1, 2, 3] rfl) (ih _ _ _ _ hs hf kont)
def f_Mod_spare (p1 : Int32) (h : am_H) : Option (Int32 × am_H) :=
  am_let (am_sI h 136 0 (0 : Int32)) fun h1 =>
  (f_Mod_isPerson ((p1).toInt64) h1).bind fun q2 =>
  (if q2 = true then
    (f_Mod_isErrand p1 h1).bind fun q4 =>
    (if q4 = true then
      (f_Mod_laysLets p1 h1).bind fun q6 =>
      (f_Mod_spare_L37 p1 am_fu (-1 : Int32) (0 : Int32) q6).bind fun q10 =>
      some (q10.1, q6)
    else
      some ((-5 : Int32), h1))
  else
    some ((-2 : Int32), h1))
set_option maxRecDepth 100000 in
set_option maxHeartbeats 4000000 in
theorem t_Mod_spare {p1 : Int32} {h : am_H} (hs : am_Sh h)  {r : Int32 × am_H} (hf : f_Mod_spare p1 h = some r) : am_Ct 4 M_Mod_spare [.ref 136, .int p1] h 0 0 (am_qI r) := by
  unfold f_Mod_spare at hf
  refine am_Ct.of (by decide) rfl (Nat.le_of_ble_eq_true rfl) (ls := [(0, .ref 136), (1, .int p1)]) rfl ?_
  refine g_aload_n (i := 0) (by decide +kernel) rfl ?_
  refine g_iconst (z := 0) (v := 0) (by decide +kernel) rfl ?_
  refine x_puti hf hs (hs.k k_136) F_Mod_1 (by decide +kernel) rfl rfl rfl rfl (fun h1 hf hs => ?_)
  refine g_aload_n (i := 0) (by decide +kernel) rfl ?_
  refine g_iload_n (i := 1) (by decide +kernel) rfl ?_
  refine g_i2l (by decide +kernel) ?_
  refine x_callVBp (as := [.long ((p1).toInt64)]) Vi_Mod_isPerson Vs_Mod_isPerson (hs.k k_136) rfl hf (fun q hq => t_Mod_isPerson hs  hq) Y_Mod_isPerson L_Mod_245 (by decide +kernel) rfl rfl (Nat.le_of_ble_eq_true rfl) (by decide) (Nat.le_refl _) (Nat.le_refl _) (fun q2 hf => ?_)
  refine x_ifb_ne (off := 6) (tgt := 17) hf (by decide +kernel) (by decide) (fun c3 hf => ?_) (fun c3 hf => ?_)
  · refine g_aload_n (i := 0) (by decide +kernel) rfl ?_
    refine g_iload_n (i := 1) (by decide +kernel) rfl ?_
    refine x_callVBp (as := [.int p1]) Vi_Mod_isErrand Vs_Mod_isErrand (hs.k k_136) rfl hf (fun q hq => t_Mod_isErrand hs  hq) Y_Mod_isErrand L_Mod_362 (by decide +kernel) rfl rfl (Nat.le_of_ble_eq_true rfl) (by decide) (Nat.le_refl _) (Nat.le_refl _) (fun q4 hf => ?_)
    refine x_ifb_ne (off := 6) (tgt := 28) hf (by decide +kernel) (by decide) (fun c5 hf => ?_) (fun c5 hf => ?_)
    · refine g_aload_n (i := 0) (by decide +kernel) rfl ?_
      refine g_iload_n (i := 1) (by decide +kernel) rfl ?_
      refine x_callVV (as := [.int p1]) Vi_Mod_laysLets Vs_Mod_laysLets (hs.k k_136) rfl hf (fun q hq => t_Mod_laysLets hs  hq) Y_Mod_laysLets L_Mod_333 (by decide +kernel) rfl rfl (Nat.le_of_ble_eq_true rfl) (by decide) (Nat.le_refl _) (Nat.le_refl _) (fun q6 hf hs => ?_)
      refine g_iconst (z := (-1)) (v := (-1)) (by decide +kernel) rfl ?_
      refine g_istore_n (i := 2) (by decide +kernel) rfl (by decide) (ls1 := [(0, .ref 136), (1, .int p1), (2, .int (-1 : Int32))]) rfl ?_
      refine g_iconst (z := 0) (v := 0) (by decide +kernel) rfl ?_
      refine g_istore_n (i := 3) (by decide +kernel) rfl (by decide) (ls1 := [(0, .ref 136), (1, .int p1), (2, .int (-1 : Int32)), (3, .int (0 : Int32))]) rfl ?_
      obtain ⟨q10, hqq10, hf⟩ := Option.bind_eq_some_iff.mp hf
      refine am_G.forget (am_subp [0, 1, 2, 3] rfl) (t_Mod_spare_L37  am_fu _ _ _ q10 hs hqq10 ?_)
      refine g_iload_n (i := 2) (by decide +kernel) rfl ?_
      exact x_iret hf hs (by decide +kernel) rfl (Nat.le_refl _) (Nat.le_refl _)
    · refine g_bipush (z := (-5)) (v := (-5)) (by decide +kernel) rfl ?_
      exact x_iret hf hs (by decide +kernel) rfl (Nat.le_refl _) (Nat.le_refl _)
  · refine g_bipush (z := (-2)) (v := (-2)) (by decide +kernel) rfl ?_
    exact x_iret hf hs (by decide +kernel) rfl (Nat.le_refl _) (Nat.le_refl _)
def f_Mod_needs_L48 (p1 : Int32) : Nat → Int32 → Int32 → am_H → Option (Int32 × Int32 × am_H)
  | 0, _, _, _ => none
  | n + 1, v2, v3, h =>
    (am_rd (h.2.1 137) 3411 (2 : Int32)).bind fun x9 =>
    (if x9 ≤ v3 then
      some (v2, v3, h)
    else
      (am_rd (h.2.1 137) 3411 ((29 : Int32) + v3)).bind fun x11 =>
      (am_wr h 137 3411 ((29 : Int32) + v3) (-1 : Int32)).bind fun h12 =>
      (f_Mod_isInTime p1 (0 : Int32) h12).bind fun q13 =>
      am_let (v2 ||| (if q13 = true then (0 : Int32) else ((1 : Int32) <<< (v3 &&& 31)))) fun y15 =>
      (am_wr h12 137 3411 ((29 : Int32) + v3) x11).bind fun h16 =>
      f_Mod_needs_L48 p1 n y15 (v3 + (1 : Int32)) h16)
set_option maxRecDepth 100000 in
set_option maxHeartbeats 4000000 in
theorem t_Mod_needs_L48 {p1 : Int32}  {Q : Option Value → am_H → Prop} : ∀ (n : Nat) (v2 : Int32) (v3 : Int32) (h : am_H) (q : Int32 × Int32 × am_H), am_Sh h → f_Mod_needs_L48 p1 n v2 v3 h = some q → (am_Sh q.2.2 → am_G 4 M_Mod_needs 0 0 Q 115 [(0, .ref 136), (1, .int p1), (2, .int q.1), (3, .int q.2.1)] [] q.2.2 0 0) → am_G 4 M_Mod_needs 0 0 Q 48 [(0, .ref 136), (1, .int p1), (2, .int v2), (3, .int v3)] [] h 0 0 := by
  intro n
  induction n with
  | zero =>
    intro v2 v3 h q hs hf kont
    rw [f_Mod_needs_L48] at hf
    cases hf
  | succ n ih =>
    intro v2 v3 h q hs hf kont
    rw [f_Mod_needs_L48] at hf
    refine g_iload_n (i := 3) (by decide +kernel) rfl ?_
    refine g_aload_n (i := 0) (by decide +kernel) rfl ?_
    refine x_getr (hs.k k_136) F_Mod_13 (by decide +kernel) rfl (hs.r r_136_1) ?_
    refine g_iconst (z := 2) (v := 2) (by decide +kernel) rfl ?_
    refine x_iald hf (hs.k k_137) (by decide +kernel) (fun x9 hf => ?_)
    refine x_icmp_ge (off := 60) (tgt := 115) hf (by decide +kernel) (by decide) (fun c10 hf => ?_) (fun c10 hf => ?_)
    · cases hf
      exact am_G.forget (am_subp [0, 1, 2, 3] rfl) (kont hs)
    · refine g_aload_n (i := 0) (by decide +kernel) rfl ?_
      refine x_getr (hs.k k_136) F_Mod_13 (by decide +kernel) rfl (hs.r r_136_1) ?_
      refine g_bipush (z := 29) (v := 29) (by decide +kernel) rfl ?_
      refine g_iload_n (i := 3) (by decide +kernel) rfl ?_
      refine g_iadd (by decide +kernel) ?_
      refine x_iald hf (hs.k k_137) (by decide +kernel) (fun x11 hf => ?_)
      refine g_istore (i := 4) (by decide +kernel) rfl (by decide) (ls1 := [(0, .ref 136), (1, .int p1), (2, .int v2), (3, .int v3), (4, .int x11)]) rfl ?_
      refine g_aload_n (i := 0) (by decide +kernel) rfl ?_
      refine x_getr (hs.k k_136) F_Mod_13 (by decide +kernel) rfl (hs.r r_136_1) ?_
      refine g_bipush (z := 29) (v := 29) (by decide +kernel) rfl ?_
      refine g_iload_n (i := 3) (by decide +kernel) rfl ?_
      refine g_iadd (by decide +kernel) ?_
      refine g_iconst (z := (-1)) (v := (-1)) (by decide +kernel) rfl ?_
      refine x_iast hf hs (hs.k k_137) (by decide +kernel) (fun h12 hf hs => ?_)
      refine g_iload_n (i := 2) (by decide +kernel) rfl ?_
      refine g_aload_n (i := 0) (by decide +kernel) rfl ?_
      refine g_iload_n (i := 1) (by decide +kernel) rfl ?_
      refine g_iconst (z := 0) (v := 0) (by decide +kernel) rfl ?_
      refine x_callVBp (as := [.int p1, .int (0 : Int32)]) Vi_Mod_isInTime Vs_Mod_isInTime (hs.k k_136) rfl hf (fun q hq => t_Mod_isInTime hs  hq) Y_Mod_isInTime L_Mod_365 (by decide +kernel) rfl rfl (Nat.le_of_ble_eq_true rfl) (by decide) (Nat.le_refl _) (Nat.le_refl _) (fun q13 hf => ?_)
      refine am_cut (J := 96) (ls' := [(0, .ref 136), (1, .int p1), (2, .int v2), (3, .int v3), (4, .int x11)]) (st' := [.int (if q13 = true then (0 : Int32) else ((1 : Int32) <<< (v3 &&& 31))), .int v2]) ?_ (fun K96 => ?_)
      · refine g_ior (by decide +kernel) ?_
        refine x_nmI hf (fun y15 hf => ?_)
        refine g_istore_n (i := 2) (by decide +kernel) rfl (by decide) (ls1 := [(0, .ref 136), (1, .int p1), (2, .int y15), (3, .int v3), (4, .int x11)]) rfl ?_
        refine g_aload_n (i := 0) (by decide +kernel) rfl ?_
        refine x_getr (hs.k k_136) F_Mod_13 (by decide +kernel) rfl (hs.r r_136_1) ?_
        refine g_bipush (z := 29) (v := 29) (by decide +kernel) rfl ?_
        refine g_iload_n (i := 3) (by decide +kernel) rfl ?_
        refine g_iadd (by decide +kernel) ?_
        refine g_iload (i := 4) (by decide +kernel) rfl ?_
        refine x_iast hf hs (hs.k k_137) (by decide +kernel) (fun h16 hf hs => ?_)
        refine g_iinc (i := 3) (z := 1) (v := (v3 + (1 : Int32))) (by decide +kernel) rfl rfl rfl (by decide) (ls1 := [(0, .ref 136), (1, .int p1), (2, .int y15), (3, .int (v3 + (1 : Int32))), (4, .int x11)]) rfl ?_
        refine g_goto (off := (-64)) (tgt := 48) (by decide +kernel) (by decide) ?_
        exact am_G.forget (am_subp [0, 1, 2, 3] rfl) (ih _ _ _ _ hs hf kont)
      refine p_ifb_eq (off := 7) (tgt := 93) (by decide +kernel) (by decide) (fun c14 => ?_) (fun c14 => ?_)
      · refine g_iconst (z := 1) (v := 1) (by decide +kernel) rfl ?_
        refine g_iload_n (i := 3) (by decide +kernel) rfl ?_
        refine g_ishl (by decide +kernel) ?_
        have K1 := K96
        simp only [if_neg c14] at K1
        exact am_G.forget (am_subp [0, 1, 2, 3, 4] rfl) K1
      · refine g_iconst (z := 0) (v := 0) (by decide +kernel) rfl ?_
        refine g_goto (off := 6) (tgt := 96) (by decide +kernel) (by decide) ?_
        have K1 := K96
        simp only [if_pos c14] at K1
        exact am_G.forget (am_subp [0, 1, 2, 3, 4] rfl) K1
def f_Mod_needs (p1 : Int32) (h : am_H) : Option (Int32 × am_H) :=
  am_let (am_sI h 136 0 (0 : Int32)) fun h1 =>
  (f_Mod_isPerson ((p1).toInt64) h1).bind fun q2 =>
  (if q2 = true then
    (f_Mod_isErrand p1 h1).bind fun q4 =>
    (if q4 = true then
      (f_Mod_laysLets p1 h1).bind fun q6 =>
      (f_Mod_isInTime p1 (0 : Int32) q6).bind fun q7 =>
      (if q7 = true then
        (f_Mod_needs_L48 p1 am_fu (0 : Int32) (0 : Int32) q6).bind fun q17 =>
        some (q17.1, q17.2.2)
      else
        some ((-1 : Int32), q6))
    else
      some ((-5 : Int32), h1))
  else
    some ((-2 : Int32), h1))
set_option maxRecDepth 100000 in
set_option maxHeartbeats 4000000 in
theorem t_Mod_needs {p1 : Int32} {h : am_H} (hs : am_Sh h)  {r : Int32 × am_H} (hf : f_Mod_needs p1 h = some r) : am_Ct 4 M_Mod_needs [.ref 136, .int p1] h 0 0 (am_qI r) := by
  unfold f_Mod_needs at hf
  refine am_Ct.of (by decide) rfl (Nat.le_of_ble_eq_true rfl) (ls := [(0, .ref 136), (1, .int p1)]) rfl ?_
  refine g_aload_n (i := 0) (by decide +kernel) rfl ?_
  refine g_iconst (z := 0) (v := 0) (by decide +kernel) rfl ?_
  refine x_puti hf hs (hs.k k_136) F_Mod_1 (by decide +kernel) rfl rfl rfl rfl (fun h1 hf hs => ?_)
  refine g_aload_n (i := 0) (by decide +kernel) rfl ?_
  refine g_iload_n (i := 1) (by decide +kernel) rfl ?_
  refine g_i2l (by decide +kernel) ?_
  refine x_callVBp (as := [.long ((p1).toInt64)]) Vi_Mod_isPerson Vs_Mod_isPerson (hs.k k_136) rfl hf (fun q hq => t_Mod_isPerson hs  hq) Y_Mod_isPerson L_Mod_245 (by decide +kernel) rfl rfl (Nat.le_of_ble_eq_true rfl) (by decide) (Nat.le_refl _) (Nat.le_refl _) (fun q2 hf => ?_)
  refine x_ifb_ne (off := 6) (tgt := 17) hf (by decide +kernel) (by decide) (fun c3 hf => ?_) (fun c3 hf => ?_)
  · refine g_aload_n (i := 0) (by decide +kernel) rfl ?_
    refine g_iload_n (i := 1) (by decide +kernel) rfl ?_
    refine x_callVBp (as := [.int p1]) Vi_Mod_isErrand Vs_Mod_isErrand (hs.k k_136) rfl hf (fun q hq => t_Mod_isErrand hs  hq) Y_Mod_isErrand L_Mod_362 (by decide +kernel) rfl rfl (Nat.le_of_ble_eq_true rfl) (by decide) (Nat.le_refl _) (Nat.le_refl _) (fun q4 hf => ?_)
    refine x_ifb_ne (off := 6) (tgt := 28) hf (by decide +kernel) (by decide) (fun c5 hf => ?_) (fun c5 hf => ?_)
    · refine g_aload_n (i := 0) (by decide +kernel) rfl ?_
      refine g_iload_n (i := 1) (by decide +kernel) rfl ?_
      refine x_callVV (as := [.int p1]) Vi_Mod_laysLets Vs_Mod_laysLets (hs.k k_136) rfl hf (fun q hq => t_Mod_laysLets hs  hq) Y_Mod_laysLets L_Mod_333 (by decide +kernel) rfl rfl (Nat.le_of_ble_eq_true rfl) (by decide) (Nat.le_refl _) (Nat.le_refl _) (fun q6 hf hs => ?_)
      refine g_aload_n (i := 0) (by decide +kernel) rfl ?_
      refine g_iload_n (i := 1) (by decide +kernel) rfl ?_
      refine g_iconst (z := 0) (v := 0) (by decide +kernel) rfl ?_
      refine x_callVBp (as := [.int p1, .int (0 : Int32)]) Vi_Mod_isInTime Vs_Mod_isInTime (hs.k k_136) rfl hf (fun q hq => t_Mod_isInTime hs  hq) Y_Mod_isInTime L_Mod_365 (by decide +kernel) rfl rfl (Nat.le_of_ble_eq_true rfl) (by decide) (Nat.le_refl _) (Nat.le_refl _) (fun q7 hf => ?_)
      refine x_ifb_ne (off := 5) (tgt := 44) hf (by decide +kernel) (by decide) (fun c8 hf => ?_) (fun c8 hf => ?_)
      · refine g_iconst (z := 0) (v := 0) (by decide +kernel) rfl ?_
        refine g_istore_n (i := 2) (by decide +kernel) rfl (by decide) (ls1 := [(0, .ref 136), (1, .int p1), (2, .int (0 : Int32))]) rfl ?_
        refine g_iconst (z := 0) (v := 0) (by decide +kernel) rfl ?_
        refine g_istore_n (i := 3) (by decide +kernel) rfl (by decide) (ls1 := [(0, .ref 136), (1, .int p1), (2, .int (0 : Int32)), (3, .int (0 : Int32))]) rfl ?_
        obtain ⟨q17, hqq17, hf⟩ := Option.bind_eq_some_iff.mp hf
        refine am_G.forget (am_subp [0, 1, 2, 3] rfl) (t_Mod_needs_L48  am_fu _ _ _ q17 hs hqq17 (fun hs => ?_))
        refine g_iload_n (i := 2) (by decide +kernel) rfl ?_
        exact x_iret hf hs (by decide +kernel) rfl (Nat.le_refl _) (Nat.le_refl _)
      · refine g_iconst (z := (-1)) (v := (-1)) (by decide +kernel) rfl ?_
        exact x_iret hf hs (by decide +kernel) rfl (Nat.le_refl _) (Nat.le_refl _)
    · refine g_bipush (z := (-5)) (v := (-5)) (by decide +kernel) rfl ?_
      exact x_iret hf hs (by decide +kernel) rfl (Nat.le_refl _) (Nat.le_refl _)
  · refine g_bipush (z := (-2)) (v := (-2)) (by decide +kernel) rfl ?_
    exact x_iret hf hs (by decide +kernel) rfl (Nat.le_refl _) (Nat.le_refl _)
def f_Mod_movesNow_L4  : Nat → Int32 → Int32 → am_H → Option (Int32 × Int32)
  | 0, _, _, _ => none
  | n + 1, v1, v2, h =>
    (am_rd (h.2.1 137) 3411 (2 : Int32)).bind fun x1 =>
    (if x1 ≤ v2 then
      some (v1, v2)
    else
      (am_rd (h.2.1 137) 3411 ((29 : Int32) + v2)).bind fun x3 =>
      (am_rd (h.2.1 137) 3411 (2 : Int32)).bind fun x4 =>
      (am_rd (h.2.1 137) 3411 (2 : Int32)).bind fun x5 =>
      (am_md ((v2 + x4) - (1 : Int32)) x5).bind fun x6 =>
      (am_rd (h.2.1 137) 3411 ((29 : Int32) + x6)).bind fun x7 =>
      (if x3 = x7 then
        f_Mod_movesNow_L4  n (v1 + (0 : Int32)) (v2 + (1 : Int32)) h
      else
        f_Mod_movesNow_L4  n (v1 + (1 : Int32)) (v2 + (1 : Int32)) h))
set_option maxRecDepth 100000 in
set_option maxHeartbeats 4000000 in
theorem t_Mod_movesNow_L4   {Q : Option Value → am_H → Prop} : ∀ (n : Nat) (v1 : Int32) (v2 : Int32) (h : am_H) (q : Int32 × Int32), am_Sh h → f_Mod_movesNow_L4  n v1 v2 h = some q → (am_G 0 M_Mod_movesNow 0 0 Q 65 [(0, .ref 136), (1, .int q.1), (2, .int q.2)] [] h 0 0) → am_G 0 M_Mod_movesNow 0 0 Q 4 [(0, .ref 136), (1, .int v1), (2, .int v2)] [] h 0 0 := by
  intro n
  induction n with
  | zero =>
    intro v1 v2 h q hs hf kont
    rw [f_Mod_movesNow_L4] at hf
    cases hf
  | succ n ih =>
    intro v1 v2 h q hs hf kont
    rw [f_Mod_movesNow_L4] at hf
    refine g_iload_n (i := 2) (by decide +kernel) rfl ?_
    refine g_aload_n (i := 0) (by decide +kernel) rfl ?_
    refine x_getr (hs.k k_136) F_Mod_13 (by decide +kernel) rfl (hs.r r_136_1) ?_
    refine g_iconst (z := 2) (v := 2) (by decide +kernel) rfl ?_
    refine x_iald hf (hs.k k_137) (by decide +kernel) (fun x1 hf => ?_)
    refine x_icmp_ge (off := 54) (tgt := 65) hf (by decide +kernel) (by decide) (fun c2 hf => ?_) (fun c2 hf => ?_)
    · cases hf
      exact am_G.forget (am_subp [0, 1, 2] rfl) kont
    · refine g_iload_n (i := 1) (by decide +kernel) rfl ?_
      refine g_aload_n (i := 0) (by decide +kernel) rfl ?_
      refine x_getr (hs.k k_136) F_Mod_13 (by decide +kernel) rfl (hs.r r_136_1) ?_
      refine g_bipush (z := 29) (v := 29) (by decide +kernel) rfl ?_
      refine g_iload_n (i := 2) (by decide +kernel) rfl ?_
      refine g_iadd (by decide +kernel) ?_
      refine x_iald hf (hs.k k_137) (by decide +kernel) (fun x3 hf => ?_)
      refine g_aload_n (i := 0) (by decide +kernel) rfl ?_
      refine x_getr (hs.k k_136) F_Mod_13 (by decide +kernel) rfl (hs.r r_136_1) ?_
      refine g_bipush (z := 29) (v := 29) (by decide +kernel) rfl ?_
      refine g_iload_n (i := 2) (by decide +kernel) rfl ?_
      refine g_aload_n (i := 0) (by decide +kernel) rfl ?_
      refine x_getr (hs.k k_136) F_Mod_13 (by decide +kernel) rfl (hs.r r_136_1) ?_
      refine g_iconst (z := 2) (v := 2) (by decide +kernel) rfl ?_
      refine x_iald hf (hs.k k_137) (by decide +kernel) (fun x4 hf => ?_)
      refine g_iadd (by decide +kernel) ?_
      refine g_iconst (z := 1) (v := 1) (by decide +kernel) rfl ?_
      refine g_isub (by decide +kernel) ?_
      refine g_aload_n (i := 0) (by decide +kernel) rfl ?_
      refine x_getr (hs.k k_136) F_Mod_13 (by decide +kernel) rfl (hs.r r_136_1) ?_
      refine g_iconst (z := 2) (v := 2) (by decide +kernel) rfl ?_
      refine x_iald hf (hs.k k_137) (by decide +kernel) (fun x5 hf => ?_)
      refine x_irem hf (by decide +kernel) (fun x6 hf => ?_)
      refine g_iadd (by decide +kernel) ?_
      refine x_iald hf (hs.k k_137) (by decide +kernel) (fun x7 hf => ?_)
      refine x_icmp_ne (off := 7) (tgt := 56) hf (by decide +kernel) (by decide) (fun c8 hf => ?_) (fun c8 hf => ?_)
      · refine g_iconst (z := 1) (v := 1) (by decide +kernel) rfl ?_
        refine g_iadd (by decide +kernel) ?_
        refine g_istore_n (i := 1) (by decide +kernel) rfl (by decide) (ls1 := [(0, .ref 136), (1, .int (v1 + (1 : Int32))), (2, .int v2)]) rfl ?_
        refine g_iinc (i := 2) (z := 1) (v := (v2 + (1 : Int32))) (by decide +kernel) rfl rfl rfl (by decide) (ls1 := [(0, .ref 136), (1, .int (v1 + (1 : Int32))), (2, .int (v2 + (1 : Int32)))]) rfl ?_
        refine g_goto (off := (-58)) (tgt := 4) (by decide +kernel) (by decide) ?_
        exact am_G.forget (am_subp [0, 1, 2] rfl) (ih _ _ _ _ hs hf kont)
      · refine g_iconst (z := 0) (v := 0) (by decide +kernel) rfl ?_
        refine g_goto (off := 4) (tgt := 57) (by decide +kernel) (by decide) ?_
        refine g_iadd (by decide +kernel) ?_
        refine g_istore_n (i := 1) (by decide +kernel) rfl (by decide) (ls1 := [(0, .ref 136), (1, .int (v1 + (0 : Int32))), (2, .int v2)]) rfl ?_
        refine g_iinc (i := 2) (z := 1) (v := (v2 + (1 : Int32))) (by decide +kernel) rfl rfl rfl (by decide) (ls1 := [(0, .ref 136), (1, .int (v1 + (0 : Int32))), (2, .int (v2 + (1 : Int32)))]) rfl ?_
        refine g_goto (off := (-58)) (tgt := 4) (by decide +kernel) (by decide) ?_
        exact am_G.forget (am_subp [0, 1, 2] rfl) (ih _ _ _ _ hs hf kont)
def f_Mod_movesNow  (h : am_H) : Option (Int32) :=
  (f_Mod_movesNow_L4  am_fu (0 : Int32) (0 : Int32) h).bind fun q9 =>
  some q9.1
set_option maxRecDepth 100000 in
set_option maxHeartbeats 4000000 in
theorem t_Mod_movesNow  {h : am_H} (hs : am_Sh h)  {r : Int32} (hf : f_Mod_movesNow  h = some r) : am_Ct 0 M_Mod_movesNow [.ref 136] h 0 0 (am_pI h r) := by
  unfold f_Mod_movesNow at hf
  refine am_Ct.of (by decide) rfl (Nat.le_of_ble_eq_true rfl) (ls := [(0, .ref 136)]) rfl ?_
  refine g_iconst (z := 0) (v := 0) (by decide +kernel) rfl ?_
  refine g_istore_n (i := 1) (by decide +kernel) rfl (by decide) (ls1 := [(0, .ref 136), (1, .int (0 : Int32))]) rfl ?_
  refine g_iconst (z := 0) (v := 0) (by decide +kernel) rfl ?_
  refine g_istore_n (i := 2) (by decide +kernel) rfl (by decide) (ls1 := [(0, .ref 136), (1, .int (0 : Int32)), (2, .int (0 : Int32))]) rfl ?_
  obtain ⟨q9, hqq9, hf⟩ := Option.bind_eq_some_iff.mp hf
  refine am_G.forget (am_subp [0, 1, 2] rfl) (t_Mod_movesNow_L4  am_fu _ _ _ q9 hs hqq9 ?_)
  refine g_iload_n (i := 1) (by decide +kernel) rfl ?_
  exact x_iretp hf (by decide +kernel) rfl (Nat.le_refl _) (Nat.le_refl _)
def f_Mod_errandsMany_L4  : Nat → Int32 → Int32 → am_H → Option (Int32 × Int32)
  | 0, _, _, _ => none
  | n + 1, v1, v2, h =>
    (am_rd (h.2.1 137) 3411 (3 : Int32)).bind fun x1 =>
    (if x1 ≤ v2 then
      some (v1, v2)
    else
      (f_Mod_isErrand v2 h).bind fun q3 =>
      (if q3 = true then
        f_Mod_errandsMany_L4  n (v1 + (1 : Int32)) (v2 + (1 : Int32)) h
      else
        f_Mod_errandsMany_L4  n (v1 + (0 : Int32)) (v2 + (1 : Int32)) h))
set_option maxRecDepth 100000 in
set_option maxHeartbeats 4000000 in
theorem t_Mod_errandsMany_L4   {Q : Option Value → am_H → Prop} : ∀ (n : Nat) (v1 : Int32) (v2 : Int32) (h : am_H) (q : Int32 × Int32), am_Sh h → f_Mod_errandsMany_L4  n v1 v2 h = some q → (am_G 1 M_Mod_errandsMany 0 0 Q 36 [(0, .ref 136), (1, .int q.1), (2, .int q.2)] [] h 0 0) → am_G 1 M_Mod_errandsMany 0 0 Q 4 [(0, .ref 136), (1, .int v1), (2, .int v2)] [] h 0 0 := by
  intro n
  induction n with
  | zero =>
    intro v1 v2 h q hs hf kont
    rw [f_Mod_errandsMany_L4] at hf
    cases hf
  | succ n ih =>
    intro v1 v2 h q hs hf kont
    rw [f_Mod_errandsMany_L4] at hf
    refine g_iload_n (i := 2) (by decide +kernel) rfl ?_
    refine g_aload_n (i := 0) (by decide +kernel) rfl ?_
    refine x_getr (hs.k k_136) F_Mod_13 (by decide +kernel) rfl (hs.r r_136_1) ?_
    refine g_iconst (z := 3) (v := 3) (by decide +kernel) rfl ?_
    refine x_iald hf (hs.k k_137) (by decide +kernel) (fun x1 hf => ?_)
    refine x_icmp_ge (off := 25) (tgt := 36) hf (by decide +kernel) (by decide) (fun c2 hf => ?_) (fun c2 hf => ?_)
    · cases hf
      exact am_G.forget (am_subp [0, 1, 2] rfl) kont
    · refine g_iload_n (i := 1) (by decide +kernel) rfl ?_
      refine g_aload_n (i := 0) (by decide +kernel) rfl ?_
      refine g_iload_n (i := 2) (by decide +kernel) rfl ?_
      refine x_callVBp (as := [.int v2]) Vi_Mod_isErrand Vs_Mod_isErrand (hs.k k_136) rfl hf (fun q hq => t_Mod_isErrand hs  hq) Y_Mod_isErrand L_Mod_362 (by decide +kernel) rfl rfl (Nat.le_of_ble_eq_true rfl) (by decide) (Nat.le_refl _) (Nat.le_refl _) (fun q3 hf => ?_)
      refine x_ifb_eq (off := 7) (tgt := 27) hf (by decide +kernel) (by decide) (fun c4 hf => ?_) (fun c4 hf => ?_)
      · refine g_iconst (z := 0) (v := 0) (by decide +kernel) rfl ?_
        refine g_iadd (by decide +kernel) ?_
        refine g_istore_n (i := 1) (by decide +kernel) rfl (by decide) (ls1 := [(0, .ref 136), (1, .int (v1 + (0 : Int32))), (2, .int v2)]) rfl ?_
        refine g_iinc (i := 2) (z := 1) (v := (v2 + (1 : Int32))) (by decide +kernel) rfl rfl rfl (by decide) (ls1 := [(0, .ref 136), (1, .int (v1 + (0 : Int32))), (2, .int (v2 + (1 : Int32)))]) rfl ?_
        refine g_goto (off := (-29)) (tgt := 4) (by decide +kernel) (by decide) ?_
        exact am_G.forget (am_subp [0, 1, 2] rfl) (ih _ _ _ _ hs hf kont)
      · refine g_iconst (z := 1) (v := 1) (by decide +kernel) rfl ?_
        refine g_goto (off := 4) (tgt := 28) (by decide +kernel) (by decide) ?_
        refine g_iadd (by decide +kernel) ?_
        refine g_istore_n (i := 1) (by decide +kernel) rfl (by decide) (ls1 := [(0, .ref 136), (1, .int (v1 + (1 : Int32))), (2, .int v2)]) rfl ?_
        refine g_iinc (i := 2) (z := 1) (v := (v2 + (1 : Int32))) (by decide +kernel) rfl rfl rfl (by decide) (ls1 := [(0, .ref 136), (1, .int (v1 + (1 : Int32))), (2, .int (v2 + (1 : Int32)))]) rfl ?_
        refine g_goto (off := (-29)) (tgt := 4) (by decide +kernel) (by decide) ?_
        exact am_G.forget (am_subp [0, 1, 2] rfl) (ih _ _ _ _ hs hf kont)
def f_Mod_errandsMany  (h : am_H) : Option (Int32) :=
  (f_Mod_errandsMany_L4  am_fu (0 : Int32) (0 : Int32) h).bind fun q5 =>
  some q5.1
set_option maxRecDepth 100000 in
set_option maxHeartbeats 4000000 in
theorem t_Mod_errandsMany  {h : am_H} (hs : am_Sh h)  {r : Int32} (hf : f_Mod_errandsMany  h = some r) : am_Ct 1 M_Mod_errandsMany [.ref 136] h 0 0 (am_pI h r) := by
  unfold f_Mod_errandsMany at hf
  refine am_Ct.of (by decide) rfl (Nat.le_of_ble_eq_true rfl) (ls := [(0, .ref 136)]) rfl ?_
  refine g_iconst (z := 0) (v := 0) (by decide +kernel) rfl ?_
  refine g_istore_n (i := 1) (by decide +kernel) rfl (by decide) (ls1 := [(0, .ref 136), (1, .int (0 : Int32))]) rfl ?_
  refine g_iconst (z := 0) (v := 0) (by decide +kernel) rfl ?_
  refine g_istore_n (i := 2) (by decide +kernel) rfl (by decide) (ls1 := [(0, .ref 136), (1, .int (0 : Int32)), (2, .int (0 : Int32))]) rfl ?_
  obtain ⟨q5, hqq5, hf⟩ := Option.bind_eq_some_iff.mp hf
  refine am_G.forget (am_subp [0, 1, 2] rfl) (t_Mod_errandsMany_L4  am_fu _ _ _ q5 hs hqq5 ?_)
  refine g_iload_n (i := 1) (by decide +kernel) rfl ?_
  exact x_iretp hf (by decide +kernel) rfl (Nat.le_refl _) (Nat.le_refl _)
def f_Mod_keepsLets_L19  : Nat → Int32 → Int32 → am_H → Option (Int32 × am_H)
  | 0, _, _, _ => none
  | n + 1, v1, v2, h =>
    (if (12 : Int32) ≤ v2 then
      some (v2, h)
    else
      (am_rd (h.2.1 144) 12 v2).bind fun x5 =>
      (am_wr h 153 60 (((12 : Int32) * v1) + v2) x5).bind fun h6 =>
      (am_rd (h6.2.1 145) 12 v2).bind fun x7 =>
      (am_wr h6 154 60 (((12 : Int32) * v1) + v2) x7).bind fun h8 =>
      (am_rd (h8.2.1 146) 12 v2).bind fun x9 =>
      (am_wr h8 155 60 (((12 : Int32) * v1) + v2) x9).bind fun h10 =>
      f_Mod_keepsLets_L19  n v1 (v2 + (1 : Int32)) h10)
set_option maxRecDepth 100000 in
set_option maxHeartbeats 4000000 in
theorem t_Mod_keepsLets_L19   {Q : Option Value → am_H → Prop} : ∀ (n : Nat) (v1 : Int32) (v2 : Int32) (h : am_H) (q : Int32 × am_H), am_Sh h → f_Mod_keepsLets_L19  n v1 v2 h = some q → (am_Sh q.2 → am_G 3 M_Mod_keepsLets 0 0 Q 82 [(0, .ref 136), (1, .int v1), (2, .int q.1)] [] q.2 0 0) → am_G 3 M_Mod_keepsLets 0 0 Q 19 [(0, .ref 136), (1, .int v1), (2, .int v2)] [] h 0 0 := by
  intro n
  induction n with
  | zero =>
    intro v1 v2 h q hs hf kont
    rw [f_Mod_keepsLets_L19] at hf
    cases hf
  | succ n ih =>
    intro v1 v2 h q hs hf kont
    rw [f_Mod_keepsLets_L19] at hf
    refine g_iload_n (i := 2) (by decide +kernel) rfl ?_
    refine g_bipush (z := 12) (v := 12) (by decide +kernel) rfl ?_
    refine x_icmp_ge (off := 60) (tgt := 82) hf (by decide +kernel) (by decide) (fun c4 hf => ?_) (fun c4 hf => ?_)
    · cases hf
      exact am_G.forget (am_subp [0, 1, 2] rfl) (kont hs)
    · refine g_aload_n (i := 0) (by decide +kernel) rfl ?_
      refine x_getr (hs.k k_136) F_Mod_67 (by decide +kernel) rfl (hs.r r_136_30) ?_
      refine g_bipush (z := 12) (v := 12) (by decide +kernel) rfl ?_
      refine g_iload_n (i := 1) (by decide +kernel) rfl ?_
      refine g_imul (by decide +kernel) ?_
      refine g_iload_n (i := 2) (by decide +kernel) rfl ?_
      refine g_iadd (by decide +kernel) ?_
      refine g_aload_n (i := 0) (by decide +kernel) rfl ?_
      refine x_getr (hs.k k_136) F_Mod_39 (by decide +kernel) rfl (hs.r r_136_21) ?_
      refine g_iload_n (i := 2) (by decide +kernel) rfl ?_
      refine x_iald hf (hs.k k_144) (by decide +kernel) (fun x5 hf => ?_)
      refine x_iast hf hs (hs.k k_153) (by decide +kernel) (fun h6 hf hs => ?_)
      refine g_aload_n (i := 0) (by decide +kernel) rfl ?_
      refine x_getr (hs.k k_136) F_Mod_70 (by decide +kernel) rfl (hs.r r_136_31) ?_
      refine g_bipush (z := 12) (v := 12) (by decide +kernel) rfl ?_
      refine g_iload_n (i := 1) (by decide +kernel) rfl ?_
      refine g_imul (by decide +kernel) ?_
      refine g_iload_n (i := 2) (by decide +kernel) rfl ?_
      refine g_iadd (by decide +kernel) ?_
      refine g_aload_n (i := 0) (by decide +kernel) rfl ?_
      refine x_getr (hs.k k_136) F_Mod_42 (by decide +kernel) rfl (hs.r r_136_22) ?_
      refine g_iload_n (i := 2) (by decide +kernel) rfl ?_
      refine x_iald hf (hs.k k_145) (by decide +kernel) (fun x7 hf => ?_)
      refine x_iast hf hs (hs.k k_154) (by decide +kernel) (fun h8 hf hs => ?_)
      refine g_aload_n (i := 0) (by decide +kernel) rfl ?_
      refine x_getr (hs.k k_136) F_Mod_73 (by decide +kernel) rfl (hs.r r_136_32) ?_
      refine g_bipush (z := 12) (v := 12) (by decide +kernel) rfl ?_
      refine g_iload_n (i := 1) (by decide +kernel) rfl ?_
      refine g_imul (by decide +kernel) ?_
      refine g_iload_n (i := 2) (by decide +kernel) rfl ?_
      refine g_iadd (by decide +kernel) ?_
      refine g_aload_n (i := 0) (by decide +kernel) rfl ?_
      refine x_getr (hs.k k_136) F_Mod_45 (by decide +kernel) rfl (hs.r r_136_23) ?_
      refine g_iload_n (i := 2) (by decide +kernel) rfl ?_
      refine x_iald hf (hs.k k_146) (by decide +kernel) (fun x9 hf => ?_)
      refine x_iast hf hs (hs.k k_155) (by decide +kernel) (fun h10 hf hs => ?_)
      refine g_iinc (i := 2) (z := 1) (v := (v2 + (1 : Int32))) (by decide +kernel) rfl rfl rfl (by decide) (ls1 := [(0, .ref 136), (1, .int v1), (2, .int (v2 + (1 : Int32)))]) rfl ?_
      refine g_goto (off := (-60)) (tgt := 19) (by decide +kernel) (by decide) ?_
      exact am_G.forget (am_subp [0, 1, 2] rfl) (ih _ _ _ _ hs hf kont)
def f_Mod_keepsLets_L2  : Nat → Int32 → am_H → Option (Int32 × am_H)
  | 0, _, _ => none
  | n + 1, v1, h =>
    (am_rd (h.2.1 137) 3411 (3 : Int32)).bind fun x1 =>
    (if x1 ≤ v1 then
      some (v1, h)
    else
      (f_Mod_laysLets v1 h).bind fun q3 =>
      (f_Mod_keepsLets_L19  am_fu v1 (0 : Int32) q3).bind fun q11 =>
      f_Mod_keepsLets_L2  n (v1 + (1 : Int32)) q11.2)
set_option maxRecDepth 100000 in
set_option maxHeartbeats 4000000 in
theorem t_Mod_keepsLets_L2   {Q : Option Value → am_H → Prop} : ∀ (n : Nat) (v1 : Int32) (h : am_H) (q : Int32 × am_H), am_Sh h → f_Mod_keepsLets_L2  n v1 h = some q → (am_Sh q.2 → am_G 3 M_Mod_keepsLets 0 0 Q 88 [(0, .ref 136), (1, .int q.1)] [] q.2 0 0) → am_G 3 M_Mod_keepsLets 0 0 Q 2 [(0, .ref 136), (1, .int v1)] [] h 0 0 := by
  intro n
  induction n with
  | zero =>
    intro v1 h q hs hf kont
    rw [f_Mod_keepsLets_L2] at hf
    cases hf
  | succ n ih =>
    intro v1 h q hs hf kont
    rw [f_Mod_keepsLets_L2] at hf
    refine g_iload_n (i := 1) (by decide +kernel) rfl ?_
    refine g_aload_n (i := 0) (by decide +kernel) rfl ?_
    refine x_getr (hs.k k_136) F_Mod_13 (by decide +kernel) rfl (hs.r r_136_1) ?_
    refine g_iconst (z := 3) (v := 3) (by decide +kernel) rfl ?_
    refine x_iald hf (hs.k k_137) (by decide +kernel) (fun x1 hf => ?_)
    refine x_icmp_ge (off := 79) (tgt := 88) hf (by decide +kernel) (by decide) (fun c2 hf => ?_) (fun c2 hf => ?_)
    · cases hf
      exact am_G.forget (am_subp [0, 1] rfl) (kont hs)
    · refine g_aload_n (i := 0) (by decide +kernel) rfl ?_
      refine g_iload_n (i := 1) (by decide +kernel) rfl ?_
      refine x_callVV (as := [.int v1]) Vi_Mod_laysLets Vs_Mod_laysLets (hs.k k_136) rfl hf (fun q hq => t_Mod_laysLets hs  hq) Y_Mod_laysLets L_Mod_333 (by decide +kernel) rfl rfl (Nat.le_of_ble_eq_true rfl) (by decide) (Nat.le_refl _) (Nat.le_refl _) (fun q3 hf hs => ?_)
      refine g_iconst (z := 0) (v := 0) (by decide +kernel) rfl ?_
      refine g_istore_n (i := 2) (by decide +kernel) rfl (by decide) (ls1 := [(0, .ref 136), (1, .int v1), (2, .int (0 : Int32))]) rfl ?_
      obtain ⟨q11, hqq11, hf⟩ := Option.bind_eq_some_iff.mp hf
      refine am_G.forget (am_subp [0, 1, 2] rfl) (t_Mod_keepsLets_L19  am_fu _ _ _ q11 hs hqq11 (fun hs => ?_))
      refine g_iinc (i := 1) (z := 1) (v := (v1 + (1 : Int32))) (by decide +kernel) rfl rfl rfl (by decide) (ls1 := [(0, .ref 136), (1, .int (v1 + (1 : Int32))), (2, .int q11.1)]) rfl ?_
      refine g_goto (off := (-83)) (tgt := 2) (by decide +kernel) (by decide) ?_
      exact am_G.forget (am_subp [0, 1] rfl) (ih _ _ _ hs hf kont)
def f_Mod_keepsLets  (h : am_H) : Option (am_H) :=
  (f_Mod_keepsLets_L2  am_fu (0 : Int32) h).bind fun q12 =>
  some q12.2
set_option maxRecDepth 100000 in
set_option maxHeartbeats 4000000 in
theorem t_Mod_keepsLets  {h : am_H} (hs : am_Sh h)  {r : am_H} (hf : f_Mod_keepsLets  h = some r) : am_Ct 3 M_Mod_keepsLets [.ref 136] h 0 0 (am_qV r) := by
  unfold f_Mod_keepsLets at hf
  refine am_Ct.of (by decide) rfl (Nat.le_of_ble_eq_true rfl) (ls := [(0, .ref 136)]) rfl ?_
  refine g_iconst (z := 0) (v := 0) (by decide +kernel) rfl ?_
  refine g_istore_n (i := 1) (by decide +kernel) rfl (by decide) (ls1 := [(0, .ref 136), (1, .int (0 : Int32))]) rfl ?_
  obtain ⟨q12, hqq12, hf⟩ := Option.bind_eq_some_iff.mp hf
  refine am_G.forget (am_subp [0, 1] rfl) (t_Mod_keepsLets_L2  am_fu _ _ q12 hs hqq12 (fun hs => ?_))
  exact x_vret hf hs (by decide +kernel) rfl (Nat.le_refl _) (Nat.le_refl _)
def f_Mod_takesLets_L2 (p1 : Int32) : Nat → Int32 → am_H → Option (Int32 × am_H)
  | 0, _, _ => none
  | n + 1, v2, h =>
    (if (12 : Int32) ≤ v2 then
      some (v2, h)
    else
      (am_rd (h.2.1 153) 60 (((12 : Int32) * p1) + v2)).bind fun x2 =>
      (am_wr h 144 12 v2 x2).bind fun h3 =>
      (am_rd (h3.2.1 154) 60 (((12 : Int32) * p1) + v2)).bind fun x4 =>
      (am_wr h3 145 12 v2 x4).bind fun h5 =>
      (am_rd (h5.2.1 155) 60 (((12 : Int32) * p1) + v2)).bind fun x6 =>
      (am_wr h5 146 12 v2 x6).bind fun h7 =>
      f_Mod_takesLets_L2 p1 n (v2 + (1 : Int32)) h7)
set_option maxRecDepth 100000 in
set_option maxHeartbeats 4000000 in
theorem t_Mod_takesLets_L2 {p1 : Int32}  {Q : Option Value → am_H → Prop} : ∀ (n : Nat) (v2 : Int32) (h : am_H) (q : Int32 × am_H), am_Sh h → f_Mod_takesLets_L2 p1 n v2 h = some q → (am_Sh q.2 → am_G 0 M_Mod_takesLets 0 0 Q 65 [(0, .ref 136), (1, .int p1), (2, .int q.1)] [] q.2 0 0) → am_G 0 M_Mod_takesLets 0 0 Q 2 [(0, .ref 136), (1, .int p1), (2, .int v2)] [] h 0 0 := by
  intro n
  induction n with
  | zero =>
    intro v2 h q hs hf kont
    rw [f_Mod_takesLets_L2] at hf
    cases hf
  | succ n ih =>
    intro v2 h q hs hf kont
    rw [f_Mod_takesLets_L2] at hf
    refine g_iload_n (i := 2) (by decide +kernel) rfl ?_
    refine g_bipush (z := 12) (v := 12) (by decide +kernel) rfl ?_
    refine x_icmp_ge (off := 60) (tgt := 65) hf (by decide +kernel) (by decide) (fun c1 hf => ?_) (fun c1 hf => ?_)
    · cases hf
      exact am_G.forget (am_subp [0, 1, 2] rfl) (kont hs)
    · refine g_aload_n (i := 0) (by decide +kernel) rfl ?_
      refine x_getr (hs.k k_136) F_Mod_39 (by decide +kernel) rfl (hs.r r_136_21) ?_
      refine g_iload_n (i := 2) (by decide +kernel) rfl ?_
      refine g_aload_n (i := 0) (by decide +kernel) rfl ?_
      refine x_getr (hs.k k_136) F_Mod_67 (by decide +kernel) rfl (hs.r r_136_30) ?_
      refine g_bipush (z := 12) (v := 12) (by decide +kernel) rfl ?_
      refine g_iload_n (i := 1) (by decide +kernel) rfl ?_
      refine g_imul (by decide +kernel) ?_
      refine g_iload_n (i := 2) (by decide +kernel) rfl ?_
      refine g_iadd (by decide +kernel) ?_
      refine x_iald hf (hs.k k_153) (by decide +kernel) (fun x2 hf => ?_)
      refine x_iast hf hs (hs.k k_144) (by decide +kernel) (fun h3 hf hs => ?_)
      refine g_aload_n (i := 0) (by decide +kernel) rfl ?_
      refine x_getr (hs.k k_136) F_Mod_42 (by decide +kernel) rfl (hs.r r_136_22) ?_
      refine g_iload_n (i := 2) (by decide +kernel) rfl ?_
      refine g_aload_n (i := 0) (by decide +kernel) rfl ?_
      refine x_getr (hs.k k_136) F_Mod_70 (by decide +kernel) rfl (hs.r r_136_31) ?_
      refine g_bipush (z := 12) (v := 12) (by decide +kernel) rfl ?_
      refine g_iload_n (i := 1) (by decide +kernel) rfl ?_
      refine g_imul (by decide +kernel) ?_
      refine g_iload_n (i := 2) (by decide +kernel) rfl ?_
      refine g_iadd (by decide +kernel) ?_
      refine x_iald hf (hs.k k_154) (by decide +kernel) (fun x4 hf => ?_)
      refine x_iast hf hs (hs.k k_145) (by decide +kernel) (fun h5 hf hs => ?_)
      refine g_aload_n (i := 0) (by decide +kernel) rfl ?_
      refine x_getr (hs.k k_136) F_Mod_45 (by decide +kernel) rfl (hs.r r_136_23) ?_
      refine g_iload_n (i := 2) (by decide +kernel) rfl ?_
      refine g_aload_n (i := 0) (by decide +kernel) rfl ?_
      refine x_getr (hs.k k_136) F_Mod_73 (by decide +kernel) rfl (hs.r r_136_32) ?_
      refine g_bipush (z := 12) (v := 12) (by decide +kernel) rfl ?_
      refine g_iload_n (i := 1) (by decide +kernel) rfl ?_
      refine g_imul (by decide +kernel) ?_
      refine g_iload_n (i := 2) (by decide +kernel) rfl ?_
      refine g_iadd (by decide +kernel) ?_
      refine x_iald hf (hs.k k_155) (by decide +kernel) (fun x6 hf => ?_)
      refine x_iast hf hs (hs.k k_146) (by decide +kernel) (fun h7 hf hs => ?_)
      refine g_iinc (i := 2) (z := 1) (v := (v2 + (1 : Int32))) (by decide +kernel) rfl rfl rfl (by decide) (ls1 := [(0, .ref 136), (1, .int p1), (2, .int (v2 + (1 : Int32)))]) rfl ?_
      refine g_goto (off := (-60)) (tgt := 2) (by decide +kernel) (by decide) ?_
      exact am_G.forget (am_subp [0, 1, 2] rfl) (ih _ _ _ hs hf kont)
def f_Mod_takesLets (p1 : Int32) (h : am_H) : Option (am_H) :=
  (f_Mod_takesLets_L2 p1 am_fu (0 : Int32) h).bind fun q8 =>
  some q8.2
set_option maxRecDepth 100000 in
set_option maxHeartbeats 4000000 in
theorem t_Mod_takesLets {p1 : Int32} {h : am_H} (hs : am_Sh h)  {r : am_H} (hf : f_Mod_takesLets p1 h = some r) : am_Ct 0 M_Mod_takesLets [.ref 136, .int p1] h 0 0 (am_qV r) := by
  unfold f_Mod_takesLets at hf
  refine am_Ct.of (by decide) rfl (Nat.le_of_ble_eq_true rfl) (ls := [(0, .ref 136), (1, .int p1)]) rfl ?_
  refine g_iconst (z := 0) (v := 0) (by decide +kernel) rfl ?_
  refine g_istore_n (i := 2) (by decide +kernel) rfl (by decide) (ls1 := [(0, .ref 136), (1, .int p1), (2, .int (0 : Int32))]) rfl ?_
  obtain ⟨q8, hqq8, hf⟩ := Option.bind_eq_some_iff.mp hf
  refine am_G.forget (am_subp [0, 1, 2] rfl) (t_Mod_takesLets_L2  am_fu _ _ q8 hs hqq8 (fun hs => ?_))
  exact x_vret hf hs (by decide +kernel) rfl (Nat.le_refl _) (Nat.le_refl _)
def f_Mod_inTimeMany_L4  : Nat → Int32 → Int32 → am_H → Option (Int32 × Int32 × am_H)
  | 0, _, _, _ => none
  | n + 1, v1, v2, h =>
    (am_rd (h.2.1 137) 3411 (3 : Int32)).bind fun x1 =>
    (if x1 ≤ v2 then
      some (v1, v2, h)
    else
      (f_Mod_isErrand v2 h).bind fun q3 =>
      (if q3 = true then
        (f_Mod_takesLets v2 h).bind fun q5 =>
        (f_Mod_isInTime v2 (0 : Int32) q5).bind fun q6 =>
        (if q6 = true then
          f_Mod_inTimeMany_L4  n (v1 + (1 : Int32)) (v2 + (1 : Int32)) q5
        else
          f_Mod_inTimeMany_L4  n (v1 + (0 : Int32)) (v2 + (1 : Int32)) q5)
      else
        f_Mod_inTimeMany_L4  n v1 (v2 + (1 : Int32)) h))
set_option maxRecDepth 100000 in
set_option maxHeartbeats 4000000 in
theorem t_Mod_inTimeMany_L4   {Q : Option Value → am_H → Prop} : ∀ (n : Nat) (v1 : Int32) (v2 : Int32) (h : am_H) (q : Int32 × Int32 × am_H), am_Sh h → f_Mod_inTimeMany_L4  n v1 v2 h = some q → (am_Sh q.2.2 → am_G 4 M_Mod_inTimeMany 0 0 Q 53 [(0, .ref 136), (1, .int q.1), (2, .int q.2.1)] [] q.2.2 0 0) → am_G 4 M_Mod_inTimeMany 0 0 Q 4 [(0, .ref 136), (1, .int v1), (2, .int v2)] [] h 0 0 := by
  intro n
  induction n with
  | zero =>
    intro v1 v2 h q hs hf kont
    rw [f_Mod_inTimeMany_L4] at hf
    cases hf
  | succ n ih =>
    intro v1 v2 h q hs hf kont
    rw [f_Mod_inTimeMany_L4] at hf
    refine g_iload_n (i := 2) (by decide +kernel) rfl ?_
    refine g_aload_n (i := 0) (by decide +kernel) rfl ?_
    refine x_getr (hs.k k_136) F_Mod_13 (by decide +kernel) rfl (hs.r r_136_1) ?_
    refine g_iconst (z := 3) (v := 3) (by decide +kernel) rfl ?_
    refine x_iald hf (hs.k k_137) (by decide +kernel) (fun x1 hf => ?_)
    refine x_icmp_ge (off := 42) (tgt := 53) hf (by decide +kernel) (by decide) (fun c2 hf => ?_) (fun c2 hf => ?_)
    · cases hf
      exact am_G.forget (am_subp [0, 1, 2] rfl) (kont hs)
    · refine g_aload_n (i := 0) (by decide +kernel) rfl ?_
      refine g_iload_n (i := 2) (by decide +kernel) rfl ?_
      refine x_callVBp (as := [.int v2]) Vi_Mod_isErrand Vs_Mod_isErrand (hs.k k_136) rfl hf (fun q hq => t_Mod_isErrand hs  hq) Y_Mod_isErrand L_Mod_362 (by decide +kernel) rfl rfl (Nat.le_of_ble_eq_true rfl) (by decide) (Nat.le_refl _) (Nat.le_refl _) (fun q3 hf => ?_)
      refine x_ifb_ne (off := 6) (tgt := 25) hf (by decide +kernel) (by decide) (fun c4 hf => ?_) (fun c4 hf => ?_)
      · refine g_aload_n (i := 0) (by decide +kernel) rfl ?_
        refine g_iload_n (i := 2) (by decide +kernel) rfl ?_
        refine x_callVV (as := [.int v2]) Vi_Mod_takesLets Vs_Mod_takesLets (hs.k k_136) rfl hf (fun q hq => t_Mod_takesLets hs  hq) Y_Mod_takesLets L_Mod_372 (by decide +kernel) rfl rfl (Nat.le_of_ble_eq_true rfl) (by decide) (Nat.le_refl _) (Nat.le_refl _) (fun q5 hf hs => ?_)
        refine g_iload_n (i := 1) (by decide +kernel) rfl ?_
        refine g_aload_n (i := 0) (by decide +kernel) rfl ?_
        refine g_iload_n (i := 2) (by decide +kernel) rfl ?_
        refine g_iconst (z := 0) (v := 0) (by decide +kernel) rfl ?_
        refine x_callVBp (as := [.int v2, .int (0 : Int32)]) Vi_Mod_isInTime Vs_Mod_isInTime (hs.k k_136) rfl hf (fun q hq => t_Mod_isInTime hs  hq) Y_Mod_isInTime L_Mod_365 (by decide +kernel) rfl rfl (Nat.le_of_ble_eq_true rfl) (by decide) (Nat.le_refl _) (Nat.le_refl _) (fun q6 hf => ?_)
        refine x_ifb_eq (off := 7) (tgt := 44) hf (by decide +kernel) (by decide) (fun c7 hf => ?_) (fun c7 hf => ?_)
        · refine g_iconst (z := 0) (v := 0) (by decide +kernel) rfl ?_
          refine g_iadd (by decide +kernel) ?_
          refine g_istore_n (i := 1) (by decide +kernel) rfl (by decide) (ls1 := [(0, .ref 136), (1, .int (v1 + (0 : Int32))), (2, .int v2)]) rfl ?_
          refine g_iinc (i := 2) (z := 1) (v := (v2 + (1 : Int32))) (by decide +kernel) rfl rfl rfl (by decide) (ls1 := [(0, .ref 136), (1, .int (v1 + (0 : Int32))), (2, .int (v2 + (1 : Int32)))]) rfl ?_
          refine g_goto (off := (-46)) (tgt := 4) (by decide +kernel) (by decide) ?_
          exact am_G.forget (am_subp [0, 1, 2] rfl) (ih _ _ _ _ hs hf kont)
        · refine g_iconst (z := 1) (v := 1) (by decide +kernel) rfl ?_
          refine g_goto (off := 4) (tgt := 45) (by decide +kernel) (by decide) ?_
          refine g_iadd (by decide +kernel) ?_
          refine g_istore_n (i := 1) (by decide +kernel) rfl (by decide) (ls1 := [(0, .ref 136), (1, .int (v1 + (1 : Int32))), (2, .int v2)]) rfl ?_
          refine g_iinc (i := 2) (z := 1) (v := (v2 + (1 : Int32))) (by decide +kernel) rfl rfl rfl (by decide) (ls1 := [(0, .ref 136), (1, .int (v1 + (1 : Int32))), (2, .int (v2 + (1 : Int32)))]) rfl ?_
          refine g_goto (off := (-46)) (tgt := 4) (by decide +kernel) (by decide) ?_
          exact am_G.forget (am_subp [0, 1, 2] rfl) (ih _ _ _ _ hs hf kont)
      · refine g_goto (off := 25) (tgt := 47) (by decide +kernel) (by decide) ?_
        refine g_iinc (i := 2) (z := 1) (v := (v2 + (1 : Int32))) (by decide +kernel) rfl rfl rfl (by decide) (ls1 := [(0, .ref 136), (1, .int v1), (2, .int (v2 + (1 : Int32)))]) rfl ?_
        refine g_goto (off := (-46)) (tgt := 4) (by decide +kernel) (by decide) ?_
        exact am_G.forget (am_subp [0, 1, 2] rfl) (ih _ _ _ _ hs hf kont)
def f_Mod_inTimeMany  (h : am_H) : Option (Int32 × am_H) :=
  (f_Mod_inTimeMany_L4  am_fu (0 : Int32) (0 : Int32) h).bind fun q8 =>
  some (q8.1, q8.2.2)
set_option maxRecDepth 100000 in
set_option maxHeartbeats 4000000 in
theorem t_Mod_inTimeMany  {h : am_H} (hs : am_Sh h)  {r : Int32 × am_H} (hf : f_Mod_inTimeMany  h = some r) : am_Ct 4 M_Mod_inTimeMany [.ref 136] h 0 0 (am_qI r) := by
  unfold f_Mod_inTimeMany at hf
  refine am_Ct.of (by decide) rfl (Nat.le_of_ble_eq_true rfl) (ls := [(0, .ref 136)]) rfl ?_
  refine g_iconst (z := 0) (v := 0) (by decide +kernel) rfl ?_
  refine g_istore_n (i := 1) (by decide +kernel) rfl (by decide) (ls1 := [(0, .ref 136), (1, .int (0 : Int32))]) rfl ?_
  refine g_iconst (z := 0) (v := 0) (by decide +kernel) rfl ?_
  refine g_istore_n (i := 2) (by decide +kernel) rfl (by decide) (ls1 := [(0, .ref 136), (1, .int (0 : Int32)), (2, .int (0 : Int32))]) rfl ?_
  obtain ⟨q8, hqq8, hf⟩ := Option.bind_eq_some_iff.mp hf
  refine am_G.forget (am_subp [0, 1, 2] rfl) (t_Mod_inTimeMany_L4  am_fu _ _ _ q8 hs hqq8 (fun hs => ?_))
  refine g_iload_n (i := 1) (by decide +kernel) rfl ?_
  exact x_iret hf hs (by decide +kernel) rfl (Nat.le_refl _) (Nat.le_refl _)
def f_Mod_laysWeek_L69  : Nat → Int32 → Int32 → Int32 → am_H → Option (Int32 × am_H)
  | 0, _, _, _, _ => none
  | n + 1, v1, v2, v3, h =>
    (am_rd (h.2.1 137) 3411 (2 : Int32)).bind fun x10 =>
    (if x10 ≤ v3 then
      some (v3, h)
    else
      (am_rd (h.2.1 137) 3411 ((29 : Int32) + v3)).bind fun x12 =>
      (am_wr h 152 6 v3 x12).bind fun h13 =>
      f_Mod_laysWeek_L69  n v1 v2 (v3 + (1 : Int32)) h13)
set_option maxRecDepth 100000 in
set_option maxHeartbeats 4000000 in
theorem t_Mod_laysWeek_L69   {Q : Option Value → am_H → Prop} : ∀ (n : Nat) (v1 : Int32) (v2 : Int32) (v3 : Int32) (h : am_H) (q : Int32 × am_H), am_Sh h → f_Mod_laysWeek_L69  n v1 v2 v3 h = some q → (am_Sh q.2 → am_G 5 M_Mod_laysWeek 0 0 Q 100 [(0, .ref 136), (1, .int v1), (2, .int v2), (3, .int q.1)] [] q.2 0 0) → am_G 5 M_Mod_laysWeek 0 0 Q 69 [(0, .ref 136), (1, .int v1), (2, .int v2), (3, .int v3)] [] h 0 0 := by
  intro n
  induction n with
  | zero =>
    intro v1 v2 v3 h q hs hf kont
    rw [f_Mod_laysWeek_L69] at hf
    cases hf
  | succ n ih =>
    intro v1 v2 v3 h q hs hf kont
    rw [f_Mod_laysWeek_L69] at hf
    refine g_iload_n (i := 3) (by decide +kernel) rfl ?_
    refine g_aload_n (i := 0) (by decide +kernel) rfl ?_
    refine x_getr (hs.k k_136) F_Mod_13 (by decide +kernel) rfl (hs.r r_136_1) ?_
    refine g_iconst (z := 2) (v := 2) (by decide +kernel) rfl ?_
    refine x_iald hf (hs.k k_137) (by decide +kernel) (fun x10 hf => ?_)
    refine x_icmp_ge (off := 24) (tgt := 100) hf (by decide +kernel) (by decide) (fun c11 hf => ?_) (fun c11 hf => ?_)
    · cases hf
      exact am_G.forget (am_subp [0, 1, 2, 3] rfl) (kont hs)
    · refine g_aload_n (i := 0) (by decide +kernel) rfl ?_
      refine x_getr (hs.k k_136) F_Mod_64 (by decide +kernel) rfl (hs.r r_136_29) ?_
      refine g_iload_n (i := 3) (by decide +kernel) rfl ?_
      refine g_aload_n (i := 0) (by decide +kernel) rfl ?_
      refine x_getr (hs.k k_136) F_Mod_13 (by decide +kernel) rfl (hs.r r_136_1) ?_
      refine g_bipush (z := 29) (v := 29) (by decide +kernel) rfl ?_
      refine g_iload_n (i := 3) (by decide +kernel) rfl ?_
      refine g_iadd (by decide +kernel) ?_
      refine x_iald hf (hs.k k_137) (by decide +kernel) (fun x12 hf => ?_)
      refine x_iast hf hs (hs.k k_152) (by decide +kernel) (fun h13 hf hs => ?_)
      refine g_iinc (i := 3) (z := 1) (v := (v3 + (1 : Int32))) (by decide +kernel) rfl rfl rfl (by decide) (ls1 := [(0, .ref 136), (1, .int v1), (2, .int v2), (3, .int (v3 + (1 : Int32)))]) rfl ?_
      refine g_goto (off := (-28)) (tgt := 69) (by decide +kernel) (by decide) ?_
      exact am_G.forget (am_subp [0, 1, 2, 3] rfl) (ih _ _ _ _ _ hs hf kont)
def f_Mod_laysWeek  (h : am_H) : Option (am_H) :=
  (f_Mod_inTimeMany  h).bind fun q1 =>
  (f_Mod_movesNow  q1.2).bind fun q2 =>
  (f_Mod_errandsMany  q1.2).bind fun q3 =>
  am_let (am_sI q1.2 136 35 ((q1.2.2.1 136 35) + (if q1.1 = q3 then (1 : Int32) else (0 : Int32)))) fun h5 =>
  (if q1.1 < (h5.2.1 136 33) then
    some h5
  else
    (if q1.1 = (h5.2.1 136 33) then
      (if q2 < (h5.2.1 136 34) then
        am_let (am_sI h5 136 33 q1.1) fun h16 =>
        am_let (am_sI h16 136 34 q2) fun h17 =>
        (f_Mod_laysWeek_L69  am_fu q1.1 q2 (0 : Int32) h17).bind fun q18 =>
        some q18.2
      else
        some h5)
    else
      am_let (am_sI h5 136 33 q1.1) fun h8 =>
      am_let (am_sI h8 136 34 q2) fun h9 =>
      (f_Mod_laysWeek_L69  am_fu q1.1 q2 (0 : Int32) h9).bind fun q14 =>
      some q14.2))
set_option maxRecDepth 100000 in
set_option maxHeartbeats 4000000 in
theorem t_Mod_laysWeek  {h : am_H} (hs : am_Sh h)  {r : am_H} (hf : f_Mod_laysWeek  h = some r) : am_Ct 5 M_Mod_laysWeek [.ref 136] h 0 0 (am_qV r) := by
  unfold f_Mod_laysWeek at hf
  refine am_Ct.of (by decide) rfl (Nat.le_of_ble_eq_true rfl) (ls := [(0, .ref 136)]) rfl ?_
  refine g_aload_n (i := 0) (by decide +kernel) rfl ?_
  refine x_callVI (as := []) Vi_Mod_inTimeMany Vs_Mod_inTimeMany (hs.k k_136) rfl hf (fun q hq => t_Mod_inTimeMany hs  hq) Y_Mod_inTimeMany L_Mod_381 (by decide +kernel) rfl rfl (Nat.le_of_ble_eq_true rfl) (by decide) (Nat.le_refl _) (Nat.le_refl _) (fun q1 hf hs => ?_)
  refine g_istore_n (i := 1) (by decide +kernel) rfl (by decide) (ls1 := [(0, .ref 136), (1, .int q1.1)]) rfl ?_
  refine g_aload_n (i := 0) (by decide +kernel) rfl ?_
  refine x_callVIp (as := []) Vi_Mod_movesNow Vs_Mod_movesNow (hs.k k_136) rfl hf (fun q hq => t_Mod_movesNow hs  hq) Y_Mod_movesNow L_Mod_384 (by decide +kernel) rfl rfl (Nat.le_of_ble_eq_true rfl) (by decide) (Nat.le_refl _) (Nat.le_refl _) (fun q2 hf => ?_)
  refine g_istore_n (i := 2) (by decide +kernel) rfl (by decide) (ls1 := [(0, .ref 136), (1, .int q1.1), (2, .int q2)]) rfl ?_
  refine g_aload_n (i := 0) (by decide +kernel) rfl ?_
  refine g_dup (by decide +kernel) rfl ?_
  refine x_geti (hs.k k_136) F_Mod_387 (by decide +kernel) rfl ?_
  refine g_iload_n (i := 1) (by decide +kernel) rfl ?_
  refine g_aload_n (i := 0) (by decide +kernel) rfl ?_
  refine x_callVIp (as := []) Vi_Mod_errandsMany Vs_Mod_errandsMany (hs.k k_136) rfl hf (fun q hq => t_Mod_errandsMany hs  hq) Y_Mod_errandsMany L_Mod_390 (by decide +kernel) rfl rfl (Nat.le_of_ble_eq_true rfl) (by decide) (Nat.le_refl _) (Nat.le_refl _) (fun q3 hf => ?_)
  refine am_cut (J := 28) (ls' := [(0, .ref 136), (1, .int q1.1), (2, .int q2)]) (st' := [.int (if q1.1 = q3 then (1 : Int32) else (0 : Int32)), .int (q1.2.2.1 136 35), .ref 136]) ?_ (fun K28 => ?_)
  · refine g_iadd (by decide +kernel) ?_
    refine x_puti hf hs (hs.k k_136) F_Mod_387 (by decide +kernel) rfl rfl rfl rfl (fun h5 hf hs => ?_)
    refine g_iload_n (i := 1) (by decide +kernel) rfl ?_
    refine g_aload_n (i := 0) (by decide +kernel) rfl ?_
    refine x_geti (hs.k k_136) F_Mod_393 (by decide +kernel) rfl ?_
    refine x_icmp_lt (off := 19) (tgt := 56) hf (by decide +kernel) (by decide) (fun c6 hf => ?_) (fun c6 hf => ?_)
    · exact x_vret hf hs (by decide +kernel) rfl (Nat.le_refl _) (Nat.le_refl _)
    · refine g_iload_n (i := 1) (by decide +kernel) rfl ?_
      refine g_aload_n (i := 0) (by decide +kernel) rfl ?_
      refine x_geti (hs.k k_136) F_Mod_393 (by decide +kernel) rfl ?_
      refine x_icmp_ne (off := 12) (tgt := 57) hf (by decide +kernel) (by decide) (fun c7 hf => ?_) (fun c7 hf => ?_)
      · refine g_aload_n (i := 0) (by decide +kernel) rfl ?_
        refine g_iload_n (i := 1) (by decide +kernel) rfl ?_
        refine x_puti hf hs (hs.k k_136) F_Mod_393 (by decide +kernel) rfl rfl rfl rfl (fun h8 hf hs => ?_)
        refine g_aload_n (i := 0) (by decide +kernel) rfl ?_
        refine g_iload_n (i := 2) (by decide +kernel) rfl ?_
        refine x_puti hf hs (hs.k k_136) F_Mod_396 (by decide +kernel) rfl rfl rfl rfl (fun h9 hf hs => ?_)
        refine g_iconst (z := 0) (v := 0) (by decide +kernel) rfl ?_
        refine g_istore_n (i := 3) (by decide +kernel) rfl (by decide) (ls1 := [(0, .ref 136), (1, .int q1.1), (2, .int q2), (3, .int (0 : Int32))]) rfl ?_
        obtain ⟨q14, hqq14, hf⟩ := Option.bind_eq_some_iff.mp hf
        refine am_G.forget (am_subp [0, 1, 2, 3] rfl) (t_Mod_laysWeek_L69  am_fu _ _ _ _ q14 hs hqq14 (fun hs => ?_))
        exact x_vret hf hs (by decide +kernel) rfl (Nat.le_refl _) (Nat.le_refl _)
      · refine g_iload_n (i := 2) (by decide +kernel) rfl ?_
        refine g_aload_n (i := 0) (by decide +kernel) rfl ?_
        refine x_geti (hs.k k_136) F_Mod_396 (by decide +kernel) rfl ?_
        refine x_icmp_lt (off := 4) (tgt := 57) hf (by decide +kernel) (by decide) (fun c15 hf => ?_) (fun c15 hf => ?_)
        · refine g_aload_n (i := 0) (by decide +kernel) rfl ?_
          refine g_iload_n (i := 1) (by decide +kernel) rfl ?_
          refine x_puti hf hs (hs.k k_136) F_Mod_393 (by decide +kernel) rfl rfl rfl rfl (fun h16 hf hs => ?_)
          refine g_aload_n (i := 0) (by decide +kernel) rfl ?_
          refine g_iload_n (i := 2) (by decide +kernel) rfl ?_
          refine x_puti hf hs (hs.k k_136) F_Mod_396 (by decide +kernel) rfl rfl rfl rfl (fun h17 hf hs => ?_)
          refine g_iconst (z := 0) (v := 0) (by decide +kernel) rfl ?_
          refine g_istore_n (i := 3) (by decide +kernel) rfl (by decide) (ls1 := [(0, .ref 136), (1, .int q1.1), (2, .int q2), (3, .int (0 : Int32))]) rfl ?_
          obtain ⟨q18, hqq18, hf⟩ := Option.bind_eq_some_iff.mp hf
          refine am_G.forget (am_subp [0, 1, 2, 3] rfl) (t_Mod_laysWeek_L69  am_fu _ _ _ _ q18 hs hqq18 (fun hs => ?_))
          exact x_vret hf hs (by decide +kernel) rfl (Nat.le_refl _) (Nat.le_refl _)
        · exact x_vret hf hs (by decide +kernel) rfl (Nat.le_refl _) (Nat.le_refl _)
  refine p_icmp_ne (off := 7) (tgt := 27) (by decide +kernel) (by decide) (fun c4 => ?_) (fun c4 => ?_)
  · refine g_iconst (z := 0) (v := 0) (by decide +kernel) rfl ?_
    have K1 := K28
    simp only [if_neg c4] at K1
    exact am_G.forget (am_subp [0, 1, 2] rfl) K1
  · refine g_iconst (z := 1) (v := 1) (by decide +kernel) rfl ?_
    refine g_goto (off := 4) (tgt := 28) (by decide +kernel) (by decide) ?_
    have K1 := K28
    simp only [if_pos c4] at K1
    exact am_G.forget (am_subp [0, 1, 2] rfl) K1
def am_M_Gw (t : Nat) : am_M := match t with
  | _ => M_Mod_goesWeeks
def f_Mod_goesWeeks_L17 (rec : Nat → Int32 → am_H → Option (am_H)) (p1 : Int32) : Nat → Int32 → am_H → Option (Int32 × am_H)
  | 0, _, _ => none
  | n + 1, v2, h =>
    (am_rd (h.2.1 137) 3411 (1 : Int32)).bind fun x3 =>
    (if x3 < v2 then
      some (v2, h)
    else
      (am_rd (h.2.1 137) 3411 (1 : Int32)).bind fun x5 =>
      (am_wr h 137 3411 ((29 : Int32) + p1) (if v2 = x5 then (-1 : Int32) else v2)).bind fun h7 =>
      (rec 0 (p1 + (1 : Int32)) h7).bind fun q8 =>
      f_Mod_goesWeeks_L17 rec p1 n (v2 + (1 : Int32)) q8)
set_option maxRecDepth 100000 in
set_option maxHeartbeats 4000000 in
theorem t_Mod_goesWeeks_L17 {rec : Nat → Int32 → am_H → Option (am_H)} {e : Nat} (hrec : ∀ (t : Nat) (a0 : Int32) (h : am_H), am_Sh h → ∀ q, rec t a0 h = some q → am_Ct e (am_M_Gw t) [.ref 136, .int a0] h 0 0 (am_qV q)) (he : 6 ≤ e) {p1 : Int32}  {Q : Option Value → am_H → Prop} : ∀ (n : Nat) (v2 : Int32) (h : am_H) (q : Int32 × am_H), am_Sh h → f_Mod_goesWeeks_L17 rec p1 n v2 h = some q → (am_Sh q.2 → am_G (e + 1) M_Mod_goesWeeks 0 0 Q 64 [(0, .ref 136), (1, .int p1), (2, .int q.1)] [] q.2 0 0) → am_G (e + 1) M_Mod_goesWeeks 0 0 Q 17 [(0, .ref 136), (1, .int p1), (2, .int v2)] [] h 0 0 := by
  intro n
  induction n with
  | zero =>
    intro v2 h q hs hf kont
    rw [f_Mod_goesWeeks_L17] at hf
    cases hf
  | succ n ih =>
    intro v2 h q hs hf kont
    rw [f_Mod_goesWeeks_L17] at hf
    refine g_iload_n (i := 2) (by decide +kernel) rfl ?_
    refine g_aload_n (i := 0) (by decide +kernel) rfl ?_
    refine x_getr (hs.k k_136) F_Mod_13 (by decide +kernel) rfl (hs.r r_136_1) ?_
    refine g_iconst (z := 1) (v := 1) (by decide +kernel) rfl ?_
    refine x_iald hf (hs.k k_137) (by decide +kernel) (fun x3 hf => ?_)
    refine x_icmp_gt (off := 40) (tgt := 64) hf (by decide +kernel) (by decide) (fun c4 hf => ?_) (fun c4 hf => ?_)
    · cases hf
      exact am_G.forget (am_subp [0, 1, 2] rfl) (kont hs)
    · refine g_aload_n (i := 0) (by decide +kernel) rfl ?_
      refine x_getr (hs.k k_136) F_Mod_13 (by decide +kernel) rfl (hs.r r_136_1) ?_
      refine g_bipush (z := 29) (v := 29) (by decide +kernel) rfl ?_
      refine g_iload_n (i := 1) (by decide +kernel) rfl ?_
      refine g_iadd (by decide +kernel) ?_
      refine g_iload_n (i := 2) (by decide +kernel) rfl ?_
      refine g_aload_n (i := 0) (by decide +kernel) rfl ?_
      refine x_getr (hs.k k_136) F_Mod_13 (by decide +kernel) rfl (hs.r r_136_1) ?_
      refine g_iconst (z := 1) (v := 1) (by decide +kernel) rfl ?_
      refine x_iald hf (hs.k k_137) (by decide +kernel) (fun x5 hf => ?_)
      refine am_cut (J := 50) (ls' := [(0, .ref 136), (1, .int p1), (2, .int v2)]) (st' := [.int (if v2 = x5 then (-1 : Int32) else v2), .int ((29 : Int32) + p1), .ref 137]) ?_ (fun K50 => ?_)
      · refine x_iast hf hs (hs.k k_137) (by decide +kernel) (fun h7 hf hs => ?_)
        refine g_aload_n (i := 0) (by decide +kernel) rfl ?_
        refine g_iload_n (i := 1) (by decide +kernel) rfl ?_
        refine g_iconst (z := 1) (v := 1) (by decide +kernel) rfl ?_
        refine g_iadd (by decide +kernel) ?_
        refine x_callVV (as := [.int (p1 + (1 : Int32))]) Vi_Mod_goesWeeks Vs_Mod_goesWeeks (hs.k k_136) rfl hf (fun q hq => hrec 0 _ _ hs q hq) Y_Mod_goesWeeks L_Mod_378 (by decide +kernel) rfl rfl (Nat.le_of_ble_eq_true rfl) (by omega) (Nat.le_refl _) (Nat.le_refl _) (fun q8 hf hs => ?_)
        refine g_iinc (i := 2) (z := 1) (v := (v2 + (1 : Int32))) (by decide +kernel) rfl rfl rfl (by decide) (ls1 := [(0, .ref 136), (1, .int p1), (2, .int (v2 + (1 : Int32)))]) rfl ?_
        refine g_goto (off := (-44)) (tgt := 17) (by decide +kernel) (by decide) ?_
        exact am_G.forget (am_subp [0, 1, 2] rfl) (ih _ _ _ hs hf kont)
      refine p_icmp_ne (off := 7) (tgt := 49) (by decide +kernel) (by decide) (fun c6 => ?_) (fun c6 => ?_)
      · refine g_iload_n (i := 2) (by decide +kernel) rfl ?_
        have K1 := K50
        simp only [if_neg c6] at K1
        exact am_G.forget (am_subp [0, 1, 2] rfl) K1
      · refine g_iconst (z := (-1)) (v := (-1)) (by decide +kernel) rfl ?_
        refine g_goto (off := 4) (tgt := 50) (by decide +kernel) (by decide) ?_
        have K1 := K50
        simp only [if_pos c6] at K1
        exact am_G.forget (am_subp [0, 1, 2] rfl) K1
def b_Mod_goesWeeks (rec : Nat → Int32 → am_H → Option (am_H)) (p1 : Int32) (h : am_H) : Option (am_H) :=
  (am_rd (h.2.1 137) 3411 (2 : Int32)).bind fun x1 =>
  (if p1 = x1 then
    (f_Mod_laysWeek  h).bind fun q10 =>
    some q10
  else
    (f_Mod_goesWeeks_L17 rec p1 am_fu (0 : Int32) h).bind fun q9 =>
    some q9.2)
set_option maxRecDepth 100000 in
set_option maxHeartbeats 4000000 in
theorem tb_Mod_goesWeeks {rec : Nat → Int32 → am_H → Option (am_H)} {e : Nat} (hrec : ∀ (t : Nat) (a0 : Int32) (h : am_H), am_Sh h → ∀ q, rec t a0 h = some q → am_Ct e (am_M_Gw t) [.ref 136, .int a0] h 0 0 (am_qV q)) (he : 6 ≤ e) {p1 : Int32} {h : am_H} (hs : am_Sh h)  {r : am_H} (hf : b_Mod_goesWeeks rec p1 h = some r) : am_Ct (e + 1) M_Mod_goesWeeks [.ref 136, .int p1] h 0 0 (am_qV r) := by
  unfold b_Mod_goesWeeks at hf
  refine am_Ct.of (by decide) rfl (Nat.le_of_ble_eq_true rfl) (ls := [(0, .ref 136), (1, .int p1)]) rfl ?_
  refine g_iload_n (i := 1) (by decide +kernel) rfl ?_
  refine g_aload_n (i := 0) (by decide +kernel) rfl ?_
  refine x_getr (hs.k k_136) F_Mod_13 (by decide +kernel) rfl (hs.r r_136_1) ?_
  refine g_iconst (z := 2) (v := 2) (by decide +kernel) rfl ?_
  refine x_iald hf (hs.k k_137) (by decide +kernel) (fun x1 hf => ?_)
  refine x_icmp_ne (off := 8) (tgt := 15) hf (by decide +kernel) (by decide) (fun c2 hf => ?_) (fun c2 hf => ?_)
  · refine g_iconst (z := 0) (v := 0) (by decide +kernel) rfl ?_
    refine g_istore_n (i := 2) (by decide +kernel) rfl (by decide) (ls1 := [(0, .ref 136), (1, .int p1), (2, .int (0 : Int32))]) rfl ?_
    obtain ⟨q9, hqq9, hf⟩ := Option.bind_eq_some_iff.mp hf
    refine am_G.forget (am_subp [0, 1, 2] rfl) (t_Mod_goesWeeks_L17 hrec he  am_fu _ _ q9 hs hqq9 (fun hs => ?_))
    exact x_vret hf hs (by decide +kernel) rfl (Nat.le_refl _) (Nat.le_refl _)
  · refine g_aload_n (i := 0) (by decide +kernel) rfl ?_
    refine x_callVV (as := []) Vi_Mod_laysWeek Vs_Mod_laysWeek (hs.k k_136) rfl hf (fun q hq => t_Mod_laysWeek hs  hq) Y_Mod_laysWeek L_Mod_375 (by decide +kernel) rfl rfl (Nat.le_of_ble_eq_true rfl) (by omega) (Nat.le_refl _) (Nat.le_refl _) (fun q10 hf hs => ?_)
    exact x_vret hf hs (by decide +kernel) rfl (Nat.le_refl _) (Nat.le_refl _)
def f_Gw : Nat → Nat → Int32 → am_H → Option (am_H)
  | 0, _, _, _ => none
  | n + 1, t, a0, h => match t with
    | _ => b_Mod_goesWeeks (f_Gw n) a0 h
theorem t_Gw : ∀ (n t : Nat) (a0 : Int32) (h : am_H), am_Sh h → ∀ q, f_Gw n t a0 h = some q → am_Ct (6 + n) (am_M_Gw t) [.ref 136, .int a0] h 0 0 (am_qV q)
  | 0, t, a0, h, hs, q, hq => by
    rw [f_Gw] at hq
    cases hq
  | n + 1, t, a0, h, hs, q, hq => by
    have hrec := t_Gw n
    match t, hq with
    | _ + 0, hq => exact tb_Mod_goesWeeks hrec (by omega) hs hq
def f_Mod_goesWeeks (a0 : Int32) (h : am_H) : Option (am_H) := f_Gw 60 0 a0 h
theorem t_Mod_goesWeeks {a0 : Int32} {h : am_H} (hs : am_Sh h) {r : am_H} (hf : f_Mod_goesWeeks a0 h = some r) : am_Ct 66 M_Mod_goesWeeks [.ref 136, .int a0] h 0 0 (am_qV r) := t_Gw 60 0 a0 h hs r hf
def f_Mod_laysWeeks_L6  : Nat → Int32 → am_H → Option (Int32 × am_H)
  | 0, _, _ => none
  | n + 1, v1, h =>
    (if (6 : Int32) ≤ v1 then
      some (v1, h)
    else
      (am_rd (h.2.1 137) 3411 ((29 : Int32) + v1)).bind fun x3 =>
      (am_wr h 151 6 v1 x3).bind fun h4 =>
      f_Mod_laysWeeks_L6  n (v1 + (1 : Int32)) h4)
set_option maxRecDepth 100000 in
set_option maxHeartbeats 4000000 in
theorem t_Mod_laysWeeks_L6   {Q : Option Value → am_H → Prop} : ∀ (n : Nat) (v1 : Int32) (h : am_H) (q : Int32 × am_H), am_Sh h → f_Mod_laysWeeks_L6  n v1 h = some q → (am_Sh q.2 → am_G 67 M_Mod_laysWeeks 0 0 Q 33 [(0, .ref 136), (1, .int q.1)] [] q.2 0 0) → am_G 67 M_Mod_laysWeeks 0 0 Q 6 [(0, .ref 136), (1, .int v1)] [] h 0 0 := by
  intro n
  induction n with
  | zero =>
    intro v1 h q hs hf kont
    rw [f_Mod_laysWeeks_L6] at hf
    cases hf
  | succ n ih =>
    intro v1 h q hs hf kont
    rw [f_Mod_laysWeeks_L6] at hf
    refine g_iload_n (i := 1) (by decide +kernel) rfl ?_
    refine g_bipush (z := 6) (v := 6) (by decide +kernel) rfl ?_
    refine x_icmp_ge (off := 24) (tgt := 33) hf (by decide +kernel) (by decide) (fun c2 hf => ?_) (fun c2 hf => ?_)
    · cases hf
      exact am_G.forget (am_subp [0, 1] rfl) (kont hs)
    · refine g_aload_n (i := 0) (by decide +kernel) rfl ?_
      refine x_getr (hs.k k_136) F_Mod_61 (by decide +kernel) rfl (hs.r r_136_28) ?_
      refine g_iload_n (i := 1) (by decide +kernel) rfl ?_
      refine g_aload_n (i := 0) (by decide +kernel) rfl ?_
      refine x_getr (hs.k k_136) F_Mod_13 (by decide +kernel) rfl (hs.r r_136_1) ?_
      refine g_bipush (z := 29) (v := 29) (by decide +kernel) rfl ?_
      refine g_iload_n (i := 1) (by decide +kernel) rfl ?_
      refine g_iadd (by decide +kernel) ?_
      refine x_iald hf (hs.k k_137) (by decide +kernel) (fun x3 hf => ?_)
      refine x_iast hf hs (hs.k k_151) (by decide +kernel) (fun h4 hf hs => ?_)
      refine g_iinc (i := 1) (z := 1) (v := (v1 + (1 : Int32))) (by decide +kernel) rfl rfl rfl (by decide) (ls1 := [(0, .ref 136), (1, .int (v1 + (1 : Int32)))]) rfl ?_
      refine g_goto (off := (-24)) (tgt := 6) (by decide +kernel) (by decide) ?_
      exact am_G.forget (am_subp [0, 1] rfl) (ih _ _ _ hs hf kont)
def f_Mod_laysWeeks_L55  : Nat → Int32 → am_H → Option (Int32 × am_H)
  | 0, _, _ => none
  | n + 1, v1, h =>
    (if (6 : Int32) ≤ v1 then
      some (v1, h)
    else
      (am_rd (h.2.1 151) 6 v1).bind fun x11 =>
      (am_wr h 137 3411 ((29 : Int32) + v1) x11).bind fun h12 =>
      f_Mod_laysWeeks_L55  n (v1 + (1 : Int32)) h12)
set_option maxRecDepth 100000 in
set_option maxHeartbeats 4000000 in
theorem t_Mod_laysWeeks_L55   {Q : Option Value → am_H → Prop} : ∀ (n : Nat) (v1 : Int32) (h : am_H) (q : Int32 × am_H), am_Sh h → f_Mod_laysWeeks_L55  n v1 h = some q → (am_Sh q.2 → am_G 67 M_Mod_laysWeeks 0 0 Q 82 [(0, .ref 136), (1, .int q.1)] [] q.2 0 0) → am_G 67 M_Mod_laysWeeks 0 0 Q 55 [(0, .ref 136), (1, .int v1)] [] h 0 0 := by
  intro n
  induction n with
  | zero =>
    intro v1 h q hs hf kont
    rw [f_Mod_laysWeeks_L55] at hf
    cases hf
  | succ n ih =>
    intro v1 h q hs hf kont
    rw [f_Mod_laysWeeks_L55] at hf
    refine g_iload_n (i := 1) (by decide +kernel) rfl ?_
    refine g_bipush (z := 6) (v := 6) (by decide +kernel) rfl ?_
    refine x_icmp_ge (off := 24) (tgt := 82) hf (by decide +kernel) (by decide) (fun c10 hf => ?_) (fun c10 hf => ?_)
    · cases hf
      exact am_G.forget (am_subp [0, 1] rfl) (kont hs)
    · refine g_aload_n (i := 0) (by decide +kernel) rfl ?_
      refine x_getr (hs.k k_136) F_Mod_13 (by decide +kernel) rfl (hs.r r_136_1) ?_
      refine g_bipush (z := 29) (v := 29) (by decide +kernel) rfl ?_
      refine g_iload_n (i := 1) (by decide +kernel) rfl ?_
      refine g_iadd (by decide +kernel) ?_
      refine g_aload_n (i := 0) (by decide +kernel) rfl ?_
      refine x_getr (hs.k k_136) F_Mod_61 (by decide +kernel) rfl (hs.r r_136_28) ?_
      refine g_iload_n (i := 1) (by decide +kernel) rfl ?_
      refine x_iald hf (hs.k k_151) (by decide +kernel) (fun x11 hf => ?_)
      refine x_iast hf hs (hs.k k_137) (by decide +kernel) (fun h12 hf hs => ?_)
      refine g_iinc (i := 1) (z := 1) (v := (v1 + (1 : Int32))) (by decide +kernel) rfl rfl rfl (by decide) (ls1 := [(0, .ref 136), (1, .int (v1 + (1 : Int32)))]) rfl ?_
      refine g_goto (off := (-24)) (tgt := 55) (by decide +kernel) (by decide) ?_
      exact am_G.forget (am_subp [0, 1] rfl) (ih _ _ _ hs hf kont)
def f_Mod_laysWeeks  (h : am_H) : Option (am_H) :=
  (f_Mod_keepsLets  h).bind fun q1 =>
  (f_Mod_laysWeeks_L6  am_fu (0 : Int32) q1).bind fun q5 =>
  am_let (am_sI q5.2 136 33 (-1 : Int32)) fun h6 =>
  am_let (am_sI h6 136 34 (0 : Int32)) fun h7 =>
  am_let (am_sI h7 136 35 (0 : Int32)) fun h8 =>
  (f_Mod_goesWeeks (0 : Int32) h8).bind fun q9 =>
  (f_Mod_laysWeeks_L55  am_fu (0 : Int32) q9).bind fun q13 =>
  some q13.2
set_option maxRecDepth 100000 in
set_option maxHeartbeats 4000000 in
theorem t_Mod_laysWeeks  {h : am_H} (hs : am_Sh h)  {r : am_H} (hf : f_Mod_laysWeeks  h = some r) : am_Ct 67 M_Mod_laysWeeks [.ref 136] h 0 0 (am_qV r) := by
  unfold f_Mod_laysWeeks at hf
  refine am_Ct.of (by decide) rfl (Nat.le_of_ble_eq_true rfl) (ls := [(0, .ref 136)]) rfl ?_
  refine g_aload_n (i := 0) (by decide +kernel) rfl ?_
  refine x_callVV (as := []) Vi_Mod_keepsLets Vs_Mod_keepsLets (hs.k k_136) rfl hf (fun q hq => t_Mod_keepsLets hs  hq) Y_Mod_keepsLets L_Mod_399 (by decide +kernel) rfl rfl (Nat.le_of_ble_eq_true rfl) (by decide) (Nat.le_refl _) (Nat.le_refl _) (fun q1 hf hs => ?_)
  refine g_iconst (z := 0) (v := 0) (by decide +kernel) rfl ?_
  refine g_istore_n (i := 1) (by decide +kernel) rfl (by decide) (ls1 := [(0, .ref 136), (1, .int (0 : Int32))]) rfl ?_
  obtain ⟨q5, hqq5, hf⟩ := Option.bind_eq_some_iff.mp hf
  refine am_G.forget (am_subp [0, 1] rfl) (t_Mod_laysWeeks_L6  am_fu _ _ q5 hs hqq5 (fun hs => ?_))
  refine g_aload_n (i := 0) (by decide +kernel) rfl ?_
  refine g_iconst (z := (-1)) (v := (-1)) (by decide +kernel) rfl ?_
  refine x_puti hf hs (hs.k k_136) F_Mod_393 (by decide +kernel) rfl rfl rfl rfl (fun h6 hf hs => ?_)
  refine g_aload_n (i := 0) (by decide +kernel) rfl ?_
  refine g_iconst (z := 0) (v := 0) (by decide +kernel) rfl ?_
  refine x_puti hf hs (hs.k k_136) F_Mod_396 (by decide +kernel) rfl rfl rfl rfl (fun h7 hf hs => ?_)
  refine g_aload_n (i := 0) (by decide +kernel) rfl ?_
  refine g_iconst (z := 0) (v := 0) (by decide +kernel) rfl ?_
  refine x_puti hf hs (hs.k k_136) F_Mod_387 (by decide +kernel) rfl rfl rfl rfl (fun h8 hf hs => ?_)
  refine g_aload_n (i := 0) (by decide +kernel) rfl ?_
  refine g_iconst (z := 0) (v := 0) (by decide +kernel) rfl ?_
  refine x_callVV (as := [.int (0 : Int32)]) Vi_Mod_goesWeeks Vs_Mod_goesWeeks (hs.k k_136) rfl hf (fun q hq => t_Mod_goesWeeks hs  hq) Y_Mod_goesWeeks L_Mod_378 (by decide +kernel) rfl rfl (Nat.le_of_ble_eq_true rfl) (by decide) (Nat.le_refl _) (Nat.le_refl _) (fun q9 hf hs => ?_)
  refine g_iconst (z := 0) (v := 0) (by decide +kernel) rfl ?_
  refine g_istore_n (i := 1) (by decide +kernel) rfl (by decide) (ls1 := [(0, .ref 136), (1, .int (0 : Int32))]) rfl ?_
  obtain ⟨q13, hqq13, hf⟩ := Option.bind_eq_some_iff.mp hf
  refine am_G.forget (am_subp [0, 1] rfl) (t_Mod_laysWeeks_L55  am_fu _ _ q13 hs hqq13 (fun hs => ?_))
  exact x_vret hf hs (by decide +kernel) rfl (Nat.le_refl _) (Nat.le_refl _)
def f_Mod_moves  (h : am_H) : Option (Int32 × am_H) :=
  am_let (am_sI h 136 0 (0 : Int32)) fun h1 =>
  (f_Mod_movesNow  h1).bind fun q2 =>
  some (q2, h1)
set_option maxRecDepth 100000 in
set_option maxHeartbeats 4000000 in
theorem t_Mod_moves  {h : am_H} (hs : am_Sh h)  {r : Int32 × am_H} (hf : f_Mod_moves  h = some r) : am_Ct 1 M_Mod_moves [.ref 136] h 0 0 (am_qI r) := by
  unfold f_Mod_moves at hf
  refine am_Ct.of (by decide) rfl (Nat.le_of_ble_eq_true rfl) (ls := [(0, .ref 136)]) rfl ?_
  refine g_aload_n (i := 0) (by decide +kernel) rfl ?_
  refine g_iconst (z := 0) (v := 0) (by decide +kernel) rfl ?_
  refine x_puti hf hs (hs.k k_136) F_Mod_1 (by decide +kernel) rfl rfl rfl rfl (fun h1 hf hs => ?_)
  refine g_aload_n (i := 0) (by decide +kernel) rfl ?_
  refine x_callVIp (as := []) Vi_Mod_movesNow Vs_Mod_movesNow (hs.k k_136) rfl hf (fun q hq => t_Mod_movesNow hs  hq) Y_Mod_movesNow L_Mod_384 (by decide +kernel) rfl rfl (Nat.le_of_ble_eq_true rfl) (by decide) (Nat.le_refl _) (Nat.le_refl _) (fun q2 hf => ?_)
  exact x_iret hf hs (by decide +kernel) rfl (Nat.le_refl _) (Nat.le_refl _)
def f_Mod_best (p1 : Int32) (h : am_H) : Option (Int32 × am_H) :=
  am_let (am_sI h 136 0 (0 : Int32)) fun h1 =>
  (f_Mod_within ((p1).toInt64) (0 : Int64) (1 : Int64) h1).bind fun q2 =>
  (if q2 = true then
    (f_Mod_laysWeeks  h1).bind fun q4 =>
    (if p1 = 0 then
      some ((q4.2.1 136 33), q4)
    else
      (if p1 = (1 : Int32) then
        some ((q4.2.1 136 34), q4)
      else
        (am_rd (q4.2.1 152) 6 (p1 - (10 : Int32))).bind fun x7 =>
        some (x7, q4)))
  else
    (am_rd (h1.2.1 137) 3411 (2 : Int32)).bind fun x8 =>
    (f_Mod_within ((p1).toInt64) (10 : Int64) ((((9 : Int32) + x8)).toInt64) h1).bind fun q9 =>
    (if q9 = true then
      (f_Mod_laysWeeks  h1).bind fun q11 =>
      (if p1 = 0 then
        some ((q11.2.1 136 33), q11)
      else
        (if p1 = (1 : Int32) then
          some ((q11.2.1 136 34), q11)
        else
          (am_rd (q11.2.1 152) 6 (p1 - (10 : Int32))).bind fun x14 =>
          some (x14, q11)))
    else
      some ((-2 : Int32), h1)))
set_option maxRecDepth 100000 in
set_option maxHeartbeats 4000000 in
theorem t_Mod_best {p1 : Int32} {h : am_H} (hs : am_Sh h)  {r : Int32 × am_H} (hf : f_Mod_best p1 h = some r) : am_Ct 68 M_Mod_best [.ref 136, .int p1] h 0 0 (am_qI r) := by
  unfold f_Mod_best at hf
  refine am_Ct.of (by decide) rfl (Nat.le_of_ble_eq_true rfl) (ls := [(0, .ref 136), (1, .int p1)]) rfl ?_
  refine g_aload_n (i := 0) (by decide +kernel) rfl ?_
  refine g_iconst (z := 0) (v := 0) (by decide +kernel) rfl ?_
  refine x_puti hf hs (hs.k k_136) F_Mod_1 (by decide +kernel) rfl rfl rfl rfl (fun h1 hf hs => ?_)
  refine g_iload_n (i := 1) (by decide +kernel) rfl ?_
  refine g_i2l (by decide +kernel) ?_
  refine g_lconst (z := 0) (v := 0) (by decide +kernel) rfl ?_
  refine g_lconst (z := 1) (v := 1) (by decide +kernel) rfl ?_
  refine x_callSBp (as := [.long ((p1).toInt64), .long (0 : Int64), .long (1 : Int64)]) St_Mod_within hf (fun q hq => t_Mod_within hs  hq) Y_Mod_within L_Mod_157 (by decide +kernel) rfl rfl (Nat.le_of_ble_eq_true rfl) (by decide) (Nat.le_refl _) (Nat.le_refl _) (fun q2 hf => ?_)
  refine x_ifb_ne (off := 27) (tgt := 39) hf (by decide +kernel) (by decide) (fun c3 hf => ?_) (fun c3 hf => ?_)
  · refine g_aload_n (i := 0) (by decide +kernel) rfl ?_
    refine x_callVV (as := []) Vi_Mod_laysWeeks Vs_Mod_laysWeeks (hs.k k_136) rfl hf (fun q hq => t_Mod_laysWeeks hs  hq) Y_Mod_laysWeeks L_Mod_402 (by decide +kernel) rfl rfl (Nat.le_of_ble_eq_true rfl) (by decide) (Nat.le_refl _) (Nat.le_refl _) (fun q4 hf hs => ?_)
    refine g_iload_n (i := 1) (by decide +kernel) rfl ?_
    refine x_if_ne (off := 10) (tgt := 54) hf (by decide +kernel) (by decide) (fun c5 hf => ?_) (fun c5 hf => ?_)
    · refine g_iload_n (i := 1) (by decide +kernel) rfl ?_
      refine g_iconst (z := 1) (v := 1) (by decide +kernel) rfl ?_
      refine x_icmp_ne (off := 10) (tgt := 66) hf (by decide +kernel) (by decide) (fun c6 hf => ?_) (fun c6 hf => ?_)
      · refine g_aload_n (i := 0) (by decide +kernel) rfl ?_
        refine x_getr (hs.k k_136) F_Mod_64 (by decide +kernel) rfl (hs.r r_136_29) ?_
        refine g_iload_n (i := 1) (by decide +kernel) rfl ?_
        refine g_bipush (z := 10) (v := 10) (by decide +kernel) rfl ?_
        refine g_isub (by decide +kernel) ?_
        refine x_iald hf (hs.k k_152) (by decide +kernel) (fun x7 hf => ?_)
        exact x_iret hf hs (by decide +kernel) rfl (Nat.le_refl _) (Nat.le_refl _)
      · refine g_aload_n (i := 0) (by decide +kernel) rfl ?_
        refine x_geti (hs.k k_136) F_Mod_396 (by decide +kernel) rfl ?_
        refine g_goto (off := 12) (tgt := 75) (by decide +kernel) (by decide) ?_
        exact x_iret hf hs (by decide +kernel) rfl (Nat.le_refl _) (Nat.le_refl _)
    · refine g_aload_n (i := 0) (by decide +kernel) rfl ?_
      refine x_geti (hs.k k_136) F_Mod_393 (by decide +kernel) rfl ?_
      refine g_goto (off := 24) (tgt := 75) (by decide +kernel) (by decide) ?_
      exact x_iret hf hs (by decide +kernel) rfl (Nat.le_refl _) (Nat.le_refl _)
  · refine g_iload_n (i := 1) (by decide +kernel) rfl ?_
    refine g_i2l (by decide +kernel) ?_
    refine g_ldc2 (by decide +kernel) C_Mod_283 ?_
    refine g_bipush (z := 9) (v := 9) (by decide +kernel) rfl ?_
    refine g_aload_n (i := 0) (by decide +kernel) rfl ?_
    refine x_getr (hs.k k_136) F_Mod_13 (by decide +kernel) rfl (hs.r r_136_1) ?_
    refine g_iconst (z := 2) (v := 2) (by decide +kernel) rfl ?_
    refine x_iald hf (hs.k k_137) (by decide +kernel) (fun x8 hf => ?_)
    refine g_iadd (by decide +kernel) ?_
    refine g_i2l (by decide +kernel) ?_
    refine x_callSBp (as := [.long ((p1).toInt64), .long (10 : Int64), .long ((((9 : Int32) + x8)).toInt64)]) St_Mod_within hf (fun q hq => t_Mod_within hs  hq) Y_Mod_within L_Mod_157 (by decide +kernel) rfl rfl (Nat.le_of_ble_eq_true rfl) (by decide) (Nat.le_refl _) (Nat.le_refl _) (fun q9 hf => ?_)
    refine x_ifb_ne (off := 6) (tgt := 39) hf (by decide +kernel) (by decide) (fun c10 hf => ?_) (fun c10 hf => ?_)
    · refine g_aload_n (i := 0) (by decide +kernel) rfl ?_
      refine x_callVV (as := []) Vi_Mod_laysWeeks Vs_Mod_laysWeeks (hs.k k_136) rfl hf (fun q hq => t_Mod_laysWeeks hs  hq) Y_Mod_laysWeeks L_Mod_402 (by decide +kernel) rfl rfl (Nat.le_of_ble_eq_true rfl) (by decide) (Nat.le_refl _) (Nat.le_refl _) (fun q11 hf hs => ?_)
      refine g_iload_n (i := 1) (by decide +kernel) rfl ?_
      refine x_if_ne (off := 10) (tgt := 54) hf (by decide +kernel) (by decide) (fun c12 hf => ?_) (fun c12 hf => ?_)
      · refine g_iload_n (i := 1) (by decide +kernel) rfl ?_
        refine g_iconst (z := 1) (v := 1) (by decide +kernel) rfl ?_
        refine x_icmp_ne (off := 10) (tgt := 66) hf (by decide +kernel) (by decide) (fun c13 hf => ?_) (fun c13 hf => ?_)
        · refine g_aload_n (i := 0) (by decide +kernel) rfl ?_
          refine x_getr (hs.k k_136) F_Mod_64 (by decide +kernel) rfl (hs.r r_136_29) ?_
          refine g_iload_n (i := 1) (by decide +kernel) rfl ?_
          refine g_bipush (z := 10) (v := 10) (by decide +kernel) rfl ?_
          refine g_isub (by decide +kernel) ?_
          refine x_iald hf (hs.k k_152) (by decide +kernel) (fun x14 hf => ?_)
          exact x_iret hf hs (by decide +kernel) rfl (Nat.le_refl _) (Nat.le_refl _)
        · refine g_aload_n (i := 0) (by decide +kernel) rfl ?_
          refine x_geti (hs.k k_136) F_Mod_396 (by decide +kernel) rfl ?_
          refine g_goto (off := 12) (tgt := 75) (by decide +kernel) (by decide) ?_
          exact x_iret hf hs (by decide +kernel) rfl (Nat.le_refl _) (Nat.le_refl _)
      · refine g_aload_n (i := 0) (by decide +kernel) rfl ?_
        refine x_geti (hs.k k_136) F_Mod_393 (by decide +kernel) rfl ?_
        refine g_goto (off := 24) (tgt := 75) (by decide +kernel) (by decide) ?_
        exact x_iret hf hs (by decide +kernel) rfl (Nat.le_refl _) (Nat.le_refl _)
    · refine g_bipush (z := (-2)) (v := (-2)) (by decide +kernel) rfl ?_
      exact x_iret hf hs (by decide +kernel) rfl (Nat.le_refl _) (Nat.le_refl _)
def f_Mod_weeks  (h : am_H) : Option (Int32 × am_H) :=
  am_let (am_sI h 136 0 (0 : Int32)) fun h1 =>
  (f_Mod_laysWeeks  h1).bind fun q2 =>
  some ((q2.2.1 136 35), q2)
set_option maxRecDepth 100000 in
set_option maxHeartbeats 4000000 in
theorem t_Mod_weeks  {h : am_H} (hs : am_Sh h)  {r : Int32 × am_H} (hf : f_Mod_weeks  h = some r) : am_Ct 68 M_Mod_weeks [.ref 136] h 0 0 (am_qI r) := by
  unfold f_Mod_weeks at hf
  refine am_Ct.of (by decide) rfl (Nat.le_of_ble_eq_true rfl) (ls := [(0, .ref 136)]) rfl ?_
  refine g_aload_n (i := 0) (by decide +kernel) rfl ?_
  refine g_iconst (z := 0) (v := 0) (by decide +kernel) rfl ?_
  refine x_puti hf hs (hs.k k_136) F_Mod_1 (by decide +kernel) rfl rfl rfl rfl (fun h1 hf hs => ?_)
  refine g_aload_n (i := 0) (by decide +kernel) rfl ?_
  refine x_callVV (as := []) Vi_Mod_laysWeeks Vs_Mod_laysWeeks (hs.k k_136) rfl hf (fun q hq => t_Mod_laysWeeks hs  hq) Y_Mod_laysWeeks L_Mod_402 (by decide +kernel) rfl rfl (Nat.le_of_ble_eq_true rfl) (by decide) (Nat.le_refl _) (Nat.le_refl _) (fun q2 hf hs => ?_)
  refine g_aload_n (i := 0) (by decide +kernel) rfl ?_
  refine x_geti (hs.k k_136) F_Mod_387 (by decide +kernel) rfl ?_
  exact x_iret hf hs (by decide +kernel) rfl (Nat.le_refl _) (Nat.le_refl _)
