def f_Top_odd (p1 : Int32) (p2 : Int32) (h : am_H) : Option (Int32 × am_H) :=
  (f_Top_isTray p1 h).bind fun q1 =>
  (if q1 = true then
    (f_River_hasPerson 1 p2 h).bind fun q3 =>
    (if q3 = true then
      (am_el 102 2 4 p1).bind fun e5 =>
      (f_Sightings_take e5 h).bind fun q6 =>
      (if q6.1 = 0 then
        (f_Sightings_firstBreak p2 11 6 q6.2).bind fun q8 =>
        some (q8, q6.2)
      else
        some (q6.1, q6.2))
    else
      some ((-2 : Int32), h))
  else
    some ((-2 : Int32), h))
set_option maxRecDepth 100000 in
set_option maxHeartbeats 4000000 in
theorem t_Top_odd {p1 : Int32} {p2 : Int32} {h : am_H} (hs : am_Sh h)  {r : Int32 × am_H} (hf : f_Top_odd p1 p2 h = some r) : am_Ct 3 M_Top_odd [.ref 0, .int p1, .int p2] h 0 0 (am_qI r) := by
  unfold f_Top_odd at hf
  refine am_Ct.of (by decide) rfl (Nat.le_of_ble_eq_true rfl) (ls := [(0, .ref 0), (1, .int p1), (2, .int p2)]) rfl ?_
  refine g_iload_n (i := 1) (by decide +kernel) rfl ?_
  refine x_callSBp (as := [.int p1]) St_Top_isTray hf (fun q hq => t_Top_isTray hs  hq) Y_Top_isTray L_Top_204 (by decide +kernel) rfl rfl (Nat.le_of_ble_eq_true rfl) (by decide) (Nat.le_refl _) (Nat.le_refl _) (fun q1 hf => ?_)
  refine x_ifb_eq (off := 14) (tgt := 18) hf (by decide +kernel) (by decide) (fun c2 hf => ?_) (fun c2 hf => ?_)
  · refine g_bipush (z := (-2)) (v := (-2)) (by decide +kernel) rfl ?_
    exact x_iret hf hs (by decide +kernel) rfl (Nat.le_refl _) (Nat.le_refl _)
  · refine g_aload_n (i := 0) (by decide +kernel) rfl ?_
    refine x_getr (hs.k k_0) F_Top_10 (by decide +kernel) rfl (hs.r r_0_0) ?_
    refine g_iload_n (i := 2) (by decide +kernel) rfl ?_
    refine x_callVBp (as := [.int p2]) Vi_River_hasPerson Vs_River_hasPerson (hs.k k_1) rfl hf (fun q hq => t_River_hasPerson hs (by decide) hq) Y_River_hasPerson L_Top_140 (by decide +kernel) rfl rfl (Nat.le_of_ble_eq_true rfl) (by decide) (Nat.le_refl _) (Nat.le_refl _) (fun q3 hf => ?_)
    refine x_ifb_ne (off := 6) (tgt := 21) hf (by decide +kernel) (by decide) (fun c4 hf => ?_) (fun c4 hf => ?_)
    · refine g_aload_n (i := 0) (by decide +kernel) rfl ?_
      refine x_getr (hs.k k_0) F_Top_79 (by decide +kernel) rfl (hs.r r_0_11) ?_
      refine g_aload_n (i := 0) (by decide +kernel) rfl ?_
      refine x_getr (hs.k k_0) F_Top_46 (by decide +kernel) rfl (hs.r r_0_6) ?_
      refine g_iload_n (i := 1) (by decide +kernel) rfl ?_
      refine x_aald (a := 102) (s := 2) (t0 := 4) hf (hs.k k_83) rfl (by decide +kernel) (fun j hj => hs.r (e_83 hj).1) (fun j5 hj5 hf => ?_)
      refine x_callVI (as := [.ref (102 + 2 * j5)]) Vi_Sightings_take Vs_Sightings_take (hs.k k_96) rfl hf (fun q hq => t_Sightings_take hs (e_83 hj5).2 hq) Y_Sightings_take L_Top_295 (by decide +kernel) rfl rfl (Nat.le_of_ble_eq_true rfl) (by decide) (Nat.le_refl _) (Nat.le_refl _) (fun q6 hf hs => ?_)
      refine g_istore_n (i := 3) (by decide +kernel) rfl (by decide) (ls1 := [(0, .ref 0), (1, .int p1), (2, .int p2), (3, .int q6.1)]) rfl ?_
      refine g_iload_n (i := 3) (by decide +kernel) rfl ?_
      refine x_if_eq (off := 7) (tgt := 43) hf (by decide +kernel) (by decide) (fun c7 hf => ?_) (fun c7 hf => ?_)
      · refine g_aload_n (i := 0) (by decide +kernel) rfl ?_
        refine x_getr (hs.k k_0) F_Top_79 (by decide +kernel) rfl (hs.r r_0_11) ?_
        refine g_iload_n (i := 2) (by decide +kernel) rfl ?_
        refine g_aload_n (i := 0) (by decide +kernel) rfl ?_
        refine x_getr (hs.k k_0) F_Top_19 (by decide +kernel) rfl (hs.r r_0_1) ?_
        refine x_getr (hs.k k_10) F_Top_129 (by decide +kernel) rfl (hs.r r_10_3) ?_
        refine x_callVIp (as := [.int p2, .ref 11]) Vi_Sightings_firstBreak Vs_Sightings_firstBreak (hs.k k_96) rfl hf (fun q hq => t_Sightings_firstBreak hs k_11 hq) Y_Sightings_firstBreak L_Top_305 (by decide +kernel) rfl rfl (Nat.le_of_ble_eq_true rfl) (by decide) (Nat.le_refl _) (Nat.le_refl _) (fun q8 hf => ?_)
        exact x_iret hf hs (by decide +kernel) rfl (Nat.le_refl _) (Nat.le_refl _)
      · refine g_iload_n (i := 3) (by decide +kernel) rfl ?_
        refine g_goto (off := 18) (tgt := 58) (by decide +kernel) (by decide) ?_
        exact x_iret hf hs (by decide +kernel) rfl (Nat.le_refl _) (Nat.le_refl _)
    · refine g_bipush (z := (-2)) (v := (-2)) (by decide +kernel) rfl ?_
      exact x_iret hf hs (by decide +kernel) rfl (Nat.le_refl _) (Nat.le_refl _)
def f_Chances_likeliest_L6 (p1 : Int32) (p2 : Int32) (p3 : Int32) : Nat → Int64 → Int32 → am_H → Option (Int64 × Int32)
  | 0, _, _, _ => none
  | n + 1, v4, v6, h =>
    (if (7 : Int32) ≤ v6 then
      some (v4, v6)
    else
      (f_River_hindrance 1 p1 p2 v6 p3 h).bind fun q2 =>
      (if q2 = 0 then
        (f_River_moved p2 v6 p3 h).bind fun q5 =>
        (am_rd (h.2.2.1 (am_rf h 99 3)) 9 q5).bind fun x6 =>
        f_Chances_likeliest_L6 p1 p2 p3 n (if x6 < v4 then v4 else x6) (v6 + (1 : Int32)) h
      else
        f_Chances_likeliest_L6 p1 p2 p3 n v4 (v6 + (1 : Int32)) h))
set_option maxRecDepth 100000 in
set_option maxHeartbeats 4000000 in
theorem t_Chances_likeliest_L6 {p1 : Int32} {p2 : Int32} {p3 : Int32}  {Q : Option Value → am_H → Prop} : ∀ (n : Nat) (v4 : Int64) (v6 : Int32) (h : am_H) (q : Int64 × Int32), am_Sh h → f_Chances_likeliest_L6 p1 p2 p3 n v4 v6 h = some q → (am_G 2 M_Chances_likeliest 0 0 Q 53 [(0, .ref 99), (1, .int p1), (2, .int p2), (3, .int p3), (4, .long q.1), (6, .int q.2)] [] h 0 0) → am_G 2 M_Chances_likeliest 0 0 Q 6 [(0, .ref 99), (1, .int p1), (2, .int p2), (3, .int p3), (4, .long v4), (6, .int v6)] [] h 0 0 := by
  intro n
  induction n with
  | zero =>
    intro v4 v6 h q hs hf kont
    rw [f_Chances_likeliest_L6] at hf
    cases hf
  | succ n ih =>
    intro v4 v6 h q hs hf kont
    rw [f_Chances_likeliest_L6] at hf
    refine g_iload (i := 6) (by decide +kernel) rfl ?_
    refine g_bipush (z := 7) (v := 7) (by decide +kernel) rfl ?_
    refine x_icmp_ge (off := 43) (tgt := 53) hf (by decide +kernel) (by decide) (fun c1 hf => ?_) (fun c1 hf => ?_)
    · cases hf
      exact am_G.forget (am_subp [0, 1, 2, 3, 4, 5] rfl) kont
    · refine g_aload_n (i := 0) (by decide +kernel) rfl ?_
      refine x_getr (hs.k k_99) F_Chances_18 (by decide +kernel) rfl (hs.r r_99_0) ?_
      refine g_iload_n (i := 1) (by decide +kernel) rfl ?_
      refine g_iload_n (i := 2) (by decide +kernel) rfl ?_
      refine g_iload (i := 6) (by decide +kernel) rfl ?_
      refine g_iload_n (i := 3) (by decide +kernel) rfl ?_
      refine x_callVIp (as := [.int p1, .int p2, .int v6, .int p3]) Vi_River_hindrance Vs_River_hindrance (hs.k k_1) rfl hf (fun q hq => t_River_hindrance hs (by decide) hq) Y_River_hindrance L_Chances_75 (by decide +kernel) rfl rfl (Nat.le_of_ble_eq_true rfl) (by decide) (Nat.le_refl _) (Nat.le_refl _) (fun q2 hf => ?_)
      refine x_if_ne (off := 22) (tgt := 47) hf (by decide +kernel) (by decide) (fun c3 hf => ?_) (fun c3 hf => ?_)
      · refine g_iinc (i := 6) (z := 1) (v := (v6 + (1 : Int32))) (by decide +kernel) rfl rfl rfl (by decide) (ls1 := [(0, .ref 99), (1, .int p1), (2, .int p2), (3, .int p3), (4, .long v4), (6, .int (v6 + (1 : Int32)))]) rfl ?_
        refine g_goto (off := (-44)) (tgt := 6) (by decide +kernel) (by decide) ?_
        exact am_G.forget (am_subp [0, 1, 2, 3, 4, 5] rfl) (ih _ _ _ _ hs hf kont)
      · refine g_lload (i := 4) (by decide +kernel) rfl ?_
        refine g_aload_n (i := 0) (by decide +kernel) rfl ?_
        have hm4 := hs.ltr.2
        refine x_getr (hs.k k_99) F_Chances_15 (by decide +kernel) rfl hs.ltr.1 ?_
        refine g_iload_n (i := 2) (by decide +kernel) rfl ?_
        refine g_iload (i := 6) (by decide +kernel) rfl ?_
        refine g_iload_n (i := 3) (by decide +kernel) rfl ?_
        refine x_callSIp (as := [.int p2, .int v6, .int p3]) St_River_moved hf (fun q hq => t_River_moved hs  hq) Y_River_moved L_Chances_79 (by decide +kernel) rfl rfl (Nat.le_of_ble_eq_true rfl) (by decide) (Nat.le_refl _) (Nat.le_refl _) (fun q5 hf => ?_)
        refine x_lald hf (hs.k (k_of99 hm4)) (by decide +kernel) (fun x6 hf => ?_)
        refine g_mmaxJ L_Chances_83 (by decide +kernel) (by decide) (Nat.le_refl _) (Nat.le_refl _) (Nat.le_of_ble_eq_true rfl) ?_
        refine g_lstore (i := 4) (by decide +kernel) rfl (by decide) (ls1 := [(0, .ref 99), (1, .int p1), (2, .int p2), (3, .int p3), (4, .long (if x6 < v4 then v4 else x6)), (6, .int v6)]) rfl ?_
        refine g_iinc (i := 6) (z := 1) (v := (v6 + (1 : Int32))) (by decide +kernel) rfl rfl rfl (by decide) (ls1 := [(0, .ref 99), (1, .int p1), (2, .int p2), (3, .int p3), (4, .long (if x6 < v4 then v4 else x6)), (6, .int (v6 + (1 : Int32)))]) rfl ?_
        refine g_goto (off := (-44)) (tgt := 6) (by decide +kernel) (by decide) ?_
        exact am_G.forget (am_subp [0, 1, 2, 3, 4, 5] rfl) (ih _ _ _ _ hs hf kont)
def f_Chances_likeliest (p1 : Int32) (p2 : Int32) (p3 : Int32) (h : am_H) : Option (Int64) :=
  (f_Chances_likeliest_L6 p1 p2 p3 am_fu (0 : Int64) (0 : Int32) h).bind fun q7 =>
  some q7.1
set_option maxRecDepth 100000 in
set_option maxHeartbeats 4000000 in
theorem t_Chances_likeliest {p1 : Int32} {p2 : Int32} {p3 : Int32} {h : am_H} (hs : am_Sh h)  {r : Int64} (hf : f_Chances_likeliest p1 p2 p3 h = some r) : am_Ct 2 M_Chances_likeliest [.ref 99, .int p1, .int p2, .int p3] h 0 0 (am_pJ h r) := by
  unfold f_Chances_likeliest at hf
  refine am_Ct.of (by decide) rfl (Nat.le_of_ble_eq_true rfl) (ls := [(0, .ref 99), (1, .int p1), (2, .int p2), (3, .int p3)]) rfl ?_
  refine g_lconst (z := 0) (v := 0) (by decide +kernel) rfl ?_
  refine g_lstore (i := 4) (by decide +kernel) rfl (by decide) (ls1 := [(0, .ref 99), (1, .int p1), (2, .int p2), (3, .int p3), (4, .long (0 : Int64))]) rfl ?_
  refine g_iconst (z := 0) (v := 0) (by decide +kernel) rfl ?_
  refine g_istore (i := 6) (by decide +kernel) rfl (by decide) (ls1 := [(0, .ref 99), (1, .int p1), (2, .int p2), (3, .int p3), (4, .long (0 : Int64)), (6, .int (0 : Int32))]) rfl ?_
  obtain ⟨q7, hqq7, hf⟩ := Option.bind_eq_some_iff.mp hf
  refine am_G.forget (am_subp [0, 1, 2, 3, 4, 5] rfl) (t_Chances_likeliest_L6  am_fu _ _ _ q7 hs hqq7 ?_)
  refine g_lload (i := 4) (by decide +kernel) rfl ?_
  exact x_lretp hf (by decide +kernel) rfl (Nat.le_refl _) (Nat.le_refl _)
def f_Chances_weighed (p1 : Int32) (p2 : Int32) (p3 : Int32) (h : am_H) : Option (Int64) :=
  (f_River_row p1 p2 (1 : Int32) h).bind fun q1 =>
  (am_rd (h.2.1 11) 6 p2).bind fun x2 =>
  (f_Chances_likeliest q1 p3 x2 h).bind fun q3 =>
  (f_River_row p1 p2 (0 : Int32) h).bind fun q4 =>
  (am_rd (h.2.1 11) 6 p2).bind fun x5 =>
  (f_Chances_likeliest q4 p3 x5 h).bind fun q6 =>
  some ((q3 * (((h.2.1 1 3)).toInt64)) + (q6 * ((((10 : Int32) - (h.2.1 1 3))).toInt64)))
set_option maxRecDepth 100000 in
set_option maxHeartbeats 4000000 in
theorem t_Chances_weighed {p1 : Int32} {p2 : Int32} {p3 : Int32} {h : am_H} (hs : am_Sh h)  {r : Int64} (hf : f_Chances_weighed p1 p2 p3 h = some r) : am_Ct 3 M_Chances_weighed [.ref 99, .int p1, .int p2, .int p3] h 0 0 (am_pJ h r) := by
  unfold f_Chances_weighed at hf
  refine am_Ct.of (by decide) rfl (Nat.le_of_ble_eq_true rfl) (ls := [(0, .ref 99), (1, .int p1), (2, .int p2), (3, .int p3)]) rfl ?_
  refine g_aload_n (i := 0) (by decide +kernel) rfl ?_
  refine g_iload_n (i := 1) (by decide +kernel) rfl ?_
  refine g_iload_n (i := 2) (by decide +kernel) rfl ?_
  refine g_iconst (z := 1) (v := 1) (by decide +kernel) rfl ?_
  refine x_callSIp (as := [.int p1, .int p2, .int (1 : Int32)]) St_River_row hf (fun q hq => t_River_row hs  hq) Y_River_row L_Chances_62 (by decide +kernel) rfl rfl (Nat.le_of_ble_eq_true rfl) (by decide) (Nat.le_refl _) (Nat.le_refl _) (fun q1 hf => ?_)
  refine g_iload_n (i := 3) (by decide +kernel) rfl ?_
  refine g_aload_n (i := 0) (by decide +kernel) rfl ?_
  refine x_getr (hs.k k_99) F_Chances_22 (by decide +kernel) rfl (hs.r r_99_1) ?_
  refine x_getr (hs.k k_10) F_Chances_66 (by decide +kernel) rfl (hs.r r_10_3) ?_
  refine g_iload_n (i := 2) (by decide +kernel) rfl ?_
  refine x_iald hf (hs.k k_11) (by decide +kernel) (fun x2 hf => ?_)
  refine x_callVJp (as := [.int q1, .int p3, .int x2]) Vi_Chances_likeliest Vs_Chances_likeliest (hs.k k_99) rfl hf (fun q hq => t_Chances_likeliest hs  hq) Y_Chances_likeliest L_Chances_69 (by decide +kernel) rfl rfl (Nat.le_of_ble_eq_true rfl) (by decide) (Nat.le_refl _) (Nat.le_refl _) (fun q3 hf => ?_)
  refine g_lstore (i := 4) (by decide +kernel) rfl (by decide) (ls1 := [(0, .ref 99), (1, .int p1), (2, .int p2), (3, .int p3), (4, .long q3)]) rfl ?_
  refine g_aload_n (i := 0) (by decide +kernel) rfl ?_
  refine g_iload_n (i := 1) (by decide +kernel) rfl ?_
  refine g_iload_n (i := 2) (by decide +kernel) rfl ?_
  refine g_iconst (z := 0) (v := 0) (by decide +kernel) rfl ?_
  refine x_callSIp (as := [.int p1, .int p2, .int (0 : Int32)]) St_River_row hf (fun q hq => t_River_row hs  hq) Y_River_row L_Chances_62 (by decide +kernel) rfl rfl (Nat.le_of_ble_eq_true rfl) (by decide) (Nat.le_refl _) (Nat.le_refl _) (fun q4 hf => ?_)
  refine g_iload_n (i := 3) (by decide +kernel) rfl ?_
  refine g_aload_n (i := 0) (by decide +kernel) rfl ?_
  refine x_getr (hs.k k_99) F_Chances_22 (by decide +kernel) rfl (hs.r r_99_1) ?_
  refine x_getr (hs.k k_10) F_Chances_66 (by decide +kernel) rfl (hs.r r_10_3) ?_
  refine g_iload_n (i := 2) (by decide +kernel) rfl ?_
  refine x_iald hf (hs.k k_11) (by decide +kernel) (fun x5 hf => ?_)
  refine x_callVJp (as := [.int q4, .int p3, .int x5]) Vi_Chances_likeliest Vs_Chances_likeliest (hs.k k_99) rfl hf (fun q hq => t_Chances_likeliest hs  hq) Y_Chances_likeliest L_Chances_69 (by decide +kernel) rfl rfl (Nat.le_of_ble_eq_true rfl) (by decide) (Nat.le_refl _) (Nat.le_refl _) (fun q6 hf => ?_)
  refine g_lstore (i := 6) (by decide +kernel) rfl (by decide) (ls1 := [(0, .ref 99), (1, .int p1), (2, .int p2), (3, .int p3), (4, .long q3), (6, .long q6)]) rfl ?_
  refine g_lload (i := 4) (by decide +kernel) rfl ?_
  refine g_aload_n (i := 0) (by decide +kernel) rfl ?_
  refine x_getr (hs.k k_99) F_Chances_18 (by decide +kernel) rfl (hs.r r_99_0) ?_
  refine x_geti (hs.k k_1) F_Chances_72 (by decide +kernel) rfl ?_
  refine g_i2l (by decide +kernel) ?_
  refine g_lmul (by decide +kernel) ?_
  refine g_lload (i := 6) (by decide +kernel) rfl ?_
  refine g_bipush (z := 10) (v := 10) (by decide +kernel) rfl ?_
  refine g_aload_n (i := 0) (by decide +kernel) rfl ?_
  refine x_getr (hs.k k_99) F_Chances_18 (by decide +kernel) rfl (hs.r r_99_0) ?_
  refine x_geti (hs.k k_1) F_Chances_72 (by decide +kernel) rfl ?_
  refine g_isub (by decide +kernel) ?_
  refine g_i2l (by decide +kernel) ?_
  refine g_lmul (by decide +kernel) ?_
  refine g_ladd (by decide +kernel) ?_
  exact x_lretp hf (by decide +kernel) rfl (Nat.le_refl _) (Nat.le_refl _)
def f_Chances_power_L4 (p0 : Int32) : Nat → Int64 → Int32 → am_H → Option (Int64 × Int32)
  | 0, _, _, _ => none
  | n + 1, v1, v3, h =>
    (if p0 ≤ v3 then
      some (v1, v3)
    else
      f_Chances_power_L4 p0 n (v1 * (10 : Int64)) (v3 + (1 : Int32)) h)
set_option maxRecDepth 100000 in
set_option maxHeartbeats 4000000 in
theorem t_Chances_power_L4 {p0 : Int32}  {Q : Option Value → am_H → Prop} : ∀ (n : Nat) (v1 : Int64) (v3 : Int32) (h : am_H) (q : Int64 × Int32), am_Sh h → f_Chances_power_L4 p0 n v1 v3 h = some q → (am_G 0 M_Chances_power 0 0 Q 21 [(0, .int p0), (1, .long q.1), (3, .int q.2)] [] h 0 0) → am_G 0 M_Chances_power 0 0 Q 4 [(0, .int p0), (1, .long v1), (3, .int v3)] [] h 0 0 := by
  intro n
  induction n with
  | zero =>
    intro v1 v3 h q hs hf kont
    rw [f_Chances_power_L4] at hf
    cases hf
  | succ n ih =>
    intro v1 v3 h q hs hf kont
    rw [f_Chances_power_L4] at hf
    refine g_iload_n (i := 3) (by decide +kernel) rfl ?_
    refine g_iload_n (i := 0) (by decide +kernel) rfl ?_
    refine x_icmp_ge (off := 15) (tgt := 21) hf (by decide +kernel) (by decide) (fun c1 hf => ?_) (fun c1 hf => ?_)
    · cases hf
      exact am_G.forget (am_subp [0, 1, 2] rfl) kont
    · refine g_lload_n (i := 1) (by decide +kernel) rfl ?_
      refine g_ldc2 (by decide +kernel) C_Chances_26 ?_
      refine g_lmul (by decide +kernel) ?_
      refine g_lstore_n (i := 1) (by decide +kernel) rfl (by decide) (ls1 := [(0, .int p0), (1, .long (v1 * (10 : Int64))), (3, .int v3)]) rfl ?_
      refine g_iinc (i := 3) (z := 1) (v := (v3 + (1 : Int32))) (by decide +kernel) rfl rfl rfl (by decide) (ls1 := [(0, .int p0), (1, .long (v1 * (10 : Int64))), (3, .int (v3 + (1 : Int32)))]) rfl ?_
      refine g_goto (off := (-14)) (tgt := 4) (by decide +kernel) (by decide) ?_
      exact am_G.forget (am_subp [0, 1, 2] rfl) (ih _ _ _ _ hs hf kont)
def f_Chances_power (p0 : Int32) (h : am_H) : Option (Int64) :=
  (f_Chances_power_L4 p0 am_fu (1 : Int64) (0 : Int32) h).bind fun q2 =>
  some q2.1
set_option maxRecDepth 100000 in
set_option maxHeartbeats 4000000 in
theorem t_Chances_power {p0 : Int32} {h : am_H} (hs : am_Sh h)  {r : Int64} (hf : f_Chances_power p0 h = some r) : am_Ct 0 M_Chances_power [.int p0] h 0 0 (am_pJ h r) := by
  unfold f_Chances_power at hf
  refine am_Ct.of (by decide) rfl (Nat.le_of_ble_eq_true rfl) (ls := [(0, .int p0)]) rfl ?_
  refine g_lconst (z := 1) (v := 1) (by decide +kernel) rfl ?_
  refine g_lstore_n (i := 1) (by decide +kernel) rfl (by decide) (ls1 := [(0, .int p0), (1, .long (1 : Int64))]) rfl ?_
  refine g_iconst (z := 0) (v := 0) (by decide +kernel) rfl ?_
  refine g_istore_n (i := 3) (by decide +kernel) rfl (by decide) (ls1 := [(0, .int p0), (1, .long (1 : Int64)), (3, .int (0 : Int32))]) rfl ?_
  obtain ⟨q2, hqq2, hf⟩ := Option.bind_eq_some_iff.mp hf
  refine am_G.forget (am_subp [0, 1, 2] rfl) (t_Chances_power_L4  am_fu _ _ _ q2 hs hqq2 ?_)
  refine g_lload_n (i := 1) (by decide +kernel) rfl ?_
  exact x_lretp hf (by decide +kernel) rfl (Nat.le_refl _) (Nat.le_refl _)
def f_Chances_outOfPower_L67 (p1 : Int32) (p2 : Int32) (p3 : Int32) : Nat → Int32 → Int32 → Int32 → am_H → Option (Int32 × am_H)
  | 0, _, _, _, _ => none
  | n + 1, v4, v6, v7, h =>
    (if (9 : Int32) ≤ v7 then
      some (v7, h)
    else
      (f_River_hasSpot 1 v7 h).bind fun q13 =>
      ((if q13 = true then
          (f_Chances_weighed p1 v6 v7 h).bind fun q15 =>
          some q15
        else
          some (0 : Int64)) : Option (Int64)).bind fun m16 =>
      (am_wrJ h (am_rf h 99 2) 9 v7 m16).bind fun h17 =>
      f_Chances_outOfPower_L67 p1 p2 p3 n v4 v6 (v7 + (1 : Int32)) h17)
set_option maxRecDepth 100000 in
set_option maxHeartbeats 4000000 in
theorem t_Chances_outOfPower_L67 {p1 : Int32} {p2 : Int32} {p3 : Int32}  {Q : Option Value → am_H → Prop} : ∀ (n : Nat) (v4 : Int32) (v6 : Int32) (v7 : Int32) (h : am_H) (q : Int32 × am_H), am_Sh h → f_Chances_outOfPower_L67 p1 p2 p3 n v4 v6 v7 h = some q → (am_Sh q.2 → am_G 4 M_Chances_outOfPower 0 0 Q 112 [(0, .ref 99), (1, .int p1), (2, .int p2), (3, .int p3), (4, .int v4), (6, .int v6), (7, .int q.1)] [] q.2 0 0) → am_G 4 M_Chances_outOfPower 0 0 Q 67 [(0, .ref 99), (1, .int p1), (2, .int p2), (3, .int p3), (4, .int v4), (6, .int v6), (7, .int v7)] [] h 0 0 := by
  intro n
  induction n with
  | zero =>
    intro v4 v6 v7 h q hs hf kont
    rw [f_Chances_outOfPower_L67] at hf
    cases hf
  | succ n ih =>
    intro v4 v6 v7 h q hs hf kont
    rw [f_Chances_outOfPower_L67] at hf
    refine g_iload (i := 7) (by decide +kernel) rfl ?_
    refine g_bipush (z := 9) (v := 9) (by decide +kernel) rfl ?_
    refine x_icmp_ge (off := 41) (tgt := 112) hf (by decide +kernel) (by decide) (fun c11 hf => ?_) (fun c11 hf => ?_)
    · cases hf
      exact am_G.forget (am_subp [0, 1, 2, 3, 4, 5, 6] rfl) (kont hs)
    · refine g_aload_n (i := 0) (by decide +kernel) rfl ?_
      have hm12 := hs.now.2
      refine x_getr (hs.k k_99) F_Chances_9 (by decide +kernel) rfl hs.now.1 ?_
      refine g_iload (i := 7) (by decide +kernel) rfl ?_
      refine g_aload_n (i := 0) (by decide +kernel) rfl ?_
      refine x_getr (hs.k k_99) F_Chances_18 (by decide +kernel) rfl (hs.r r_99_0) ?_
      refine g_iload (i := 7) (by decide +kernel) rfl ?_
      refine x_callVBp (as := [.int v7]) Vi_River_hasSpot Vs_River_hasSpot (hs.k k_1) rfl hf (fun q hq => t_River_hasSpot hs (by decide) hq) Y_River_hasSpot L_Chances_46 (by decide +kernel) rfl rfl (Nat.le_of_ble_eq_true rfl) (by decide) (Nat.le_refl _) (Nat.le_refl _) (fun q13 hf => ?_)
      obtain ⟨m16, hm105, hf⟩ := Option.bind_eq_some_iff.mp hf
      refine am_cut (J := 105) (ls' := [(0, .ref 99), (1, .int p1), (2, .int p2), (3, .int p3), (4, .int v4), (6, .int v6), (7, .int v7)]) (st' := [.long m16, .int v7, .ref (am_rf h 99 2)]) ?_ (fun K105 => ?_)
      · refine x_last hf hs (hs.k (k_of99 hm12)) (by decide +kernel) (fun h17 hf hs => ?_)
        refine g_iinc (i := 7) (z := 1) (v := (v7 + (1 : Int32))) (by decide +kernel) rfl rfl rfl (by decide) (ls1 := [(0, .ref 99), (1, .int p1), (2, .int p2), (3, .int p3), (4, .int v4), (6, .int v6), (7, .int (v7 + (1 : Int32)))]) rfl ?_
        refine g_goto (off := (-42)) (tgt := 67) (by decide +kernel) (by decide) ?_
        exact am_G.forget (am_subp [0, 1, 2, 3, 4, 5, 6] rfl) (ih _ _ _ _ _ hs hf kont)
      refine x_ifb_eq (off := 15) (tgt := 104) hm105 (by decide +kernel) (by decide) (fun c14 hm105 => ?_) (fun c14 hm105 => ?_)
      · refine g_lconst (z := 0) (v := 0) (by decide +kernel) rfl ?_
        cases hm105
        exact am_G.forget (am_subp [0, 1, 2, 3, 4, 5, 6] rfl) K105
      · refine g_aload_n (i := 0) (by decide +kernel) rfl ?_
        refine g_iload_n (i := 1) (by decide +kernel) rfl ?_
        refine g_iload (i := 6) (by decide +kernel) rfl ?_
        refine g_iload (i := 7) (by decide +kernel) rfl ?_
        refine x_callVJp (as := [.int p1, .int v6, .int v7]) Vi_Chances_weighed Vs_Chances_weighed (hs.k k_99) rfl hm105 (fun q hq => t_Chances_weighed hs  hq) Y_Chances_weighed L_Chances_50 (by decide +kernel) rfl rfl (Nat.le_of_ble_eq_true rfl) (by decide) (Nat.le_refl _) (Nat.le_refl _) (fun q15 hm105 => ?_)
        refine g_goto (off := 4) (tgt := 105) (by decide +kernel) (by decide) ?_
        cases hm105
        exact am_G.forget (am_subp [0, 1, 2, 3, 4, 5, 6] rfl) K105
def f_Chances_outOfPower_L20 (p1 : Int32) (p2 : Int32) (p3 : Int32) : Nat → Int32 → am_H → Option (Int32 × am_H)
  | 0, _, _ => none
  | n + 1, v4, h =>
    (if v4 < 0 then
      some (v4, h)
    else
      am_let (am_sR h 99 3 (some (am_rf h 99 2))) fun h8 =>
      am_let (am_sR h8 99 2 (some (am_rf h 99 3))) fun h9 =>
      (f_River_hourOfWeek 1 ((h9.2.1 10 0) + v4) h9).bind fun q10 =>
      (f_Chances_outOfPower_L67 p1 p2 p3 am_fu v4 q10 (0 : Int32) h9).bind fun q18 =>
      (f_Chances_power (p3 - v4) q18.2).bind fun q20 =>
      (am_wrJ q18.2 (am_rf q18.2 99 2) 9 p2 q20).bind fun h21 =>
      f_Chances_outOfPower_L20 p1 p2 p3 n (v4 + (-1 : Int32)) h21)
set_option maxRecDepth 100000 in
set_option maxHeartbeats 4000000 in
theorem t_Chances_outOfPower_L20 {p1 : Int32} {p2 : Int32} {p3 : Int32}  {Q : Option Value → am_H → Prop} : ∀ (n : Nat) (v4 : Int32) (h : am_H) (q : Int32 × am_H), am_Sh h → f_Chances_outOfPower_L20 p1 p2 p3 n v4 h = some q → (am_Sh q.2 → am_G 4 M_Chances_outOfPower 0 0 Q 131 [(0, .ref 99), (1, .int p1), (2, .int p2), (3, .int p3), (4, .int q.1)] [] q.2 0 0) → am_G 4 M_Chances_outOfPower 0 0 Q 20 [(0, .ref 99), (1, .int p1), (2, .int p2), (3, .int p3), (4, .int v4)] [] h 0 0 := by
  intro n
  induction n with
  | zero =>
    intro v4 h q hs hf kont
    rw [f_Chances_outOfPower_L20] at hf
    cases hf
  | succ n ih =>
    intro v4 h q hs hf kont
    rw [f_Chances_outOfPower_L20] at hf
    refine g_iload (i := 4) (by decide +kernel) rfl ?_
    refine x_if_lt (off := 109) (tgt := 131) hf (by decide +kernel) (by decide) (fun c5 hf => ?_) (fun c5 hf => ?_)
    · cases hf
      exact am_G.forget (am_subp [0, 1, 2, 3, 4] rfl) (kont hs)
    · refine g_aload_n (i := 0) (by decide +kernel) rfl ?_
      have hm6 := hs.ltr.2
      refine x_getr (hs.k k_99) F_Chances_15 (by decide +kernel) rfl hs.ltr.1 ?_
      refine g_astore (i := 5) (by decide +kernel) rfl (by decide) (ls1 := [(0, .ref 99), (1, .int p1), (2, .int p2), (3, .int p3), (4, .int v4), (5, .ref (am_rf h 99 3))]) rfl ?_
      refine g_aload_n (i := 0) (by decide +kernel) rfl ?_
      refine g_aload_n (i := 0) (by decide +kernel) rfl ?_
      have hm7 := hs.now.2
      refine x_getr (hs.k k_99) F_Chances_9 (by decide +kernel) rfl hs.now.1 ?_
      refine x_putr hf (hs.p_ltr hm7) (hs.k k_99) F_Chances_15 (by decide +kernel) rfl rfl (fun h8 hf hs => ?_)
      refine g_aload_n (i := 0) (by decide +kernel) rfl ?_
      refine g_aload (i := 5) (by decide +kernel) rfl ?_
      refine x_putr hf (hs.p_now hm6) (hs.k k_99) F_Chances_9 (by decide +kernel) rfl rfl (fun h9 hf hs => ?_)
      refine g_aload_n (i := 0) (by decide +kernel) rfl ?_
      refine x_getr (hs.k k_99) F_Chances_18 (by decide +kernel) rfl (hs.r r_99_0) ?_
      refine g_aload_n (i := 0) (by decide +kernel) rfl ?_
      refine x_getr (hs.k k_99) F_Chances_22 (by decide +kernel) rfl (hs.r r_99_1) ?_
      refine x_geti (hs.k k_10) F_Chances_34 (by decide +kernel) rfl ?_
      refine g_iload (i := 4) (by decide +kernel) rfl ?_
      refine g_iadd (by decide +kernel) ?_
      refine x_callVIp (as := [.int ((h9.2.1 10 0) + v4)]) Vi_River_hourOfWeek Vs_River_hourOfWeek (hs.k k_1) rfl hf (fun q hq => t_River_hourOfWeek hs (by decide) hq) Y_River_hourOfWeek L_Chances_40 (by decide +kernel) rfl rfl (Nat.le_of_ble_eq_true rfl) (by decide) (Nat.le_refl _) (Nat.le_refl _) (fun q10 hf => ?_)
      refine g_istore (i := 6) (by decide +kernel) rfl (by decide) (ls1 := [(0, .ref 99), (1, .int p1), (2, .int p2), (3, .int p3), (4, .int v4), (5, .ref (am_rf h 99 3)), (6, .int q10)]) rfl ?_
      refine g_iconst (z := 0) (v := 0) (by decide +kernel) rfl ?_
      refine g_istore (i := 7) (by decide +kernel) rfl (by decide) (ls1 := [(0, .ref 99), (1, .int p1), (2, .int p2), (3, .int p3), (4, .int v4), (5, .ref (am_rf h 99 3)), (6, .int q10), (7, .int (0 : Int32))]) rfl ?_
      obtain ⟨q18, hqq18, hf⟩ := Option.bind_eq_some_iff.mp hf
      refine am_G.forget (am_subp [0, 1, 2, 3, 4, 6, 7] rfl) (t_Chances_outOfPower_L67  am_fu _ _ _ _ q18 hs hqq18 (fun hs => ?_))
      refine g_aload_n (i := 0) (by decide +kernel) rfl ?_
      have hm19 := hs.now.2
      refine x_getr (hs.k k_99) F_Chances_9 (by decide +kernel) rfl hs.now.1 ?_
      refine g_iload_n (i := 2) (by decide +kernel) rfl ?_
      refine g_iload_n (i := 3) (by decide +kernel) rfl ?_
      refine g_iload (i := 4) (by decide +kernel) rfl ?_
      refine g_isub (by decide +kernel) ?_
      refine x_callSJp (as := [.int (p3 - v4)]) St_Chances_power hf (fun q hq => t_Chances_power hs  hq) Y_Chances_power L_Chances_54 (by decide +kernel) rfl rfl (Nat.le_of_ble_eq_true rfl) (by decide) (Nat.le_refl _) (Nat.le_refl _) (fun q20 hf => ?_)
      refine x_last hf hs (hs.k (k_of99 hm19)) (by decide +kernel) (fun h21 hf hs => ?_)
      refine g_iinc (i := 4) (z := (-1)) (v := (v4 + (-1 : Int32))) (by decide +kernel) rfl rfl rfl (by decide) (ls1 := [(0, .ref 99), (1, .int p1), (2, .int p2), (3, .int p3), (4, .int (v4 + (-1 : Int32))), (6, .int q10), (7, .int q18.1)]) rfl ?_
      refine g_goto (off := (-108)) (tgt := 20) (by decide +kernel) (by decide) ?_
      exact am_G.forget (am_subp [0, 1, 2, 3, 4] rfl) (ih _ _ _ hs hf kont)
def f_Chances_outOfPower (p1 : Int32) (p2 : Int32) (p3 : Int32) (h : am_H) : Option (Int64 × am_H) :=
  (f_Arrays_fill_JJV (am_rf h 99 2) 9 (0 : Int64) h).bind fun q2 =>
  (am_wrJ q2 (am_rf q2 99 2) 9 p2 (1 : Int64)).bind fun h4 =>
  (f_Chances_outOfPower_L20 p1 p2 p3 am_fu (p3 - (1 : Int32)) h4).bind fun q22 =>
  (am_rd (q22.2.2.1 12) 5 p1).bind fun x24 =>
  (am_rd (q22.2.2.2.1 (am_rf q22.2 99 2)) 9 x24).bind fun x25 =>
  some (x25, q22.2)
set_option maxRecDepth 100000 in
set_option maxHeartbeats 4000000 in
theorem t_Chances_outOfPower {p1 : Int32} {p2 : Int32} {p3 : Int32} {h : am_H} (hs : am_Sh h)  {r : Int64 × am_H} (hf : f_Chances_outOfPower p1 p2 p3 h = some r) : am_Ct 4 M_Chances_outOfPower [.ref 99, .int p1, .int p2, .int p3] h 0 0 (am_qJ r) := by
  unfold f_Chances_outOfPower at hf
  refine am_Ct.of (by decide) rfl (Nat.le_of_ble_eq_true rfl) (ls := [(0, .ref 99), (1, .int p1), (2, .int p2), (3, .int p3)]) rfl ?_
  refine g_aload_n (i := 0) (by decide +kernel) rfl ?_
  have hm1 := hs.now.2
  refine x_getr (hs.k k_99) F_Chances_9 (by decide +kernel) rfl hs.now.1 ?_
  refine g_lconst (z := 0) (v := 0) (by decide +kernel) rfl ?_
  refine x_callSV (as := [.ref (am_rf h 99 2), .long (0 : Int64)]) St_Arrays_fill_JJV hf (fun q hq => t_Arrays_fill_JJV hs (k_of99 hm1) hq) Y_Arrays_fill_JJV L_Chances_28 (by decide +kernel) rfl rfl (Nat.le_of_ble_eq_true rfl) (by decide) (Nat.le_refl _) (Nat.le_refl _) (fun q2 hf hs => ?_)
  refine g_aload_n (i := 0) (by decide +kernel) rfl ?_
  have hm3 := hs.now.2
  refine x_getr (hs.k k_99) F_Chances_9 (by decide +kernel) rfl hs.now.1 ?_
  refine g_iload_n (i := 2) (by decide +kernel) rfl ?_
  refine g_lconst (z := 1) (v := 1) (by decide +kernel) rfl ?_
  refine x_last hf hs (hs.k (k_of99 hm3)) (by decide +kernel) (fun h4 hf hs => ?_)
  refine g_iload_n (i := 3) (by decide +kernel) rfl ?_
  refine g_iconst (z := 1) (v := 1) (by decide +kernel) rfl ?_
  refine g_isub (by decide +kernel) ?_
  refine g_istore (i := 4) (by decide +kernel) rfl (by decide) (ls1 := [(0, .ref 99), (1, .int p1), (2, .int p2), (3, .int p3), (4, .int (p3 - (1 : Int32)))]) rfl ?_
  obtain ⟨q22, hqq22, hf⟩ := Option.bind_eq_some_iff.mp hf
  refine am_G.forget (am_subp [0, 1, 2, 3, 4] rfl) (t_Chances_outOfPower_L20  am_fu _ _ q22 hs hqq22 (fun hs => ?_))
  refine g_aload_n (i := 0) (by decide +kernel) rfl ?_
  have hm23 := hs.now.2
  refine x_getr (hs.k k_99) F_Chances_9 (by decide +kernel) rfl hs.now.1 ?_
  refine g_aload_n (i := 0) (by decide +kernel) rfl ?_
  refine x_getr (hs.k k_99) F_Chances_22 (by decide +kernel) rfl (hs.r r_99_1) ?_
  refine x_getr (hs.k k_10) F_Chances_58 (by decide +kernel) rfl (hs.r r_10_4) ?_
  refine g_iload_n (i := 1) (by decide +kernel) rfl ?_
  refine x_iald hf (hs.k k_12) (by decide +kernel) (fun x24 hf => ?_)
  refine x_lald hf (hs.k (k_of99 hm23)) (by decide +kernel) (fun x25 hf => ?_)
  exact x_lret hf hs (by decide +kernel) rfl (Nat.le_refl _) (Nat.le_refl _)
def f_Chances_sharedDivisor_L3 (p0 : Int64) (p2 : Int64) : Nat → Int64 → Int64 → Int32 → am_H → Option (Int64 × Int64 × Int32)
  | 0, _, _, _, _ => none
  | n + 1, v0, v2, v4, h =>
    (if (100 : Int32) ≤ v4 then
      some (v0, v2, v4)
    else
      (if (lg_cmp v2 (0 : Int64)) = 0 then
        some (v0, v2, v4)
      else
        (am_mdJ v0 v2).bind fun x3 =>
        f_Chances_sharedDivisor_L3 p0 p2 n v2 x3 (v4 + (1 : Int32)) h))
set_option maxRecDepth 100000 in
set_option maxHeartbeats 4000000 in
theorem t_Chances_sharedDivisor_L3 {p0 : Int64} {p2 : Int64}  {Q : Option Value → am_H → Prop} : ∀ (n : Nat) (v0 : Int64) (v2 : Int64) (v4 : Int32) (h : am_H) (q : Int64 × Int64 × Int32), am_Sh h → f_Chances_sharedDivisor_L3 p0 p2 n v0 v2 v4 h = some q → (am_G 0 M_Chances_sharedDivisor 0 0 Q 32 [(0, .long q.1), (2, .long q.2.1), (4, .int q.2.2)] [] h 0 0) → am_G 0 M_Chances_sharedDivisor 0 0 Q 3 [(0, .long v0), (2, .long v2), (4, .int v4)] [] h 0 0 := by
  intro n
  induction n with
  | zero =>
    intro v0 v2 v4 h q hs hf kont
    rw [f_Chances_sharedDivisor_L3] at hf
    cases hf
  | succ n ih =>
    intro v0 v2 v4 h q hs hf kont
    rw [f_Chances_sharedDivisor_L3] at hf
    refine g_iload (i := 4) (by decide +kernel) rfl ?_
    refine g_bipush (z := 100) (v := 100) (by decide +kernel) rfl ?_
    refine x_icmp_ge (off := 25) (tgt := 32) hf (by decide +kernel) (by decide) (fun c1 hf => ?_) (fun c1 hf => ?_)
    · cases hf
      exact am_G.forget (am_subp [0, 1, 2] rfl) kont
    · refine g_lload_n (i := 2) (by decide +kernel) rfl ?_
      refine g_lconst (z := 0) (v := 0) (by decide +kernel) rfl ?_
      refine g_lcmp (by decide +kernel) ?_
      refine x_if_eq (off := 19) (tgt := 32) hf (by decide +kernel) (by decide) (fun c2 hf => ?_) (fun c2 hf => ?_)
      · cases hf
        exact am_G.forget (am_subp [0, 1, 2] rfl) kont
      · refine g_lload_n (i := 0) (by decide +kernel) rfl ?_
        refine g_lload_n (i := 2) (by decide +kernel) rfl ?_
        refine x_lrem hf (by decide +kernel) (fun x3 hf => ?_)
        refine g_lstore (i := 5) (by decide +kernel) rfl (by decide) (ls1 := [(0, .long v0), (2, .long v2), (4, .int v4), (5, .long x3)]) rfl ?_
        refine g_lload_n (i := 2) (by decide +kernel) rfl ?_
        refine g_lstore_n (i := 0) (by decide +kernel) rfl (by decide) (ls1 := [(0, .long v2), (2, .long v2), (4, .int v4), (5, .long x3)]) rfl ?_
        refine g_lload (i := 5) (by decide +kernel) rfl ?_
        refine g_lstore_n (i := 2) (by decide +kernel) rfl (by decide) (ls1 := [(0, .long v2), (2, .long x3), (4, .int v4), (5, .long x3)]) rfl ?_
        refine g_iinc (i := 4) (z := 1) (v := (v4 + (1 : Int32))) (by decide +kernel) rfl rfl rfl (by decide) (ls1 := [(0, .long v2), (2, .long x3), (4, .int (v4 + (1 : Int32))), (5, .long x3)]) rfl ?_
        refine g_goto (off := (-26)) (tgt := 3) (by decide +kernel) (by decide) ?_
        exact am_G.forget (am_subp [0, 1, 2] rfl) (ih _ _ _ _ _ hs hf kont)
def f_Chances_sharedDivisor (p0 : Int64) (p2 : Int64) (h : am_H) : Option (Int64) :=
  (f_Chances_sharedDivisor_L3 p0 p2 am_fu p0 p2 (0 : Int32) h).bind fun q4 =>
  some q4.1
set_option maxRecDepth 100000 in
set_option maxHeartbeats 4000000 in
theorem t_Chances_sharedDivisor {p0 : Int64} {p2 : Int64} {h : am_H} (hs : am_Sh h)  {r : Int64} (hf : f_Chances_sharedDivisor p0 p2 h = some r) : am_Ct 0 M_Chances_sharedDivisor [.long p0, .long p2] h 0 0 (am_pJ h r) := by
  unfold f_Chances_sharedDivisor at hf
  refine am_Ct.of (by decide) rfl (Nat.le_of_ble_eq_true rfl) (ls := [(0, .long p0), (2, .long p2)]) rfl ?_
  refine g_iconst (z := 0) (v := 0) (by decide +kernel) rfl ?_
  refine g_istore (i := 4) (by decide +kernel) rfl (by decide) (ls1 := [(0, .long p0), (2, .long p2), (4, .int (0 : Int32))]) rfl ?_
  obtain ⟨q4, hqq4, hf⟩ := Option.bind_eq_some_iff.mp hf
  refine am_G.forget (am_subp [0, 1, 2] rfl) (t_Chances_sharedDivisor_L3  am_fu _ _ _ _ q4 hs hqq4 ?_)
  refine g_lload_n (i := 0) (by decide +kernel) rfl ?_
  exact x_lretp hf (by decide +kernel) rfl (Nat.le_refl _) (Nat.le_refl _)
def f_Top_chance (p1 : Int32) (p2 : Int32) (p3 : Int32) (p4 : Int32) (h : am_H) : Option (Int64 × am_H) :=
  (f_River_hasPerson 1 p1 h).bind fun q1 =>
  (if q1 = true then
    (f_River_hasSpot 1 p2 h).bind fun q3 =>
    (if q3 = true then
      (if p4 < 0 then
        some ((-2 : Int64), h)
      else
        (if p4 ≤ (1 : Int32) then
          (if p3 < 0 then
            some ((-3 : Int64), h)
          else
            (if p3 ≤ (9 : Int32) then
              (f_Chances_outOfPower p1 p2 p3 h).bind fun q9 =>
              (f_Chances_power p3 q9.2).bind fun q10 =>
              (f_Chances_sharedDivisor q10 q9.1 q9.2).bind fun q11 =>
              (if 0 ≤ (lg_cmp q11 (1 : Int64)) then
                (if p4 = 0 then
                  (am_dvJ q9.1 q11).bind fun x15 =>
                  some (x15, q9.2)
                else
                  (am_dvJ q10 q11).bind fun x14 =>
                  some (x14, q9.2))
              else
                some ((-1 : Int64), q9.2))
            else
              some ((-3 : Int64), h)))
        else
          some ((-2 : Int64), h)))
    else
      some ((-2 : Int64), h))
  else
    some ((-2 : Int64), h))
set_option maxRecDepth 100000 in
set_option maxHeartbeats 4000000 in
theorem t_Top_chance {p1 : Int32} {p2 : Int32} {p3 : Int32} {p4 : Int32} {h : am_H} (hs : am_Sh h)  {r : Int64 × am_H} (hf : f_Top_chance p1 p2 p3 p4 h = some r) : am_Ct 5 M_Top_chance [.ref 0, .int p1, .int p2, .int p3, .int p4] h 0 0 (am_qJ r) := by
  unfold f_Top_chance at hf
  refine am_Ct.of (by decide) rfl (Nat.le_of_ble_eq_true rfl) (ls := [(0, .ref 0), (1, .int p1), (2, .int p2), (3, .int p3), (4, .int p4)]) rfl ?_
  refine g_aload_n (i := 0) (by decide +kernel) rfl ?_
  refine x_getr (hs.k k_0) F_Top_10 (by decide +kernel) rfl (hs.r r_0_0) ?_
  refine g_iload_n (i := 1) (by decide +kernel) rfl ?_
  refine x_callVBp (as := [.int p1]) Vi_River_hasPerson Vs_River_hasPerson (hs.k k_1) rfl hf (fun q hq => t_River_hasPerson hs (by decide) hq) Y_River_hasPerson L_Top_140 (by decide +kernel) rfl rfl (Nat.le_of_ble_eq_true rfl) (by decide) (Nat.le_refl _) (Nat.le_refl _) (fun q1 hf => ?_)
  refine x_ifb_eq (off := 25) (tgt := 33) hf (by decide +kernel) (by decide) (fun c2 hf => ?_) (fun c2 hf => ?_)
  · refine g_ldc2 (by decide +kernel) C_Top_243 ?_
    exact x_lret hf hs (by decide +kernel) rfl (Nat.le_refl _) (Nat.le_refl _)
  · refine g_aload_n (i := 0) (by decide +kernel) rfl ?_
    refine x_getr (hs.k k_0) F_Top_10 (by decide +kernel) rfl (hs.r r_0_0) ?_
    refine g_iload_n (i := 2) (by decide +kernel) rfl ?_
    refine x_callVBp (as := [.int p2]) Vi_River_hasSpot Vs_River_hasSpot (hs.k k_1) rfl hf (fun q hq => t_River_hasSpot hs (by decide) hq) Y_River_hasSpot L_Top_230 (by decide +kernel) rfl rfl (Nat.le_of_ble_eq_true rfl) (by decide) (Nat.le_refl _) (Nat.le_refl _) (fun q3 hf => ?_)
    refine x_ifb_eq (off := 14) (tgt := 33) hf (by decide +kernel) (by decide) (fun c4 hf => ?_) (fun c4 hf => ?_)
    · refine g_ldc2 (by decide +kernel) C_Top_243 ?_
      exact x_lret hf hs (by decide +kernel) rfl (Nat.le_refl _) (Nat.le_refl _)
    · refine g_iload (i := 4) (by decide +kernel) rfl ?_
      refine x_if_lt (off := 9) (tgt := 33) hf (by decide +kernel) (by decide) (fun c5 hf => ?_) (fun c5 hf => ?_)
      · refine g_ldc2 (by decide +kernel) C_Top_243 ?_
        exact x_lret hf hs (by decide +kernel) rfl (Nat.le_refl _) (Nat.le_refl _)
      · refine g_iload (i := 4) (by decide +kernel) rfl ?_
        refine g_iconst (z := 1) (v := 1) (by decide +kernel) rfl ?_
        refine x_icmp_le (off := 7) (tgt := 37) hf (by decide +kernel) (by decide) (fun c6 hf => ?_) (fun c6 hf => ?_)
        · refine g_iload_n (i := 3) (by decide +kernel) rfl ?_
          refine x_if_lt (off := 9) (tgt := 47) hf (by decide +kernel) (by decide) (fun c7 hf => ?_) (fun c7 hf => ?_)
          · refine g_ldc2 (by decide +kernel) C_Top_245 ?_
            exact x_lret hf hs (by decide +kernel) rfl (Nat.le_refl _) (Nat.le_refl _)
          · refine g_iload_n (i := 3) (by decide +kernel) rfl ?_
            refine g_bipush (z := 9) (v := 9) (by decide +kernel) rfl ?_
            refine x_icmp_le (off := 7) (tgt := 51) hf (by decide +kernel) (by decide) (fun c8 hf => ?_) (fun c8 hf => ?_)
            · refine g_aload_n (i := 0) (by decide +kernel) rfl ?_
              refine x_getr (hs.k k_0) F_Top_86 (by decide +kernel) rfl (hs.r r_0_12) ?_
              refine g_iload_n (i := 1) (by decide +kernel) rfl ?_
              refine g_iload_n (i := 2) (by decide +kernel) rfl ?_
              refine g_iload_n (i := 3) (by decide +kernel) rfl ?_
              refine x_callVJ (as := [.int p1, .int p2, .int p3]) Vi_Chances_outOfPower Vs_Chances_outOfPower (hs.k k_99) rfl hf (fun q hq => t_Chances_outOfPower hs  hq) Y_Chances_outOfPower L_Top_309 (by decide +kernel) rfl rfl (Nat.le_of_ble_eq_true rfl) (by decide) (Nat.le_refl _) (Nat.le_refl _) (fun q9 hf hs => ?_)
              refine g_lstore (i := 5) (by decide +kernel) rfl (by decide) (ls1 := [(0, .ref 0), (1, .int p1), (2, .int p2), (3, .int p3), (4, .int p4), (5, .long q9.1)]) rfl ?_
              refine g_iload_n (i := 3) (by decide +kernel) rfl ?_
              refine x_callSJp (as := [.int p3]) St_Chances_power hf (fun q hq => t_Chances_power hs  hq) Y_Chances_power L_Top_312 (by decide +kernel) rfl rfl (Nat.le_of_ble_eq_true rfl) (by decide) (Nat.le_refl _) (Nat.le_refl _) (fun q10 hf => ?_)
              refine g_lstore (i := 7) (by decide +kernel) rfl (by decide) (ls1 := [(0, .ref 0), (1, .int p1), (2, .int p2), (3, .int p3), (4, .int p4), (5, .long q9.1), (7, .long q10)]) rfl ?_
              refine g_lload (i := 7) (by decide +kernel) rfl ?_
              refine g_lload (i := 5) (by decide +kernel) rfl ?_
              refine x_callSJp (as := [.long q10, .long q9.1]) St_Chances_sharedDivisor hf (fun q hq => t_Chances_sharedDivisor hs  hq) Y_Chances_sharedDivisor L_Top_315 (by decide +kernel) rfl rfl (Nat.le_of_ble_eq_true rfl) (by decide) (Nat.le_refl _) (Nat.le_refl _) (fun q11 hf => ?_)
              refine g_lstore (i := 9) (by decide +kernel) rfl (by decide) (ls1 := [(0, .ref 0), (1, .int p1), (2, .int p2), (3, .int p3), (4, .int p4), (5, .long q9.1), (7, .long q10), (9, .long q11)]) rfl ?_
              refine g_lload (i := 9) (by decide +kernel) rfl ?_
              refine g_lconst (z := 1) (v := 1) (by decide +kernel) rfl ?_
              refine g_lcmp (by decide +kernel) ?_
              refine x_if_ge (off := 7) (tgt := 89) hf (by decide +kernel) (by decide) (fun c12 hf => ?_) (fun c12 hf => ?_)
              · refine g_iload (i := 4) (by decide +kernel) rfl ?_
                refine x_if_ne (off := 11) (tgt := 102) hf (by decide +kernel) (by decide) (fun c13 hf => ?_) (fun c13 hf => ?_)
                · refine g_lload (i := 7) (by decide +kernel) rfl ?_
                  refine g_lload (i := 9) (by decide +kernel) rfl ?_
                  refine x_ldiv hf (by decide +kernel) (fun x14 hf => ?_)
                  exact x_lret hf hs (by decide +kernel) rfl (Nat.le_refl _) (Nat.le_refl _)
                · refine g_lload (i := 5) (by decide +kernel) rfl ?_
                  refine g_lload (i := 9) (by decide +kernel) rfl ?_
                  refine x_ldiv hf (by decide +kernel) (fun x15 hf => ?_)
                  refine g_goto (off := 8) (tgt := 107) (by decide +kernel) (by decide) ?_
                  exact x_lret hf hs (by decide +kernel) rfl (Nat.le_refl _) (Nat.le_refl _)
              · refine g_ldc2 (by decide +kernel) C_Top_319 ?_
                exact x_lret hf hs (by decide +kernel) rfl (Nat.le_refl _) (Nat.le_refl _)
            · refine g_ldc2 (by decide +kernel) C_Top_245 ?_
              exact x_lret hf hs (by decide +kernel) rfl (Nat.le_refl _) (Nat.le_refl _)
        · refine g_ldc2 (by decide +kernel) C_Top_243 ?_
          exact x_lret hf hs (by decide +kernel) rfl (Nat.le_refl _) (Nat.le_refl _)
def f_Top_likely_L41 (p1 : Int32) (p2 : Int32) (p3 : Int32) : Nat → Int32 → am_H → Option (Int32 × am_H)
  | 0, _, _ => none
  | n + 1, v4, h =>
    (if (9 : Int32) < v4 then
      some ((-1 : Int32), h)
    else
      (f_Chances_outOfPower p1 p2 v4 h).bind fun q8 =>
      (f_Chances_power v4 q8.2).bind fun q9 =>
      (if (lg_cmp (q8.1 * (100 : Int64)) (((p3).toInt64) * q9)) < 0 then
        f_Top_likely_L41 p1 p2 p3 n (v4 + (1 : Int32)) q8.2
      else
        some (v4, q8.2)))
set_option maxRecDepth 100000 in
set_option maxHeartbeats 4000000 in
theorem t_Top_likely_L41 {p1 : Int32} {p2 : Int32} {p3 : Int32}  : ∀ (n : Nat) (v4 : Int32) (h : am_H) (r : Int32 × am_H), am_Sh h → f_Top_likely_L41 p1 p2 p3 n v4 h = some r → am_G 5 M_Top_likely 0 0 (am_qI r) 41 [(0, .ref 0), (1, .int p1), (2, .int p2), (3, .int p3), (4, .int v4)] [] h 0 0 := by
  intro n
  induction n with
  | zero =>
    intro v4 h r hs hf
    rw [f_Top_likely_L41] at hf
    cases hf
  | succ n ih =>
    intro v4 h r hs hf
    rw [f_Top_likely_L41] at hf
    refine g_iload (i := 4) (by decide +kernel) rfl ?_
    refine g_bipush (z := 9) (v := 9) (by decide +kernel) rfl ?_
    refine x_icmp_gt (off := 39) (tgt := 84) hf (by decide +kernel) (by decide) (fun c7 hf => ?_) (fun c7 hf => ?_)
    · refine g_iconst (z := (-1)) (v := (-1)) (by decide +kernel) rfl ?_
      exact x_iret hf hs (by decide +kernel) rfl (Nat.le_refl _) (Nat.le_refl _)
    · refine g_aload_n (i := 0) (by decide +kernel) rfl ?_
      refine x_getr (hs.k k_0) F_Top_86 (by decide +kernel) rfl (hs.r r_0_12) ?_
      refine g_iload_n (i := 1) (by decide +kernel) rfl ?_
      refine g_iload_n (i := 2) (by decide +kernel) rfl ?_
      refine g_iload (i := 4) (by decide +kernel) rfl ?_
      refine x_callVJ (as := [.int p1, .int p2, .int v4]) Vi_Chances_outOfPower Vs_Chances_outOfPower (hs.k k_99) rfl hf (fun q hq => t_Chances_outOfPower hs  hq) Y_Chances_outOfPower L_Top_309 (by decide +kernel) rfl rfl (Nat.le_of_ble_eq_true rfl) (by decide) (Nat.le_refl _) (Nat.le_refl _) (fun q8 hf hs => ?_)
      refine g_ldc2 (by decide +kernel) C_Top_321 ?_
      refine g_lmul (by decide +kernel) ?_
      refine g_iload_n (i := 3) (by decide +kernel) rfl ?_
      refine g_i2l (by decide +kernel) ?_
      refine g_iload (i := 4) (by decide +kernel) rfl ?_
      refine x_callSJp (as := [.int v4]) St_Chances_power hf (fun q hq => t_Chances_power hs  hq) Y_Chances_power L_Top_312 (by decide +kernel) rfl rfl (Nat.le_of_ble_eq_true rfl) (by decide) (Nat.le_refl _) (Nat.le_refl _) (fun q9 hf => ?_)
      refine g_lmul (by decide +kernel) ?_
      refine g_lcmp (by decide +kernel) ?_
      refine x_if_lt (off := 6) (tgt := 78) hf (by decide +kernel) (by decide) (fun c10 hf => ?_) (fun c10 hf => ?_)
      · refine g_iinc (i := 4) (z := 1) (v := (v4 + (1 : Int32))) (by decide +kernel) rfl rfl rfl (by decide) (ls1 := [(0, .ref 0), (1, .int p1), (2, .int p2), (3, .int p3), (4, .int (v4 + (1 : Int32)))]) rfl ?_
        refine g_goto (off := (-40)) (tgt := 41) (by decide +kernel) (by decide) ?_
        exact am_G.forget (am_subp [0, 1, 2, 3, 4] rfl) (ih _ _ _ hs hf)
      · refine g_iload (i := 4) (by decide +kernel) rfl ?_
        exact x_iret hf hs (by decide +kernel) rfl (Nat.le_refl _) (Nat.le_refl _)
def f_Top_likely (p1 : Int32) (p2 : Int32) (p3 : Int32) (h : am_H) : Option (Int32 × am_H) :=
  (f_River_hasPerson 1 p1 h).bind fun q1 =>
  (if q1 = true then
    (f_River_hasSpot 1 p2 h).bind fun q3 =>
    (if q3 = true then
      (if p3 < 0 then
        some ((-3 : Int32), h)
      else
        (if p3 ≤ (100 : Int32) then
          f_Top_likely_L41 p1 p2 p3 am_fu (0 : Int32) h
        else
          some ((-3 : Int32), h)))
    else
      some ((-2 : Int32), h))
  else
    some ((-2 : Int32), h))
set_option maxRecDepth 100000 in
set_option maxHeartbeats 4000000 in
theorem t_Top_likely {p1 : Int32} {p2 : Int32} {p3 : Int32} {h : am_H} (hs : am_Sh h)  {r : Int32 × am_H} (hf : f_Top_likely p1 p2 p3 h = some r) : am_Ct 5 M_Top_likely [.ref 0, .int p1, .int p2, .int p3] h 0 0 (am_qI r) := by
  unfold f_Top_likely at hf
  refine am_Ct.of (by decide) rfl (Nat.le_of_ble_eq_true rfl) (ls := [(0, .ref 0), (1, .int p1), (2, .int p2), (3, .int p3)]) rfl ?_
  refine g_aload_n (i := 0) (by decide +kernel) rfl ?_
  refine x_getr (hs.k k_0) F_Top_10 (by decide +kernel) rfl (hs.r r_0_0) ?_
  refine g_iload_n (i := 1) (by decide +kernel) rfl ?_
  refine x_callVBp (as := [.int p1]) Vi_River_hasPerson Vs_River_hasPerson (hs.k k_1) rfl hf (fun q hq => t_River_hasPerson hs (by decide) hq) Y_River_hasPerson L_Top_140 (by decide +kernel) rfl rfl (Nat.le_of_ble_eq_true rfl) (by decide) (Nat.le_refl _) (Nat.le_refl _) (fun q1 hf => ?_)
  refine x_ifb_eq (off := 14) (tgt := 22) hf (by decide +kernel) (by decide) (fun c2 hf => ?_) (fun c2 hf => ?_)
  · refine g_bipush (z := (-2)) (v := (-2)) (by decide +kernel) rfl ?_
    exact x_iret hf hs (by decide +kernel) rfl (Nat.le_refl _) (Nat.le_refl _)
  · refine g_aload_n (i := 0) (by decide +kernel) rfl ?_
    refine x_getr (hs.k k_0) F_Top_10 (by decide +kernel) rfl (hs.r r_0_0) ?_
    refine g_iload_n (i := 2) (by decide +kernel) rfl ?_
    refine x_callVBp (as := [.int p2]) Vi_River_hasSpot Vs_River_hasSpot (hs.k k_1) rfl hf (fun q hq => t_River_hasSpot hs (by decide) hq) Y_River_hasSpot L_Top_230 (by decide +kernel) rfl rfl (Nat.le_of_ble_eq_true rfl) (by decide) (Nat.le_refl _) (Nat.le_refl _) (fun q3 hf => ?_)
    refine x_ifb_ne (off := 6) (tgt := 25) hf (by decide +kernel) (by decide) (fun c4 hf => ?_) (fun c4 hf => ?_)
    · refine g_iload_n (i := 3) (by decide +kernel) rfl ?_
      refine x_if_lt (off := 9) (tgt := 35) hf (by decide +kernel) (by decide) (fun c5 hf => ?_) (fun c5 hf => ?_)
      · refine g_bipush (z := (-3)) (v := (-3)) (by decide +kernel) rfl ?_
        exact x_iret hf hs (by decide +kernel) rfl (Nat.le_refl _) (Nat.le_refl _)
      · refine g_iload_n (i := 3) (by decide +kernel) rfl ?_
        refine g_bipush (z := 100) (v := 100) (by decide +kernel) rfl ?_
        refine x_icmp_le (off := 6) (tgt := 38) hf (by decide +kernel) (by decide) (fun c6 hf => ?_) (fun c6 hf => ?_)
        · refine g_iconst (z := 0) (v := 0) (by decide +kernel) rfl ?_
          refine g_istore (i := 4) (by decide +kernel) rfl (by decide) (ls1 := [(0, .ref 0), (1, .int p1), (2, .int p2), (3, .int p3), (4, .int (0 : Int32))]) rfl ?_
          exact am_G.forget (am_subp [0, 1, 2, 3, 4] rfl) (t_Top_likely_L41  am_fu _ _ _ hs hf)
        · refine g_bipush (z := (-3)) (v := (-3)) (by decide +kernel) rfl ?_
          exact x_iret hf hs (by decide +kernel) rfl (Nat.le_refl _) (Nat.le_refl _)
    · refine g_bipush (z := (-2)) (v := (-2)) (by decide +kernel) rfl ?_
      exact x_iret hf hs (by decide +kernel) rfl (Nat.le_refl _) (Nat.le_refl _)
def f_Tray_empty (o : Nat) (p1 : Int32) (p2 : Int32) (h : am_H) : Option (am_H) :=
  am_let (am_sI h o 0 (1 : Int32)) fun h1 =>
  am_let (am_sI h1 o 2 p1) fun h2 =>
  am_let (am_sI h2 o 1 p2) fun h3 =>
  (f_Arrays_fill_JJV (o + 1) 40 (0 : Int64) h3).bind fun q4 =>
  some q4
set_option maxRecDepth 100000 in
set_option maxHeartbeats 4000000 in
theorem t_Tray_empty {o : Nat} {p1 : Int32} {p2 : Int32} {h : am_H} (hs : am_Sh h) (ho : o ∈ am_trL) {r : am_H} (hf : f_Tray_empty o p1 p2 h = some r) : am_Ct 1 M_Tray_empty [.ref o, .int p1, .int p2] h 0 0 (am_qV r) := by
  unfold f_Tray_empty at hf
  refine am_Ct.of (by decide) rfl (Nat.le_of_ble_eq_true rfl) (ls := [(0, .ref o), (1, .int p1), (2, .int p2)]) rfl ?_
  refine g_aload_n (i := 0) (by decide +kernel) rfl ?_
  refine g_iconst (z := 1) (v := 1) (by decide +kernel) rfl ?_
  refine x_puti hf hs (hs.k (k_Tr ho)) F_Tray_9 (by decide +kernel) rfl rfl rfl rfl (fun h1 hf hs => ?_)
  refine g_aload_n (i := 0) (by decide +kernel) rfl ?_
  refine g_iload_n (i := 1) (by decide +kernel) rfl ?_
  refine x_puti hf hs (hs.k (k_Tr ho)) F_Tray_19 (by decide +kernel) rfl rfl rfl rfl (fun h2 hf hs => ?_)
  refine g_aload_n (i := 0) (by decide +kernel) rfl ?_
  refine g_iload_n (i := 2) (by decide +kernel) rfl ?_
  refine x_puti hf hs (hs.k (k_Tr ho)) F_Tray_15 (by decide +kernel) rfl rfl rfl rfl (fun h3 hf hs => ?_)
  refine g_aload_n (i := 0) (by decide +kernel) rfl ?_
  refine x_getr (hs.k (k_Tr ho)) F_Tray_22 (by decide +kernel) rfl (hs.r (r_Tr_3 ho)) ?_
  refine g_lconst (z := 0) (v := 0) (by decide +kernel) rfl ?_
  refine x_callSV (as := [.ref (o + 1), .long (0 : Int64)]) St_Arrays_fill_JJV hf (fun q hq => t_Arrays_fill_JJV hs (k_Tr_3 ho) hq) Y_Arrays_fill_JJV L_Tray_26 (by decide +kernel) rfl rfl (Nat.le_of_ble_eq_true rfl) (by decide) (Nat.le_refl _) (Nat.le_refl _) (fun q4 hf hs => ?_)
  exact x_vret hf hs (by decide +kernel) rfl (Nat.le_refl _) (Nat.le_refl _)
def f_Top_numbers (p1 : Int32) (p2 : Int32) (p3 : Int32) (h : am_H) : Option (Int32 × am_H) :=
  (f_Top_isTray p1 h).bind fun q1 =>
  (if q1 = true then
    (if p2 < 0 then
      some ((-2 : Int32), h)
    else
      (if p2 ≤ (3 : Int32) then
        (if p3 < 0 then
          some ((-3 : Int32), h)
        else
          (if p3 ≤ (40 : Int32) then
            (am_el 102 2 4 p1).bind fun e7 =>
            (f_Tray_empty e7 p2 p3 h).bind fun q8 =>
            some ((0 : Int32), q8)
          else
            some ((-3 : Int32), h)))
      else
        some ((-2 : Int32), h)))
  else
    some ((-2 : Int32), h))
set_option maxRecDepth 100000 in
set_option maxHeartbeats 4000000 in
theorem t_Top_numbers {p1 : Int32} {p2 : Int32} {p3 : Int32} {h : am_H} (hs : am_Sh h)  {r : Int32 × am_H} (hf : f_Top_numbers p1 p2 p3 h = some r) : am_Ct 2 M_Top_numbers [.ref 0, .int p1, .int p2, .int p3] h 0 0 (am_qI r) := by
  unfold f_Top_numbers at hf
  refine am_Ct.of (by decide) rfl (Nat.le_of_ble_eq_true rfl) (ls := [(0, .ref 0), (1, .int p1), (2, .int p2), (3, .int p3)]) rfl ?_
  refine g_iload_n (i := 1) (by decide +kernel) rfl ?_
  refine x_callSBp (as := [.int p1]) St_Top_isTray hf (fun q hq => t_Top_isTray hs  hq) Y_Top_isTray L_Top_204 (by decide +kernel) rfl rfl (Nat.le_of_ble_eq_true rfl) (by decide) (Nat.le_refl _) (Nat.le_refl _) (fun q1 hf => ?_)
  refine x_ifb_eq (off := 12) (tgt := 16) hf (by decide +kernel) (by decide) (fun c2 hf => ?_) (fun c2 hf => ?_)
  · refine g_bipush (z := (-2)) (v := (-2)) (by decide +kernel) rfl ?_
    exact x_iret hf hs (by decide +kernel) rfl (Nat.le_refl _) (Nat.le_refl _)
  · refine g_iload_n (i := 2) (by decide +kernel) rfl ?_
    refine x_if_lt (off := 8) (tgt := 16) hf (by decide +kernel) (by decide) (fun c3 hf => ?_) (fun c3 hf => ?_)
    · refine g_bipush (z := (-2)) (v := (-2)) (by decide +kernel) rfl ?_
      exact x_iret hf hs (by decide +kernel) rfl (Nat.le_refl _) (Nat.le_refl _)
    · refine g_iload_n (i := 2) (by decide +kernel) rfl ?_
      refine g_iconst (z := 3) (v := 3) (by decide +kernel) rfl ?_
      refine x_icmp_le (off := 6) (tgt := 19) hf (by decide +kernel) (by decide) (fun c4 hf => ?_) (fun c4 hf => ?_)
      · refine g_iload_n (i := 3) (by decide +kernel) rfl ?_
        refine x_if_lt (off := 9) (tgt := 29) hf (by decide +kernel) (by decide) (fun c5 hf => ?_) (fun c5 hf => ?_)
        · refine g_bipush (z := (-3)) (v := (-3)) (by decide +kernel) rfl ?_
          exact x_iret hf hs (by decide +kernel) rfl (Nat.le_refl _) (Nat.le_refl _)
        · refine g_iload_n (i := 3) (by decide +kernel) rfl ?_
          refine g_bipush (z := 40) (v := 40) (by decide +kernel) rfl ?_
          refine x_icmp_le (off := 6) (tgt := 32) hf (by decide +kernel) (by decide) (fun c6 hf => ?_) (fun c6 hf => ?_)
          · refine g_aload_n (i := 0) (by decide +kernel) rfl ?_
            refine x_getr (hs.k k_0) F_Top_46 (by decide +kernel) rfl (hs.r r_0_6) ?_
            refine g_iload_n (i := 1) (by decide +kernel) rfl ?_
            refine x_aald (a := 102) (s := 2) (t0 := 4) hf (hs.k k_83) rfl (by decide +kernel) (fun j hj => hs.r (e_83 hj).1) (fun j7 hj7 hf => ?_)
            refine g_iload_n (i := 2) (by decide +kernel) rfl ?_
            refine g_iload_n (i := 3) (by decide +kernel) rfl ?_
            refine x_callVV (as := [.int p2, .int p3]) Vi_Tray_empty Vs_Tray_empty (hs.k (k_Tr (e_83 hj7).2)) rfl hf (fun q hq => t_Tray_empty hs (e_83 hj7).2 hq) Y_Tray_empty L_Top_323 (by decide +kernel) rfl rfl (Nat.le_of_ble_eq_true rfl) (by decide) (Nat.le_refl _) (Nat.le_refl _) (fun q8 hf hs => ?_)
            refine g_iconst (z := 0) (v := 0) (by decide +kernel) rfl ?_
            exact x_iret hf hs (by decide +kernel) rfl (Nat.le_refl _) (Nat.le_refl _)
          · refine g_bipush (z := (-3)) (v := (-3)) (by decide +kernel) rfl ?_
            exact x_iret hf hs (by decide +kernel) rfl (Nat.le_refl _) (Nat.le_refl _)
      · refine g_bipush (z := (-2)) (v := (-2)) (by decide +kernel) rfl ?_
        exact x_iret hf hs (by decide +kernel) rfl (Nat.le_refl _) (Nat.le_refl _)
def f_Tray_cut (o : Nat) (p1 : Int64) (h : am_H) : Option (Int64) :=
  (if (h.2.1 o 2) = (0 : Int32) then
    some ((((((p1).toInt32)).toInt8.toInt32)).toInt64)
  else if (h.2.1 o 2) = (1 : Int32) then
    some ((((((p1).toInt32)).toInt16.toInt32)).toInt64)
  else if (h.2.1 o 2) = (2 : Int32) then
    some ((((p1).toInt32)).toInt64)
  else 
    some p1)
set_option maxRecDepth 100000 in
set_option maxHeartbeats 4000000 in
theorem t_Tray_cut {o : Nat} {p1 : Int64} {h : am_H} (hs : am_Sh h) (ho : o ∈ am_trL) {r : Int64} (hf : f_Tray_cut o p1 h = some r) : am_Ct 0 M_Tray_cut [.ref o, .long p1] h 0 0 (am_pJ h r) := by
  unfold f_Tray_cut at hf
  refine am_Ct.of (by decide) rfl (Nat.le_of_ble_eq_true rfl) (ls := [(0, .ref o), (1, .long p1)]) rfl ?_
  refine g_aload_n (i := 0) (by decide +kernel) rfl ?_
  refine x_geti (hs.k (k_Tr ho)) F_Tray_19 (by decide +kernel) rfl ?_
  by_cases e0 : (h.2.1 o 2) = (0 : Int32)
  · rw [if_pos e0] at hf
    have ex : Int32.toInt (h.2.1 o 2) = 0 := by rw [e0]; rfl
    refine x_tabIn (dflt := 42) (lo := 0) (hi := 2) (offs := #[28, 33, 38]) (len := 28) (off := 28) (tgt := 32) (by decide +kernel) (by rw [ex]; decide) (by rw [ex]; decide) (by rw [ex]; rfl) (by decide) ?_
    refine g_lload_n (i := 1) (by decide +kernel) rfl ?_
    refine g_l2i (by decide +kernel) ?_
    refine g_i2b (by decide +kernel) ?_
    refine g_i2l (by decide +kernel) ?_
    exact x_lretp hf (by decide +kernel) rfl (Nat.le_refl _) (Nat.le_refl _)
  · rw [if_neg e0] at hf
    by_cases e1 : (h.2.1 o 2) = (1 : Int32)
    · rw [if_pos e1] at hf
      have ex : Int32.toInt (h.2.1 o 2) = 1 := by rw [e1]; rfl
      refine x_tabIn (dflt := 42) (lo := 0) (hi := 2) (offs := #[28, 33, 38]) (len := 28) (off := 33) (tgt := 37) (by decide +kernel) (by rw [ex]; decide) (by rw [ex]; decide) (by rw [ex]; rfl) (by decide) ?_
      refine g_lload_n (i := 1) (by decide +kernel) rfl ?_
      refine g_l2i (by decide +kernel) ?_
      refine g_i2s (by decide +kernel) ?_
      refine g_i2l (by decide +kernel) ?_
      exact x_lretp hf (by decide +kernel) rfl (Nat.le_refl _) (Nat.le_refl _)
    · rw [if_neg e1] at hf
      by_cases e2 : (h.2.1 o 2) = (2 : Int32)
      · rw [if_pos e2] at hf
        have ex : Int32.toInt (h.2.1 o 2) = 2 := by rw [e2]; rfl
        refine x_tabIn (dflt := 42) (lo := 0) (hi := 2) (offs := #[28, 33, 38]) (len := 28) (off := 38) (tgt := 42) (by decide +kernel) (by rw [ex]; decide) (by rw [ex]; decide) (by rw [ex]; rfl) (by decide) ?_
        refine g_lload_n (i := 1) (by decide +kernel) rfl ?_
        refine g_l2i (by decide +kernel) ?_
        refine g_i2l (by decide +kernel) ?_
        exact x_lretp hf (by decide +kernel) rfl (Nat.le_refl _) (Nat.le_refl _)
      · rw [if_neg e2] at hf
        refine x_tabOut (dflt := 42) (lo := 0) (hi := 2) (offs := #[28, 33, 38]) (len := 28) (tgt := 46) (by decide +kernel) (am_tabNe ⟨by decide, by decide⟩ (fun z hz => ?_)) (by decide) ?_
        · have hz : z < 3 := hz
          have : z = 0 ∨ z = 1 ∨ z = 2 := by omega
          rcases this with rfl | rfl | rfl
          · exact e0
          · exact e1
          · exact e2
        · refine g_lload_n (i := 1) (by decide +kernel) rfl ?_
          exact x_lretp hf (by decide +kernel) rfl (Nat.le_refl _) (Nat.le_refl _)
def f_Tray_put (o : Nat) (p1 : Int32) (p2 : Int64) (h : am_H) : Option (Int64 × am_H) :=
  ((if p1 < 0 then
      some h
    else
      (if (Int32.ofNat 40) ≤ p1 then
        some h
      else
        (f_Tray_cut o p2 h).bind fun q3 =>
        (am_wrJ h (o + 1) 40 p1 q3).bind fun h4 =>
        some h4)) : Option (am_H)).bind fun m5 =>
  (f_Tray_at o p1 m5).bind fun q6 =>
  some (q6, m5)
set_option maxRecDepth 100000 in
set_option maxHeartbeats 4000000 in
theorem t_Tray_put {o : Nat} {p1 : Int32} {p2 : Int64} {h : am_H} (hs : am_Sh h) (ho : o ∈ am_trL) {r : Int64 × am_H} (hf : f_Tray_put o p1 p2 h = some r) : am_Ct 1 M_Tray_put [.ref o, .int p1, .long p2] h 0 0 (am_qJ r) := by
  unfold f_Tray_put at hf
  refine am_Ct.of (by decide) rfl (Nat.le_of_ble_eq_true rfl) (ls := [(0, .ref o), (1, .int p1), (2, .long p2)]) rfl ?_
  refine g_iload_n (i := 1) (by decide +kernel) rfl ?_
  obtain ⟨m5, hm24, hf⟩ := Option.bind_eq_some_iff.mp hf
  refine am_cutS (J := 24) (ls' := [(0, .ref o), (1, .int p1), (2, .long p2)]) (st' := []) (h' := m5) (fun hs => ?_) (fun K24 => ?_)
  · refine g_aload_n (i := 0) (by decide +kernel) rfl ?_
    refine g_iload_n (i := 1) (by decide +kernel) rfl ?_
    refine x_callVJp (as := [.int p1]) Vi_Tray_at Vs_Tray_at (hs.k (k_Tr ho)) rfl hf (fun q hq => t_Tray_at hs ho hq) Y_Tray_at L_Tray_36 (by decide +kernel) rfl rfl (Nat.le_of_ble_eq_true rfl) (by decide) (Nat.le_refl _) (Nat.le_refl _) (fun q6 hf => ?_)
    exact x_lret hf hs (by decide +kernel) rfl (Nat.le_refl _) (Nat.le_refl _)
  refine x_if_lt (off := 23) (tgt := 24) hm24 (by decide +kernel) (by decide) (fun c1 hm24 => ?_) (fun c1 hm24 => ?_)
  · cases hm24
    exact am_G.forget (am_subp [0, 1, 2] rfl) (K24 hs)
  · refine g_iload_n (i := 1) (by decide +kernel) rfl ?_
    refine g_aload_n (i := 0) (by decide +kernel) rfl ?_
    refine x_getr (hs.k (k_Tr ho)) F_Tray_22 (by decide +kernel) rfl (hs.r (r_Tr_3 ho)) ?_
    refine g_alen (t0 := 1) (hs.k (k_Tr_3 ho)) rfl rfl (by decide +kernel) ?_
    refine x_icmp_ge (off := 14) (tgt := 24) hm24 (by decide +kernel) (by decide) (fun c2 hm24 => ?_) (fun c2 hm24 => ?_)
    · cases hm24
      exact am_G.forget (am_subp [0, 1, 2] rfl) (K24 hs)
    · refine g_aload_n (i := 0) (by decide +kernel) rfl ?_
      refine x_getr (hs.k (k_Tr ho)) F_Tray_22 (by decide +kernel) rfl (hs.r (r_Tr_3 ho)) ?_
      refine g_iload_n (i := 1) (by decide +kernel) rfl ?_
      refine g_aload_n (i := 0) (by decide +kernel) rfl ?_
      refine g_lload_n (i := 2) (by decide +kernel) rfl ?_
      refine x_callVJp (as := [.long p2]) Vi_Tray_cut Vs_Tray_cut (hs.k (k_Tr ho)) rfl hm24 (fun q hq => t_Tray_cut hs ho hq) Y_Tray_cut L_Tray_32 (by decide +kernel) rfl rfl (Nat.le_of_ble_eq_true rfl) (by decide) (Nat.le_refl _) (Nat.le_refl _) (fun q3 hm24 => ?_)
      refine x_last hm24 hs (hs.k (k_Tr_3 ho)) (by decide +kernel) (fun h4 hm24 hs => ?_)
      cases hm24
      exact am_G.forget (am_subp [0, 1, 2] rfl) (K24 hs)
def f_Top_write (p1 : Int32) (p2 : Int32) (p3 : Int64) (h : am_H) : Option (Int64 × am_H) :=
  (f_Top_isTray p1 h).bind fun q1 =>
  (if q1 = true then
    (am_el 102 2 4 p1).bind fun e3 =>
    (if (h.2.1 e3 0) = 0 then
      some ((-6 : Int64), h)
    else
      (if p2 < 0 then
        some ((-7 : Int64), h)
      else
        (am_el 102 2 4 p1).bind fun e6 =>
        (if p2 < (h.2.1 e6 1) then
          (am_el 102 2 4 p1).bind fun e8 =>
          (f_Tray_put e8 p2 p3 h).bind fun q9 =>
          some (q9.1, q9.2)
        else
          some ((-7 : Int64), h))))
  else
    some ((-2 : Int64), h))
set_option maxRecDepth 100000 in
set_option maxHeartbeats 4000000 in
theorem t_Top_write {p1 : Int32} {p2 : Int32} {p3 : Int64} {h : am_H} (hs : am_Sh h)  {r : Int64 × am_H} (hf : f_Top_write p1 p2 p3 h = some r) : am_Ct 2 M_Top_write [.ref 0, .int p1, .int p2, .long p3] h 0 0 (am_qJ r) := by
  unfold f_Top_write at hf
  refine am_Ct.of (by decide) rfl (Nat.le_of_ble_eq_true rfl) (ls := [(0, .ref 0), (1, .int p1), (2, .int p2), (3, .long p3)]) rfl ?_
  refine g_iload_n (i := 1) (by decide +kernel) rfl ?_
  refine x_callSBp (as := [.int p1]) St_Top_isTray hf (fun q hq => t_Top_isTray hs  hq) Y_Top_isTray L_Top_204 (by decide +kernel) rfl rfl (Nat.le_of_ble_eq_true rfl) (by decide) (Nat.le_refl _) (Nat.le_refl _) (fun q1 hf => ?_)
  refine x_ifb_ne (off := 7) (tgt := 11) hf (by decide +kernel) (by decide) (fun c2 hf => ?_) (fun c2 hf => ?_)
  · refine g_aload_n (i := 0) (by decide +kernel) rfl ?_
    refine x_getr (hs.k k_0) F_Top_46 (by decide +kernel) rfl (hs.r r_0_6) ?_
    refine g_iload_n (i := 1) (by decide +kernel) rfl ?_
    refine x_aald (a := 102) (s := 2) (t0 := 4) hf (hs.k k_83) rfl (by decide +kernel) (fun j hj => hs.r (e_83 hj).1) (fun j3 hj3 hf => ?_)
    refine x_geti (hs.k (k_Tr (e_83 hj3).2)) F_Top_207 (by decide +kernel) rfl ?_
    refine x_if_ne (off := 7) (tgt := 27) hf (by decide +kernel) (by decide) (fun c4 hf => ?_) (fun c4 hf => ?_)
    · refine g_iload_n (i := 2) (by decide +kernel) rfl ?_
      refine x_if_lt (off := 16) (tgt := 44) hf (by decide +kernel) (by decide) (fun c5 hf => ?_) (fun c5 hf => ?_)
      · refine g_ldc2 (by decide +kernel) C_Top_329 ?_
        exact x_lret hf hs (by decide +kernel) rfl (Nat.le_refl _) (Nat.le_refl _)
      · refine g_iload_n (i := 2) (by decide +kernel) rfl ?_
        refine g_aload_n (i := 0) (by decide +kernel) rfl ?_
        refine x_getr (hs.k k_0) F_Top_46 (by decide +kernel) rfl (hs.r r_0_6) ?_
        refine g_iload_n (i := 1) (by decide +kernel) rfl ?_
        refine x_aald (a := 102) (s := 2) (t0 := 4) hf (hs.k k_83) rfl (by decide +kernel) (fun j hj => hs.r (e_83 hj).1) (fun j6 hj6 hf => ?_)
        refine x_geti (hs.k (k_Tr (e_83 hj6).2)) F_Top_215 (by decide +kernel) rfl ?_
        refine x_icmp_lt (off := 7) (tgt := 48) hf (by decide +kernel) (by decide) (fun c7 hf => ?_) (fun c7 hf => ?_)
        · refine g_aload_n (i := 0) (by decide +kernel) rfl ?_
          refine x_getr (hs.k k_0) F_Top_46 (by decide +kernel) rfl (hs.r r_0_6) ?_
          refine g_iload_n (i := 1) (by decide +kernel) rfl ?_
          refine x_aald (a := 102) (s := 2) (t0 := 4) hf (hs.k k_83) rfl (by decide +kernel) (fun j hj => hs.r (e_83 hj).1) (fun j8 hj8 hf => ?_)
          refine g_iload_n (i := 2) (by decide +kernel) rfl ?_
          refine g_lload_n (i := 3) (by decide +kernel) rfl ?_
          refine x_callVJ (as := [.int p2, .long p3]) Vi_Tray_put Vs_Tray_put (hs.k (k_Tr (e_83 hj8).2)) rfl hf (fun q hq => t_Tray_put hs (e_83 hj8).2 hq) Y_Tray_put L_Top_331 (by decide +kernel) rfl rfl (Nat.le_of_ble_eq_true rfl) (by decide) (Nat.le_refl _) (Nat.le_refl _) (fun q9 hf hs => ?_)
          exact x_lret hf hs (by decide +kernel) rfl (Nat.le_refl _) (Nat.le_refl _)
        · refine g_ldc2 (by decide +kernel) C_Top_329 ?_
          exact x_lret hf hs (by decide +kernel) rfl (Nat.le_refl _) (Nat.le_refl _)
    · refine g_ldc2 (by decide +kernel) C_Top_327 ?_
      exact x_lret hf hs (by decide +kernel) rfl (Nat.le_refl _) (Nat.le_refl _)
  · refine g_ldc2 (by decide +kernel) C_Top_243 ?_
    exact x_lret hf hs (by decide +kernel) rfl (Nat.le_refl _) (Nat.le_refl _)
def f_Top_lists_L88 (p1 : Int32) (p2 : Int32) (p3 : Int32) : Nat → Int32 → Int32 → Int32 → am_H → Option (Int32 × am_H)
  | 0, _, _, _, _ => none
  | n + 1, v4, v5, v6, h =>
    (if v5 ≤ v6 then
      some (v6, h)
    else
      (am_el 102 2 4 p1).bind fun e14 =>
      ((if (v6 - v6 / (2 : Int32) * (2 : Int32)) = 0 then
          (f_Ahead_actAt (v6 / (2 : Int32)) h).bind fun q16 =>
          some ((((p2 * (10 : Int32)) + q16)).toInt64)
        else
          some (-1 : Int64)) : Option (Int64)).bind fun m17 =>
      (f_Tray_put e14 v6 m17 h).bind fun q18 =>
      f_Top_lists_L88 p1 p2 p3 n v4 v5 (v6 + (1 : Int32)) q18.2)
set_option maxRecDepth 100000 in
set_option maxHeartbeats 4000000 in
theorem t_Top_lists_L88 {p1 : Int32} {p2 : Int32} {p3 : Int32}  {Q : Option Value → am_H → Prop} : ∀ (n : Nat) (v4 : Int32) (v5 : Int32) (v6 : Int32) (h : am_H) (q : Int32 × am_H), am_Sh h → f_Top_lists_L88 p1 p2 p3 n v4 v5 v6 h = some q → (am_Sh q.2 → am_G 5 M_Top_lists 0 0 Q 143 [(0, .ref 0), (1, .int p1), (2, .int p2), (3, .int p3), (4, .int v4), (5, .int v5), (6, .int q.1)] [] q.2 0 0) → am_G 5 M_Top_lists 0 0 Q 88 [(0, .ref 0), (1, .int p1), (2, .int p2), (3, .int p3), (4, .int v4), (5, .int v5), (6, .int v6)] [] h 0 0 := by
  intro n
  induction n with
  | zero =>
    intro v4 v5 v6 h q hs hf kont
    rw [f_Top_lists_L88] at hf
    cases hf
  | succ n ih =>
    intro v4 v5 v6 h q hs hf kont
    rw [f_Top_lists_L88] at hf
    refine g_iload (i := 6) (by decide +kernel) rfl ?_
    refine g_iload (i := 5) (by decide +kernel) rfl ?_
    refine x_icmp_ge (off := 51) (tgt := 143) hf (by decide +kernel) (by decide) (fun c13 hf => ?_) (fun c13 hf => ?_)
    · cases hf
      exact am_G.forget (am_subp [0, 1, 2, 3, 4, 5, 6] rfl) (kont hs)
    · refine g_aload_n (i := 0) (by decide +kernel) rfl ?_
      refine x_getr (hs.k k_0) F_Top_46 (by decide +kernel) rfl (hs.r r_0_6) ?_
      refine g_iload_n (i := 1) (by decide +kernel) rfl ?_
      refine x_aald (a := 102) (s := 2) (t0 := 4) hf (hs.k k_83) rfl (by decide +kernel) (fun j hj => hs.r (e_83 hj).1) (fun j14 hj14 hf => ?_)
      refine g_iload (i := 6) (by decide +kernel) rfl ?_
      refine g_iload (i := 6) (by decide +kernel) rfl ?_
      refine g_iconst (z := 2) (v := 2) (by decide +kernel) rfl ?_
      refine g_irem (by decide +kernel) (by decide) ?_
      obtain ⟨m17, hm133, hf⟩ := Option.bind_eq_some_iff.mp hf
      refine am_cut (J := 133) (ls' := [(0, .ref 0), (1, .int p1), (2, .int p2), (3, .int p3), (4, .int v4), (5, .int v5), (6, .int v6)]) (st' := [.long m17, .int v6, .ref (102 + 2 * j14)]) ?_ (fun K133 => ?_)
      · refine x_callVJ (as := [.int v6, .long m17]) Vi_Tray_put Vs_Tray_put (hs.k (k_Tr (e_83 hj14).2)) rfl hf (fun q hq => t_Tray_put hs (e_83 hj14).2 hq) Y_Tray_put L_Top_331 (by decide +kernel) rfl rfl (Nat.le_of_ble_eq_true rfl) (by decide) (Nat.le_refl _) (Nat.le_refl _) (fun q18 hf hs => ?_)
        refine g_pop2_2 (by decide +kernel) rfl ?_
        refine g_iinc (i := 6) (z := 1) (v := (v6 + (1 : Int32))) (by decide +kernel) rfl rfl rfl (by decide) (ls1 := [(0, .ref 0), (1, .int p1), (2, .int p2), (3, .int p3), (4, .int v4), (5, .int v5), (6, .int (v6 + (1 : Int32)))]) rfl ?_
        refine g_goto (off := (-52)) (tgt := 88) (by decide +kernel) (by decide) ?_
        exact am_G.forget (am_subp [0, 1, 2, 3, 4, 5, 6] rfl) (ih _ _ _ _ _ hs hf kont)
      refine x_if_ne (off := 23) (tgt := 130) hm133 (by decide +kernel) (by decide) (fun c15 hm133 => ?_) (fun c15 hm133 => ?_)
      · refine g_ldc2 (by decide +kernel) C_Top_319 ?_
        cases hm133
        exact am_G.forget (am_subp [0, 1, 2, 3, 4, 5, 6] rfl) K133
      · refine g_iload_n (i := 2) (by decide +kernel) rfl ?_
        refine g_bipush (z := 10) (v := 10) (by decide +kernel) rfl ?_
        refine g_imul (by decide +kernel) ?_
        refine g_aload_n (i := 0) (by decide +kernel) rfl ?_
        refine x_getr (hs.k k_0) F_Top_63 (by decide +kernel) rfl (hs.r r_0_9) ?_
        refine g_iload (i := 6) (by decide +kernel) rfl ?_
        refine g_iconst (z := 2) (v := 2) (by decide +kernel) rfl ?_
        refine g_idiv (by decide +kernel) (by decide) ?_
        refine x_callVIp (as := [.int (v6 / (2 : Int32))]) Vi_Ahead_actAt Vs_Ahead_actAt (hs.k k_86) rfl hm133 (fun q hq => t_Ahead_actAt hs  hq) Y_Ahead_actAt L_Top_240 (by decide +kernel) rfl rfl (Nat.le_of_ble_eq_true rfl) (by decide) (Nat.le_refl _) (Nat.le_refl _) (fun q16 hm133 => ?_)
        refine g_iadd (by decide +kernel) ?_
        refine g_i2l (by decide +kernel) ?_
        refine g_goto (off := 6) (tgt := 133) (by decide +kernel) (by decide) ?_
        cases hm133
        exact am_G.forget (am_subp [0, 1, 2, 3, 4, 5, 6] rfl) K133
def f_Top_lists (p1 : Int32) (p2 : Int32) (p3 : Int32) (h : am_H) : Option (Int32 × am_H) :=
  (f_Top_isTray p1 h).bind fun q1 =>
  (if q1 = true then
    (f_River_hasPerson 1 p2 h).bind fun q3 =>
    (if q3 = true then
      (f_River_hasSpot 1 p3 h).bind fun q5 =>
      (if q5 = true then
        (am_el 102 2 4 p1).bind fun e7 =>
        (if (h.2.1 e7 0) = 0 then
          some ((-6 : Int32), h)
        else
          (f_Ahead_findWay p2 p3 h).bind fun q9 =>
          (if q9.1 = (-1 : Int32) then
            some ((-5 : Int32), q9.2)
          else
            (am_el 102 2 4 p1).bind fun e11 =>
            am_let (if (q9.2.2.1 e11 1) < ((2 : Int32) * q9.1) then (q9.2.2.1 e11 1) else ((2 : Int32) * q9.1)) fun y12 =>
            (f_Top_lists_L88 p1 p2 p3 am_fu q9.1 y12 (0 : Int32) q9.2).bind fun q19 =>
            some (y12, q19.2)))
      else
        some ((-2 : Int32), h))
    else
      some ((-2 : Int32), h))
  else
    some ((-2 : Int32), h))
set_option maxRecDepth 100000 in
set_option maxHeartbeats 4000000 in
theorem t_Top_lists {p1 : Int32} {p2 : Int32} {p3 : Int32} {h : am_H} (hs : am_Sh h)  {r : Int32 × am_H} (hf : f_Top_lists p1 p2 p3 h = some r) : am_Ct 5 M_Top_lists [.ref 0, .int p1, .int p2, .int p3] h 0 0 (am_qI r) := by
  unfold f_Top_lists at hf
  refine am_Ct.of (by decide) rfl (Nat.le_of_ble_eq_true rfl) (ls := [(0, .ref 0), (1, .int p1), (2, .int p2), (3, .int p3)]) rfl ?_
  refine g_iload_n (i := 1) (by decide +kernel) rfl ?_
  refine x_callSBp (as := [.int p1]) St_Top_isTray hf (fun q hq => t_Top_isTray hs  hq) Y_Top_isTray L_Top_204 (by decide +kernel) rfl rfl (Nat.le_of_ble_eq_true rfl) (by decide) (Nat.le_refl _) (Nat.le_refl _) (fun q1 hf => ?_)
  refine x_ifb_eq (off := 25) (tgt := 29) hf (by decide +kernel) (by decide) (fun c2 hf => ?_) (fun c2 hf => ?_)
  · refine g_bipush (z := (-2)) (v := (-2)) (by decide +kernel) rfl ?_
    exact x_iret hf hs (by decide +kernel) rfl (Nat.le_refl _) (Nat.le_refl _)
  · refine g_aload_n (i := 0) (by decide +kernel) rfl ?_
    refine x_getr (hs.k k_0) F_Top_10 (by decide +kernel) rfl (hs.r r_0_0) ?_
    refine g_iload_n (i := 2) (by decide +kernel) rfl ?_
    refine x_callVBp (as := [.int p2]) Vi_River_hasPerson Vs_River_hasPerson (hs.k k_1) rfl hf (fun q hq => t_River_hasPerson hs (by decide) hq) Y_River_hasPerson L_Top_140 (by decide +kernel) rfl rfl (Nat.le_of_ble_eq_true rfl) (by decide) (Nat.le_refl _) (Nat.le_refl _) (fun q3 hf => ?_)
    refine x_ifb_eq (off := 14) (tgt := 29) hf (by decide +kernel) (by decide) (fun c4 hf => ?_) (fun c4 hf => ?_)
    · refine g_bipush (z := (-2)) (v := (-2)) (by decide +kernel) rfl ?_
      exact x_iret hf hs (by decide +kernel) rfl (Nat.le_refl _) (Nat.le_refl _)
    · refine g_aload_n (i := 0) (by decide +kernel) rfl ?_
      refine x_getr (hs.k k_0) F_Top_10 (by decide +kernel) rfl (hs.r r_0_0) ?_
      refine g_iload_n (i := 3) (by decide +kernel) rfl ?_
      refine x_callVBp (as := [.int p3]) Vi_River_hasSpot Vs_River_hasSpot (hs.k k_1) rfl hf (fun q hq => t_River_hasSpot hs (by decide) hq) Y_River_hasSpot L_Top_230 (by decide +kernel) rfl rfl (Nat.le_of_ble_eq_true rfl) (by decide) (Nat.le_refl _) (Nat.le_refl _) (fun q5 hf => ?_)
      refine x_ifb_ne (off := 6) (tgt := 32) hf (by decide +kernel) (by decide) (fun c6 hf => ?_) (fun c6 hf => ?_)
      · refine g_aload_n (i := 0) (by decide +kernel) rfl ?_
        refine x_getr (hs.k k_0) F_Top_46 (by decide +kernel) rfl (hs.r r_0_6) ?_
        refine g_iload_n (i := 1) (by decide +kernel) rfl ?_
        refine x_aald (a := 102) (s := 2) (t0 := 4) hf (hs.k k_83) rfl (by decide +kernel) (fun j hj => hs.r (e_83 hj).1) (fun j7 hj7 hf => ?_)
        refine x_geti (hs.k (k_Tr (e_83 hj7).2)) F_Top_207 (by decide +kernel) rfl ?_
        refine x_if_ne (off := 6) (tgt := 47) hf (by decide +kernel) (by decide) (fun c8 hf => ?_) (fun c8 hf => ?_)
        · refine g_aload_n (i := 0) (by decide +kernel) rfl ?_
          refine x_getr (hs.k k_0) F_Top_63 (by decide +kernel) rfl (hs.r r_0_9) ?_
          refine g_iload_n (i := 2) (by decide +kernel) rfl ?_
          refine g_iload_n (i := 3) (by decide +kernel) rfl ?_
          refine x_callVI (as := [.int p2, .int p3]) Vi_Ahead_findWay Vs_Ahead_findWay (hs.k k_86) rfl hf (fun q hq => t_Ahead_findWay hs  hq) Y_Ahead_findWay L_Top_237 (by decide +kernel) rfl rfl (Nat.le_of_ble_eq_true rfl) (by decide) (Nat.le_refl _) (Nat.le_refl _) (fun q9 hf hs => ?_)
          refine g_istore (i := 4) (by decide +kernel) rfl (by decide) (ls1 := [(0, .ref 0), (1, .int p1), (2, .int p2), (3, .int p3), (4, .int q9.1)]) rfl ?_
          refine g_iload (i := 4) (by decide +kernel) rfl ?_
          refine g_iconst (z := (-1)) (v := (-1)) (by decide +kernel) rfl ?_
          refine x_icmp_ne (off := 6) (tgt := 67) hf (by decide +kernel) (by decide) (fun c10 hf => ?_) (fun c10 hf => ?_)
          · refine g_iconst (z := 2) (v := 2) (by decide +kernel) rfl ?_
            refine g_iload (i := 4) (by decide +kernel) rfl ?_
            refine g_imul (by decide +kernel) ?_
            refine g_aload_n (i := 0) (by decide +kernel) rfl ?_
            refine x_getr (hs.k k_0) F_Top_46 (by decide +kernel) rfl (hs.r r_0_6) ?_
            refine g_iload_n (i := 1) (by decide +kernel) rfl ?_
            refine x_aald (a := 102) (s := 2) (t0 := 4) hf (hs.k k_83) rfl (by decide +kernel) (fun j hj => hs.r (e_83 hj).1) (fun j11 hj11 hf => ?_)
            refine x_geti (hs.k (k_Tr (e_83 hj11).2)) F_Top_215 (by decide +kernel) rfl ?_
            refine g_mmin L_Top_335 (by decide +kernel) (by decide) (Nat.le_refl _) (Nat.le_refl _) (Nat.le_of_ble_eq_true rfl) ?_
            refine x_nmI hf (fun y12 hf => ?_)
            refine g_istore (i := 5) (by decide +kernel) rfl (by decide) (ls1 := [(0, .ref 0), (1, .int p1), (2, .int p2), (3, .int p3), (4, .int q9.1), (5, .int y12)]) rfl ?_
            refine g_iconst (z := 0) (v := 0) (by decide +kernel) rfl ?_
            refine g_istore (i := 6) (by decide +kernel) rfl (by decide) (ls1 := [(0, .ref 0), (1, .int p1), (2, .int p2), (3, .int p3), (4, .int q9.1), (5, .int y12), (6, .int (0 : Int32))]) rfl ?_
            obtain ⟨q19, hqq19, hf⟩ := Option.bind_eq_some_iff.mp hf
            refine am_G.forget (am_subp [0, 1, 2, 3, 4, 5, 6] rfl) (t_Top_lists_L88  am_fu _ _ _ _ q19 hs hqq19 (fun hs => ?_))
            refine g_iload (i := 5) (by decide +kernel) rfl ?_
            exact x_iret hf hs (by decide +kernel) rfl (Nat.le_refl _) (Nat.le_refl _)
          · refine g_bipush (z := (-5)) (v := (-5)) (by decide +kernel) rfl ?_
            exact x_iret hf hs (by decide +kernel) rfl (Nat.le_refl _) (Nat.le_refl _)
        · refine g_bipush (z := (-6)) (v := (-6)) (by decide +kernel) rfl ?_
          exact x_iret hf hs (by decide +kernel) rfl (Nat.le_refl _) (Nat.le_refl _)
      · refine g_bipush (z := (-2)) (v := (-2)) (by decide +kernel) rfl ?_
        exact x_iret hf hs (by decide +kernel) rfl (Nat.le_refl _) (Nat.le_refl _)
def f_Top_image (p1 : Int32) (h : am_H) : Option (Int32 × am_H) :=
  (if p1 < 0 then
    some ((-2 : Int32), h)
  else
    (if p1 < (2 : Int32) then
      am_let (am_sI h 0 14 ((h.2.1 0 14) ||| ((1 : Int32) <<< (p1 &&& 31)))) fun h3 =>
      (am_el 110 13 2 p1).bind fun e4 =>
      (f_River_copyFrom e4 1 h3).bind fun q5 =>
      (am_el 119 13 2 p1).bind fun e6 =>
      (f_State_copyFrom e6 10 q5).bind fun q7 =>
      some ((0 : Int32), q7)
    else
      some ((-2 : Int32), h)))
set_option maxRecDepth 100000 in
set_option maxHeartbeats 4000000 in
theorem t_Top_image {p1 : Int32} {h : am_H} (hs : am_Sh h)  {r : Int32 × am_H} (hf : f_Top_image p1 h = some r) : am_Ct 2 M_Top_image [.ref 0, .int p1] h 0 0 (am_qI r) := by
  unfold f_Top_image at hf
  refine am_Ct.of (by decide) rfl (Nat.le_of_ble_eq_true rfl) (ls := [(0, .ref 0), (1, .int p1)]) rfl ?_
  refine g_iload_n (i := 1) (by decide +kernel) rfl ?_
  refine x_if_lt (off := 8) (tgt := 9) hf (by decide +kernel) (by decide) (fun c1 hf => ?_) (fun c1 hf => ?_)
  · refine g_bipush (z := (-2)) (v := (-2)) (by decide +kernel) rfl ?_
    exact x_iret hf hs (by decide +kernel) rfl (Nat.le_refl _) (Nat.le_refl _)
  · refine g_iload_n (i := 1) (by decide +kernel) rfl ?_
    refine g_iconst (z := 2) (v := 2) (by decide +kernel) rfl ?_
    refine x_icmp_lt (off := 6) (tgt := 12) hf (by decide +kernel) (by decide) (fun c2 hf => ?_) (fun c2 hf => ?_)
    · refine g_aload_n (i := 0) (by decide +kernel) rfl ?_
      refine g_dup (by decide +kernel) rfl ?_
      refine x_geti (hs.k k_0) F_Top_94 (by decide +kernel) rfl ?_
      refine g_iconst (z := 1) (v := 1) (by decide +kernel) rfl ?_
      refine g_iload_n (i := 1) (by decide +kernel) rfl ?_
      refine g_ishl (by decide +kernel) ?_
      refine g_ior (by decide +kernel) ?_
      refine x_puti hf hs (hs.k k_0) F_Top_94 (by decide +kernel) rfl rfl rfl rfl (fun h3 hf hs => ?_)
      refine g_aload_n (i := 0) (by decide +kernel) rfl ?_
      refine x_getr (hs.k k_0) F_Top_50 (by decide +kernel) rfl (hs.r r_0_7) ?_
      refine g_iload_n (i := 1) (by decide +kernel) rfl ?_
      refine x_aald (a := 110) (s := 13) (t0 := 5) hf (hs.k k_84) rfl (by decide +kernel) (fun j hj => hs.r (e_84 hj).1) (fun j4 hj4 hf => ?_)
      refine g_aload_n (i := 0) (by decide +kernel) rfl ?_
      refine x_getr (hs.k k_0) F_Top_10 (by decide +kernel) rfl (hs.r r_0_0) ?_
      refine x_callVV (as := [.ref 1]) Vi_River_copyFrom Vs_River_copyFrom (hs.k (k_Rv (e_84 hj4).2)) rfl hf (fun q hq => t_River_copyFrom hs (e_84 hj4).2 (by decide) hq) Y_River_copyFrom L_Top_109 (by decide +kernel) rfl rfl (Nat.le_of_ble_eq_true rfl) (by decide) (Nat.le_refl _) (Nat.le_refl _) (fun q5 hf hs => ?_)
      refine g_aload_n (i := 0) (by decide +kernel) rfl ?_
      refine x_getr (hs.k k_0) F_Top_54 (by decide +kernel) rfl (hs.r r_0_8) ?_
      refine g_iload_n (i := 1) (by decide +kernel) rfl ?_
      refine x_aald (a := 119) (s := 13) (t0 := 6) hf (hs.k k_85) rfl (by decide +kernel) (fun j hj => hs.r (e_85 hj).1) (fun j6 hj6 hf => ?_)
      refine g_aload_n (i := 0) (by decide +kernel) rfl ?_
      refine x_getr (hs.k k_0) F_Top_19 (by decide +kernel) rfl (hs.r r_0_1) ?_
      refine x_callVV (as := [.ref 10]) Vi_State_copyFrom Vs_State_copyFrom (hs.k (k_St (e_85 hj6).2)) rfl hf (fun q hq => t_State_copyFrom hs (e_85 hj6).2 (by decide) hq) Y_State_copyFrom L_Top_201 (by decide +kernel) rfl rfl (Nat.le_of_ble_eq_true rfl) (by decide) (Nat.le_refl _) (Nat.le_refl _) (fun q7 hf hs => ?_)
      refine g_iconst (z := 0) (v := 0) (by decide +kernel) rfl ?_
      exact x_iret hf hs (by decide +kernel) rfl (Nat.le_refl _) (Nat.le_refl _)
    · refine g_bipush (z := (-2)) (v := (-2)) (by decide +kernel) rfl ?_
      exact x_iret hf hs (by decide +kernel) rfl (Nat.le_refl _) (Nat.le_refl _)
def f_Top_restore (p1 : Int32) (h : am_H) : Option (Int32 × am_H) :=
  (if p1 < 0 then
    some ((-2 : Int32), h)
  else
    (if p1 < (2 : Int32) then
      (f_Top_hasBit (h.2.1 0 14) p1 h).bind fun q3 =>
      (if q3 = true then
        (am_el 110 13 2 p1).bind fun e5 =>
        (f_River_copyFrom 1 e5 h).bind fun q6 =>
        (am_el 119 13 2 p1).bind fun e7 =>
        (f_State_copyFrom 10 e7 q6).bind fun q8 =>
        (f_Past_forget  q8).bind fun q9 =>
        (f_Weeks_forget  q9).bind fun q10 =>
        some ((0 : Int32), q10)
      else
        some ((-5 : Int32), h))
    else
      some ((-2 : Int32), h)))
set_option maxRecDepth 100000 in
set_option maxHeartbeats 4000000 in
theorem t_Top_restore {p1 : Int32} {h : am_H} (hs : am_Sh h)  {r : Int32 × am_H} (hf : f_Top_restore p1 h = some r) : am_Ct 2 M_Top_restore [.ref 0, .int p1] h 0 0 (am_qI r) := by
  unfold f_Top_restore at hf
  refine am_Ct.of (by decide) rfl (Nat.le_of_ble_eq_true rfl) (ls := [(0, .ref 0), (1, .int p1)]) rfl ?_
  refine g_iload_n (i := 1) (by decide +kernel) rfl ?_
  refine x_if_lt (off := 8) (tgt := 9) hf (by decide +kernel) (by decide) (fun c1 hf => ?_) (fun c1 hf => ?_)
  · refine g_bipush (z := (-2)) (v := (-2)) (by decide +kernel) rfl ?_
    exact x_iret hf hs (by decide +kernel) rfl (Nat.le_refl _) (Nat.le_refl _)
  · refine g_iload_n (i := 1) (by decide +kernel) rfl ?_
    refine g_iconst (z := 2) (v := 2) (by decide +kernel) rfl ?_
    refine x_icmp_lt (off := 6) (tgt := 12) hf (by decide +kernel) (by decide) (fun c2 hf => ?_) (fun c2 hf => ?_)
    · refine g_aload_n (i := 0) (by decide +kernel) rfl ?_
      refine x_geti (hs.k k_0) F_Top_94 (by decide +kernel) rfl ?_
      refine g_iload_n (i := 1) (by decide +kernel) rfl ?_
      refine x_callSBp (as := [.int (h.2.1 0 14), .int p1]) St_Top_hasBit hf (fun q hq => t_Top_hasBit hs  hq) Y_Top_hasBit L_Top_340 (by decide +kernel) rfl rfl (Nat.le_of_ble_eq_true rfl) (by decide) (Nat.le_refl _) (Nat.le_refl _) (fun q3 hf => ?_)
      refine x_ifb_ne (off := 6) (tgt := 26) hf (by decide +kernel) (by decide) (fun c4 hf => ?_) (fun c4 hf => ?_)
      · refine g_aload_n (i := 0) (by decide +kernel) rfl ?_
        refine x_getr (hs.k k_0) F_Top_10 (by decide +kernel) rfl (hs.r r_0_0) ?_
        refine g_aload_n (i := 0) (by decide +kernel) rfl ?_
        refine x_getr (hs.k k_0) F_Top_50 (by decide +kernel) rfl (hs.r r_0_7) ?_
        refine g_iload_n (i := 1) (by decide +kernel) rfl ?_
        refine x_aald (a := 110) (s := 13) (t0 := 5) hf (hs.k k_84) rfl (by decide +kernel) (fun j hj => hs.r (e_84 hj).1) (fun j5 hj5 hf => ?_)
        refine x_callVV (as := [.ref (110 + 13 * j5)]) Vi_River_copyFrom Vs_River_copyFrom (hs.k k_1) rfl hf (fun q hq => t_River_copyFrom hs (by decide) (e_84 hj5).2 hq) Y_River_copyFrom L_Top_109 (by decide +kernel) rfl rfl (Nat.le_of_ble_eq_true rfl) (by decide) (Nat.le_refl _) (Nat.le_refl _) (fun q6 hf hs => ?_)
        refine g_aload_n (i := 0) (by decide +kernel) rfl ?_
        refine x_getr (hs.k k_0) F_Top_19 (by decide +kernel) rfl (hs.r r_0_1) ?_
        refine g_aload_n (i := 0) (by decide +kernel) rfl ?_
        refine x_getr (hs.k k_0) F_Top_54 (by decide +kernel) rfl (hs.r r_0_8) ?_
        refine g_iload_n (i := 1) (by decide +kernel) rfl ?_
        refine x_aald (a := 119) (s := 13) (t0 := 6) hf (hs.k k_85) rfl (by decide +kernel) (fun j hj => hs.r (e_85 hj).1) (fun j7 hj7 hf => ?_)
        refine x_callVV (as := [.ref (119 + 13 * j7)]) Vi_State_copyFrom Vs_State_copyFrom (hs.k k_10) rfl hf (fun q hq => t_State_copyFrom hs (by decide) (e_85 hj7).2 hq) Y_State_copyFrom L_Top_201 (by decide +kernel) rfl rfl (Nat.le_of_ble_eq_true rfl) (by decide) (Nat.le_refl _) (Nat.le_refl _) (fun q8 hf hs => ?_)
        refine g_aload_n (i := 0) (by decide +kernel) rfl ?_
        refine x_getr (hs.k k_0) F_Top_29 (by decide +kernel) rfl (hs.r r_0_3) ?_
        refine x_callVV (as := []) Vi_Past_forget Vs_Past_forget (hs.k k_18) rfl hf (fun q hq => t_Past_forget hs  hq) Y_Past_forget L_Top_116 (by decide +kernel) rfl rfl (Nat.le_of_ble_eq_true rfl) (by decide) (Nat.le_refl _) (Nat.le_refl _) (fun q9 hf hs => ?_)
        refine g_aload_n (i := 0) (by decide +kernel) rfl ?_
        refine x_getr (hs.k k_0) F_Top_72 (by decide +kernel) rfl (hs.r r_0_10) ?_
        refine x_callVV (as := []) Vi_Weeks_forget Vs_Weeks_forget (hs.k k_91) rfl hf (fun q hq => t_Weeks_forget hs  hq) Y_Weeks_forget L_Top_119 (by decide +kernel) rfl rfl (Nat.le_of_ble_eq_true rfl) (by decide) (Nat.le_refl _) (Nat.le_refl _) (fun q10 hf hs => ?_)
        refine g_iconst (z := 0) (v := 0) (by decide +kernel) rfl ?_
        exact x_iret hf hs (by decide +kernel) rfl (Nat.le_refl _) (Nat.le_refl _)
      · refine g_bipush (z := (-5)) (v := (-5)) (by decide +kernel) rfl ?_
        exact x_iret hf hs (by decide +kernel) rfl (Nat.le_refl _) (Nat.le_refl _)
    · refine g_bipush (z := (-2)) (v := (-2)) (by decide +kernel) rfl ?_
      exact x_iret hf hs (by decide +kernel) rfl (Nat.le_refl _) (Nat.le_refl _)
