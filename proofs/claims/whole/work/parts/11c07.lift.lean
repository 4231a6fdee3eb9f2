def f_Ahead_countWays_L43 (p1 : Int32) (p2 : Int32) (p3 : Int32) : Nat → Int32 → Int32 → am_H → Option (Int32 × am_H)
  | 0, _, _, _ => none
  | n + 1, v4, v5, h =>
    (if (9 : Int32) ≤ v5 then
      some (v5, h)
    else
      (am_rd (h.2.2.1 (am_rf h 86 4)) 9 v5).bind fun x11 =>
      (if (lg_cmp x11 (0 : Int64)) = 0 then
        f_Ahead_countWays_L43 p1 p2 p3 n v4 (v5 + (1 : Int32)) h
      else
        (f_Ahead_rowIn p1 v4 h).bind fun q13 =>
        (f_Ahead_liesIn v4 h).bind fun q14 =>
        (f_Ahead_spreadCount q13 v5 q14 h).bind fun q15 =>
        f_Ahead_countWays_L43 p1 p2 p3 n v4 (v5 + (1 : Int32)) q15))
set_option maxRecDepth 100000 in
set_option maxHeartbeats 4000000 in
theorem t_Ahead_countWays_L43 {p1 : Int32} {p2 : Int32} {p3 : Int32}  {Q : Option Value → am_H → Prop} : ∀ (n : Nat) (v4 : Int32) (v5 : Int32) (h : am_H) (q : Int32 × am_H), am_Sh h → f_Ahead_countWays_L43 p1 p2 p3 n v4 v5 h = some q → (am_Sh q.2 → am_G 3 M_Ahead_countWays 0 0 Q 87 [(0, .ref 86), (1, .int p1), (2, .int p2), (3, .int p3), (4, .int v4), (5, .int q.1)] [] q.2 0 0) → am_G 3 M_Ahead_countWays 0 0 Q 43 [(0, .ref 86), (1, .int p1), (2, .int p2), (3, .int p3), (4, .int v4), (5, .int v5)] [] h 0 0 := by
  intro n
  induction n with
  | zero =>
    intro v4 v5 h q hs hf kont
    rw [f_Ahead_countWays_L43] at hf
    cases hf
  | succ n ih =>
    intro v4 v5 h q hs hf kont
    rw [f_Ahead_countWays_L43] at hf
    refine g_iload (i := 5) (by decide +kernel) rfl ?_
    refine g_bipush (z := 9) (v := 9) (by decide +kernel) rfl ?_
    refine x_icmp_ge (off := 40) (tgt := 87) hf (by decide +kernel) (by decide) (fun c9 hf => ?_) (fun c9 hf => ?_)
    · cases hf
      exact am_G.forget (am_subp [0, 1, 2, 3, 4, 5] rfl) (kont hs)
    · refine g_aload_n (i := 0) (by decide +kernel) rfl ?_
      have hm10 := hs.cnt.2
      refine x_getr (hs.k k_86) F_Ahead_18 (by decide +kernel) rfl hs.cnt.1 ?_
      refine g_iload (i := 5) (by decide +kernel) rfl ?_
      refine x_lald hf (hs.k (k_of86 hm10)) (by decide +kernel) (fun x11 hf => ?_)
      refine g_lconst (z := 0) (v := 0) (by decide +kernel) rfl ?_
      refine g_lcmp (by decide +kernel) ?_
      refine x_if_eq (off := 22) (tgt := 81) hf (by decide +kernel) (by decide) (fun c12 hf => ?_) (fun c12 hf => ?_)
      · refine g_iinc (i := 5) (z := 1) (v := (v5 + (1 : Int32))) (by decide +kernel) rfl rfl rfl (by decide) (ls1 := [(0, .ref 86), (1, .int p1), (2, .int p2), (3, .int p3), (4, .int v4), (5, .int (v5 + (1 : Int32)))]) rfl ?_
        refine g_goto (off := (-41)) (tgt := 43) (by decide +kernel) (by decide) ?_
        exact am_G.forget (am_subp [0, 1, 2, 3, 4, 5] rfl) (ih _ _ _ _ hs hf kont)
      · refine g_aload_n (i := 0) (by decide +kernel) rfl ?_
        refine g_aload_n (i := 0) (by decide +kernel) rfl ?_
        refine g_iload_n (i := 1) (by decide +kernel) rfl ?_
        refine g_iload (i := 4) (by decide +kernel) rfl ?_
        refine x_callVIp (as := [.int p1, .int v4]) Vi_Ahead_rowIn Vs_Ahead_rowIn (hs.k k_86) rfl hf (fun q hq => t_Ahead_rowIn hs  hq) Y_Ahead_rowIn L_Ahead_69 (by decide +kernel) rfl rfl (Nat.le_of_ble_eq_true rfl) (by decide) (Nat.le_refl _) (Nat.le_refl _) (fun q13 hf => ?_)
        refine g_iload (i := 5) (by decide +kernel) rfl ?_
        refine g_aload_n (i := 0) (by decide +kernel) rfl ?_
        refine g_iload (i := 4) (by decide +kernel) rfl ?_
        refine x_callVIp (as := [.int v4]) Vi_Ahead_liesIn Vs_Ahead_liesIn (hs.k k_86) rfl hf (fun q hq => t_Ahead_liesIn hs  hq) Y_Ahead_liesIn L_Ahead_73 (by decide +kernel) rfl rfl (Nat.le_of_ble_eq_true rfl) (by decide) (Nat.le_refl _) (Nat.le_refl _) (fun q14 hf => ?_)
        refine x_callVV (as := [.int q13, .int v5, .int q14]) Vi_Ahead_spreadCount Vs_Ahead_spreadCount (hs.k k_86) rfl hf (fun q hq => t_Ahead_spreadCount hs  hq) Y_Ahead_spreadCount L_Ahead_102 (by decide +kernel) rfl rfl (Nat.le_of_ble_eq_true rfl) (by decide) (Nat.le_refl _) (Nat.le_refl _) (fun q15 hf hs => ?_)
        refine g_iinc (i := 5) (z := 1) (v := (v5 + (1 : Int32))) (by decide +kernel) rfl rfl rfl (by decide) (ls1 := [(0, .ref 86), (1, .int p1), (2, .int p2), (3, .int p3), (4, .int v4), (5, .int (v5 + (1 : Int32)))]) rfl ?_
        refine g_goto (off := (-41)) (tgt := 43) (by decide +kernel) (by decide) ?_
        exact am_G.forget (am_subp [0, 1, 2, 3, 4, 5] rfl) (ih _ _ _ _ hs hf kont)
def f_Ahead_countWays_L26 (p1 : Int32) (p2 : Int32) (p3 : Int32) : Nat → Int32 → am_H → Option (Int32 × am_H)
  | 0, _, _ => none
  | n + 1, v4, h =>
    (if p3 ≤ v4 then
      some (v4, h)
    else
      (f_Arrays_fill_JJV (am_rf h 86 5) 9 (0 : Int64) h).bind fun q8 =>
      (f_Ahead_countWays_L43 p1 p2 p3 am_fu v4 (0 : Int32) q8).bind fun q16 =>
      am_let (am_sR q16.2 86 4 (some (am_rf q16.2 86 5))) fun h19 =>
      am_let (am_sR h19 86 5 (some (am_rf q16.2 86 4))) fun h20 =>
      f_Ahead_countWays_L26 p1 p2 p3 n (v4 + (1 : Int32)) h20)
set_option maxRecDepth 100000 in
set_option maxHeartbeats 4000000 in
theorem t_Ahead_countWays_L26 {p1 : Int32} {p2 : Int32} {p3 : Int32}  {Q : Option Value → am_H → Prop} : ∀ (n : Nat) (v4 : Int32) (h : am_H) (q : Int32 × am_H), am_Sh h → f_Ahead_countWays_L26 p1 p2 p3 n v4 h = some q → (am_Sh q.2 → am_G 3 M_Ahead_countWays 0 0 Q 113 [(0, .ref 86), (1, .int p1), (2, .int p2), (3, .int p3), (4, .int q.1)] [] q.2 0 0) → am_G 3 M_Ahead_countWays 0 0 Q 26 [(0, .ref 86), (1, .int p1), (2, .int p2), (3, .int p3), (4, .int v4)] [] h 0 0 := by
  intro n
  induction n with
  | zero =>
    intro v4 h q hs hf kont
    rw [f_Ahead_countWays_L26] at hf
    cases hf
  | succ n ih =>
    intro v4 h q hs hf kont
    rw [f_Ahead_countWays_L26] at hf
    refine g_iload (i := 4) (by decide +kernel) rfl ?_
    refine g_iload_n (i := 3) (by decide +kernel) rfl ?_
    refine x_icmp_ge (off := 84) (tgt := 113) hf (by decide +kernel) (by decide) (fun c6 hf => ?_) (fun c6 hf => ?_)
    · cases hf
      exact am_G.forget (am_subp [0, 1, 2, 3, 4] rfl) (kont hs)
    · refine g_aload_n (i := 0) (by decide +kernel) rfl ?_
      have hm7 := hs.lat.2
      refine x_getr (hs.k k_86) F_Ahead_22 (by decide +kernel) rfl hs.lat.1 ?_
      refine g_lconst (z := 0) (v := 0) (by decide +kernel) rfl ?_
      refine x_callSV (as := [.ref (am_rf h 86 5), .long (0 : Int64)]) St_Arrays_fill_JJV hf (fun q hq => t_Arrays_fill_JJV hs (k_of86 hm7) hq) Y_Arrays_fill_JJV L_Ahead_96 (by decide +kernel) rfl rfl (Nat.le_of_ble_eq_true rfl) (by decide) (Nat.le_refl _) (Nat.le_refl _) (fun q8 hf hs => ?_)
      refine g_iconst (z := 0) (v := 0) (by decide +kernel) rfl ?_
      refine g_istore (i := 5) (by decide +kernel) rfl (by decide) (ls1 := [(0, .ref 86), (1, .int p1), (2, .int p2), (3, .int p3), (4, .int v4), (5, .int (0 : Int32))]) rfl ?_
      obtain ⟨q16, hqq16, hf⟩ := Option.bind_eq_some_iff.mp hf
      refine am_G.forget (am_subp [0, 1, 2, 3, 4, 5] rfl) (t_Ahead_countWays_L43  am_fu _ _ _ q16 hs hqq16 (fun hs => ?_))
      refine g_aload_n (i := 0) (by decide +kernel) rfl ?_
      have hm17 := hs.cnt.2
      refine x_getr (hs.k k_86) F_Ahead_18 (by decide +kernel) rfl hs.cnt.1 ?_
      refine g_astore (i := 5) (by decide +kernel) rfl (by decide) (ls1 := [(0, .ref 86), (1, .int p1), (2, .int p2), (3, .int p3), (4, .int v4), (5, .ref (am_rf q16.2 86 4))]) rfl ?_
      refine g_aload_n (i := 0) (by decide +kernel) rfl ?_
      refine g_aload_n (i := 0) (by decide +kernel) rfl ?_
      have hm18 := hs.lat.2
      refine x_getr (hs.k k_86) F_Ahead_22 (by decide +kernel) rfl hs.lat.1 ?_
      refine x_putr hf (hs.p_cnt hm18) (hs.k k_86) F_Ahead_18 (by decide +kernel) rfl rfl (fun h19 hf hs => ?_)
      refine g_aload_n (i := 0) (by decide +kernel) rfl ?_
      refine g_aload (i := 5) (by decide +kernel) rfl ?_
      refine x_putr hf (hs.p_lat hm17) (hs.k k_86) F_Ahead_22 (by decide +kernel) rfl rfl (fun h20 hf hs => ?_)
      refine g_iinc (i := 4) (z := 1) (v := (v4 + (1 : Int32))) (by decide +kernel) rfl rfl rfl (by decide) (ls1 := [(0, .ref 86), (1, .int p1), (2, .int p2), (3, .int p3), (4, .int (v4 + (1 : Int32))), (5, .ref (am_rf q16.2 86 4))]) rfl ?_
      refine g_goto (off := (-84)) (tgt := 26) (by decide +kernel) (by decide) ?_
      exact am_G.forget (am_subp [0, 1, 2, 3, 4] rfl) (ih _ _ _ hs hf kont)
def f_Ahead_countWays (p1 : Int32) (p2 : Int32) (p3 : Int32) (h : am_H) : Option (Int64 × am_H) :=
  (f_Arrays_fill_JJV (am_rf h 86 4) 9 (0 : Int64) h).bind fun q2 =>
  (am_rd (q2.2.1 12) 5 p1).bind fun x4 =>
  (am_wrJ q2 (am_rf q2 86 4) 9 x4 (1 : Int64)).bind fun h5 =>
  (f_Ahead_countWays_L26 p1 p2 p3 am_fu (0 : Int32) h5).bind fun q21 =>
  (am_rd (q21.2.2.2.1 (am_rf q21.2 86 4)) 9 p2).bind fun x23 =>
  some (x23, q21.2)
set_option maxRecDepth 100000 in
set_option maxHeartbeats 4000000 in
theorem t_Ahead_countWays {p1 : Int32} {p2 : Int32} {p3 : Int32} {h : am_H} (hs : am_Sh h)  {r : Int64 × am_H} (hf : f_Ahead_countWays p1 p2 p3 h = some r) : am_Ct 3 M_Ahead_countWays [.ref 86, .int p1, .int p2, .int p3] h 0 0 (am_qJ r) := by
  unfold f_Ahead_countWays at hf
  refine am_Ct.of (by decide) rfl (Nat.le_of_ble_eq_true rfl) (ls := [(0, .ref 86), (1, .int p1), (2, .int p2), (3, .int p3)]) rfl ?_
  refine g_aload_n (i := 0) (by decide +kernel) rfl ?_
  have hm1 := hs.cnt.2
  refine x_getr (hs.k k_86) F_Ahead_18 (by decide +kernel) rfl hs.cnt.1 ?_
  refine g_lconst (z := 0) (v := 0) (by decide +kernel) rfl ?_
  refine x_callSV (as := [.ref (am_rf h 86 4), .long (0 : Int64)]) St_Arrays_fill_JJV hf (fun q hq => t_Arrays_fill_JJV hs (k_of86 hm1) hq) Y_Arrays_fill_JJV L_Ahead_96 (by decide +kernel) rfl rfl (Nat.le_of_ble_eq_true rfl) (by decide) (Nat.le_refl _) (Nat.le_refl _) (fun q2 hf hs => ?_)
  refine g_aload_n (i := 0) (by decide +kernel) rfl ?_
  have hm3 := hs.cnt.2
  refine x_getr (hs.k k_86) F_Ahead_18 (by decide +kernel) rfl hs.cnt.1 ?_
  refine g_aload_n (i := 0) (by decide +kernel) rfl ?_
  refine x_getr (hs.k k_86) F_Ahead_29 (by decide +kernel) rfl (hs.r r_86_1) ?_
  refine x_getr (hs.k k_10) F_Ahead_55 (by decide +kernel) rfl (hs.r r_10_4) ?_
  refine g_iload_n (i := 1) (by decide +kernel) rfl ?_
  refine x_iald hf (hs.k k_12) (by decide +kernel) (fun x4 hf => ?_)
  refine g_lconst (z := 1) (v := 1) (by decide +kernel) rfl ?_
  refine x_last hf hs (hs.k (k_of86 hm3)) (by decide +kernel) (fun h5 hf hs => ?_)
  refine g_iconst (z := 0) (v := 0) (by decide +kernel) rfl ?_
  refine g_istore (i := 4) (by decide +kernel) rfl (by decide) (ls1 := [(0, .ref 86), (1, .int p1), (2, .int p2), (3, .int p3), (4, .int (0 : Int32))]) rfl ?_
  obtain ⟨q21, hqq21, hf⟩ := Option.bind_eq_some_iff.mp hf
  refine am_G.forget (am_subp [0, 1, 2, 3, 4] rfl) (t_Ahead_countWays_L26  am_fu _ _ q21 hs hqq21 (fun hs => ?_))
  refine g_aload_n (i := 0) (by decide +kernel) rfl ?_
  have hm22 := hs.cnt.2
  refine x_getr (hs.k k_86) F_Ahead_18 (by decide +kernel) rfl hs.cnt.1 ?_
  refine g_iload_n (i := 2) (by decide +kernel) rfl ?_
  refine x_lald hf (hs.k (k_of86 hm22)) (by decide +kernel) (fun x23 hf => ?_)
  exact x_lret hf hs (by decide +kernel) rfl (Nat.le_refl _) (Nat.le_refl _)
def f_Top_ways (p1 : Int32) (p2 : Int32) (p3 : Int32) (h : am_H) : Option (Int64 × am_H) :=
  (f_River_hasPerson 1 p1 h).bind fun q1 =>
  (if q1 = true then
    (f_River_hasSpot 1 p2 h).bind fun q3 =>
    (if q3 = true then
      (if p3 < 0 then
        some ((-3 : Int64), h)
      else
        (if p3 ≤ (12 : Int32) then
          (f_Ahead_countWays p1 p2 p3 h).bind fun q7 =>
          some (q7.1, q7.2)
        else
          some ((-3 : Int64), h)))
    else
      some ((-2 : Int64), h))
  else
    some ((-2 : Int64), h))
set_option maxRecDepth 100000 in
set_option maxHeartbeats 4000000 in
theorem t_Top_ways {p1 : Int32} {p2 : Int32} {p3 : Int32} {h : am_H} (hs : am_Sh h)  {r : Int64 × am_H} (hf : f_Top_ways p1 p2 p3 h = some r) : am_Ct 4 M_Top_ways [.ref 0, .int p1, .int p2, .int p3] h 0 0 (am_qJ r) := by
  unfold f_Top_ways at hf
  refine am_Ct.of (by decide) rfl (Nat.le_of_ble_eq_true rfl) (ls := [(0, .ref 0), (1, .int p1), (2, .int p2), (3, .int p3)]) rfl ?_
  refine g_aload_n (i := 0) (by decide +kernel) rfl ?_
  refine x_getr (hs.k k_0) F_Top_10 (by decide +kernel) rfl (hs.r r_0_0) ?_
  refine g_iload_n (i := 1) (by decide +kernel) rfl ?_
  refine x_callVBp (as := [.int p1]) Vi_River_hasPerson Vs_River_hasPerson (hs.k k_1) rfl hf (fun q hq => t_River_hasPerson hs (by decide) hq) Y_River_hasPerson L_Top_140 (by decide +kernel) rfl rfl (Nat.le_of_ble_eq_true rfl) (by decide) (Nat.le_refl _) (Nat.le_refl _) (fun q1 hf => ?_)
  refine x_ifb_eq (off := 14) (tgt := 22) hf (by decide +kernel) (by decide) (fun c2 hf => ?_) (fun c2 hf => ?_)
  · refine g_ldc2 (by decide +kernel) C_Top_243 ?_
    exact x_lret hf hs (by decide +kernel) rfl (Nat.le_refl _) (Nat.le_refl _)
  · refine g_aload_n (i := 0) (by decide +kernel) rfl ?_
    refine x_getr (hs.k k_0) F_Top_10 (by decide +kernel) rfl (hs.r r_0_0) ?_
    refine g_iload_n (i := 2) (by decide +kernel) rfl ?_
    refine x_callVBp (as := [.int p2]) Vi_River_hasSpot Vs_River_hasSpot (hs.k k_1) rfl hf (fun q hq => t_River_hasSpot hs (by decide) hq) Y_River_hasSpot L_Top_230 (by decide +kernel) rfl rfl (Nat.le_of_ble_eq_true rfl) (by decide) (Nat.le_refl _) (Nat.le_refl _) (fun q3 hf => ?_)
    refine x_ifb_ne (off := 7) (tgt := 26) hf (by decide +kernel) (by decide) (fun c4 hf => ?_) (fun c4 hf => ?_)
    · refine g_iload_n (i := 3) (by decide +kernel) rfl ?_
      refine x_if_lt (off := 9) (tgt := 36) hf (by decide +kernel) (by decide) (fun c5 hf => ?_) (fun c5 hf => ?_)
      · refine g_ldc2 (by decide +kernel) C_Top_245 ?_
        exact x_lret hf hs (by decide +kernel) rfl (Nat.le_refl _) (Nat.le_refl _)
      · refine g_iload_n (i := 3) (by decide +kernel) rfl ?_
        refine g_bipush (z := 12) (v := 12) (by decide +kernel) rfl ?_
        refine x_icmp_le (off := 7) (tgt := 40) hf (by decide +kernel) (by decide) (fun c6 hf => ?_) (fun c6 hf => ?_)
        · refine g_aload_n (i := 0) (by decide +kernel) rfl ?_
          refine x_getr (hs.k k_0) F_Top_63 (by decide +kernel) rfl (hs.r r_0_9) ?_
          refine g_iload_n (i := 1) (by decide +kernel) rfl ?_
          refine g_iload_n (i := 2) (by decide +kernel) rfl ?_
          refine g_iload_n (i := 3) (by decide +kernel) rfl ?_
          refine x_callVJ (as := [.int p1, .int p2, .int p3]) Vi_Ahead_countWays Vs_Ahead_countWays (hs.k k_86) rfl hf (fun q hq => t_Ahead_countWays hs  hq) Y_Ahead_countWays L_Top_247 (by decide +kernel) rfl rfl (Nat.le_of_ble_eq_true rfl) (by decide) (Nat.le_refl _) (Nat.le_refl _) (fun q7 hf hs => ?_)
          exact x_lret hf hs (by decide +kernel) rfl (Nat.le_refl _) (Nat.le_refl _)
        · refine g_ldc2 (by decide +kernel) C_Top_245 ?_
          exact x_lret hf hs (by decide +kernel) rfl (Nat.le_refl _) (Nat.le_refl _)
    · refine g_ldc2 (by decide +kernel) C_Top_243 ?_
      exact x_lret hf hs (by decide +kernel) rfl (Nat.le_refl _) (Nat.le_refl _)
def f_Ahead_spotsIn_L15 (p1 : Int32) (p2 : Int32) : Nat → Int32 → Int32 → am_H → Option (Int32 × Int32)
  | 0, _, _, _ => none
  | n + 1, v3, v4, h =>
    (if p2 ≤ v4 then
      some (v3, v4)
    else
      (f_Ahead_rowIn p1 v4 h).bind fun q3 =>
      (f_Ahead_liesIn v4 h).bind fun q4 =>
      (f_River_spread 1 q3 v3 q4 h).bind fun q5 =>
      f_Ahead_spotsIn_L15 p1 p2 n q5 (v4 + (1 : Int32)) h)
set_option maxRecDepth 100000 in
set_option maxHeartbeats 4000000 in
theorem t_Ahead_spotsIn_L15 {p1 : Int32} {p2 : Int32}  {Q : Option Value → am_H → Prop} : ∀ (n : Nat) (v3 : Int32) (v4 : Int32) (h : am_H) (q : Int32 × Int32), am_Sh h → f_Ahead_spotsIn_L15 p1 p2 n v3 v4 h = some q → (am_G 2 M_Ahead_spotsIn 0 0 Q 49 [(0, .ref 86), (1, .int p1), (2, .int p2), (3, .int q.1), (4, .int q.2)] [] h 0 0) → am_G 2 M_Ahead_spotsIn 0 0 Q 15 [(0, .ref 86), (1, .int p1), (2, .int p2), (3, .int v3), (4, .int v4)] [] h 0 0 := by
  intro n
  induction n with
  | zero =>
    intro v3 v4 h q hs hf kont
    rw [f_Ahead_spotsIn_L15] at hf
    cases hf
  | succ n ih =>
    intro v3 v4 h q hs hf kont
    rw [f_Ahead_spotsIn_L15] at hf
    refine g_iload (i := 4) (by decide +kernel) rfl ?_
    refine g_iload_n (i := 2) (by decide +kernel) rfl ?_
    refine x_icmp_ge (off := 31) (tgt := 49) hf (by decide +kernel) (by decide) (fun c2 hf => ?_) (fun c2 hf => ?_)
    · cases hf
      exact am_G.forget (am_subp [0, 1, 2, 3, 4] rfl) kont
    · refine g_aload_n (i := 0) (by decide +kernel) rfl ?_
      refine x_getr (hs.k k_86) F_Ahead_25 (by decide +kernel) rfl (hs.r r_86_0) ?_
      refine g_aload_n (i := 0) (by decide +kernel) rfl ?_
      refine g_iload_n (i := 1) (by decide +kernel) rfl ?_
      refine g_iload (i := 4) (by decide +kernel) rfl ?_
      refine x_callVIp (as := [.int p1, .int v4]) Vi_Ahead_rowIn Vs_Ahead_rowIn (hs.k k_86) rfl hf (fun q hq => t_Ahead_rowIn hs  hq) Y_Ahead_rowIn L_Ahead_69 (by decide +kernel) rfl rfl (Nat.le_of_ble_eq_true rfl) (by decide) (Nat.le_refl _) (Nat.le_refl _) (fun q3 hf => ?_)
      refine g_iload_n (i := 3) (by decide +kernel) rfl ?_
      refine g_aload_n (i := 0) (by decide +kernel) rfl ?_
      refine g_iload (i := 4) (by decide +kernel) rfl ?_
      refine x_callVIp (as := [.int v4]) Vi_Ahead_liesIn Vs_Ahead_liesIn (hs.k k_86) rfl hf (fun q hq => t_Ahead_liesIn hs  hq) Y_Ahead_liesIn L_Ahead_73 (by decide +kernel) rfl rfl (Nat.le_of_ble_eq_true rfl) (by decide) (Nat.le_refl _) (Nat.le_refl _) (fun q4 hf => ?_)
      refine x_callVIp (as := [.int q3, .int v3, .int q4]) Vi_River_spread Vs_River_spread (hs.k k_1) rfl hf (fun q hq => t_River_spread hs (by decide) hq) Y_River_spread L_Ahead_62 (by decide +kernel) rfl rfl (Nat.le_of_ble_eq_true rfl) (by decide) (Nat.le_refl _) (Nat.le_refl _) (fun q5 hf => ?_)
      refine g_istore_n (i := 3) (by decide +kernel) rfl (by decide) (ls1 := [(0, .ref 86), (1, .int p1), (2, .int p2), (3, .int q5), (4, .int v4)]) rfl ?_
      refine g_iinc (i := 4) (z := 1) (v := (v4 + (1 : Int32))) (by decide +kernel) rfl rfl rfl (by decide) (ls1 := [(0, .ref 86), (1, .int p1), (2, .int p2), (3, .int q5), (4, .int (v4 + (1 : Int32)))]) rfl ?_
      refine g_goto (off := (-31)) (tgt := 15) (by decide +kernel) (by decide) ?_
      exact am_G.forget (am_subp [0, 1, 2, 3, 4] rfl) (ih _ _ _ _ hs hf kont)
def f_Ahead_spotsIn (p1 : Int32) (p2 : Int32) (h : am_H) : Option (Int32) :=
  (am_rd (h.2.1 12) 5 p1).bind fun x1 =>
  (f_Ahead_spotsIn_L15 p1 p2 am_fu ((1 : Int32) <<< (x1 &&& 31)) (0 : Int32) h).bind fun q6 =>
  some q6.1
set_option maxRecDepth 100000 in
set_option maxHeartbeats 4000000 in
theorem t_Ahead_spotsIn {p1 : Int32} {p2 : Int32} {h : am_H} (hs : am_Sh h)  {r : Int32} (hf : f_Ahead_spotsIn p1 p2 h = some r) : am_Ct 2 M_Ahead_spotsIn [.ref 86, .int p1, .int p2] h 0 0 (am_pI h r) := by
  unfold f_Ahead_spotsIn at hf
  refine am_Ct.of (by decide) rfl (Nat.le_of_ble_eq_true rfl) (ls := [(0, .ref 86), (1, .int p1), (2, .int p2)]) rfl ?_
  refine g_iconst (z := 1) (v := 1) (by decide +kernel) rfl ?_
  refine g_aload_n (i := 0) (by decide +kernel) rfl ?_
  refine x_getr (hs.k k_86) F_Ahead_29 (by decide +kernel) rfl (hs.r r_86_1) ?_
  refine x_getr (hs.k k_10) F_Ahead_55 (by decide +kernel) rfl (hs.r r_10_4) ?_
  refine g_iload_n (i := 1) (by decide +kernel) rfl ?_
  refine x_iald hf (hs.k k_12) (by decide +kernel) (fun x1 hf => ?_)
  refine g_ishl (by decide +kernel) ?_
  refine g_istore_n (i := 3) (by decide +kernel) rfl (by decide) (ls1 := [(0, .ref 86), (1, .int p1), (2, .int p2), (3, .int ((1 : Int32) <<< (x1 &&& 31)))]) rfl ?_
  refine g_iconst (z := 0) (v := 0) (by decide +kernel) rfl ?_
  refine g_istore (i := 4) (by decide +kernel) rfl (by decide) (ls1 := [(0, .ref 86), (1, .int p1), (2, .int p2), (3, .int ((1 : Int32) <<< (x1 &&& 31))), (4, .int (0 : Int32))]) rfl ?_
  obtain ⟨q6, hqq6, hf⟩ := Option.bind_eq_some_iff.mp hf
  refine am_G.forget (am_subp [0, 1, 2, 3, 4] rfl) (t_Ahead_spotsIn_L15  am_fu _ _ _ q6 hs hqq6 ?_)
  refine g_iload_n (i := 3) (by decide +kernel) rfl ?_
  exact x_iretp hf (by decide +kernel) rfl (Nat.le_refl _) (Nat.le_refl _)
def f_Top_reach (p1 : Int32) (p2 : Int32) (h : am_H) : Option (Int32) :=
  (f_River_hasPerson 1 p1 h).bind fun q1 =>
  (if q1 = true then
    (if p2 < 0 then
      some (-3 : Int32)
    else
      (if p2 ≤ (60 : Int32) then
        (f_Ahead_spotsIn p1 p2 h).bind fun q5 =>
        some q5
      else
        some (-3 : Int32)))
  else
    some (-2 : Int32))
set_option maxRecDepth 100000 in
set_option maxHeartbeats 4000000 in
theorem t_Top_reach {p1 : Int32} {p2 : Int32} {h : am_H} (hs : am_Sh h)  {r : Int32} (hf : f_Top_reach p1 p2 h = some r) : am_Ct 3 M_Top_reach [.ref 0, .int p1, .int p2] h 0 0 (am_pI h r) := by
  unfold f_Top_reach at hf
  refine am_Ct.of (by decide) rfl (Nat.le_of_ble_eq_true rfl) (ls := [(0, .ref 0), (1, .int p1), (2, .int p2)]) rfl ?_
  refine g_aload_n (i := 0) (by decide +kernel) rfl ?_
  refine x_getr (hs.k k_0) F_Top_10 (by decide +kernel) rfl (hs.r r_0_0) ?_
  refine g_iload_n (i := 1) (by decide +kernel) rfl ?_
  refine x_callVBp (as := [.int p1]) Vi_River_hasPerson Vs_River_hasPerson (hs.k k_1) rfl hf (fun q hq => t_River_hasPerson hs (by decide) hq) Y_River_hasPerson L_Top_140 (by decide +kernel) rfl rfl (Nat.le_of_ble_eq_true rfl) (by decide) (Nat.le_refl _) (Nat.le_refl _) (fun q1 hf => ?_)
  refine x_ifb_ne (off := 6) (tgt := 14) hf (by decide +kernel) (by decide) (fun c2 hf => ?_) (fun c2 hf => ?_)
  · refine g_iload_n (i := 2) (by decide +kernel) rfl ?_
    refine x_if_lt (off := 9) (tgt := 24) hf (by decide +kernel) (by decide) (fun c3 hf => ?_) (fun c3 hf => ?_)
    · refine g_bipush (z := (-3)) (v := (-3)) (by decide +kernel) rfl ?_
      exact x_iretp hf (by decide +kernel) rfl (Nat.le_refl _) (Nat.le_refl _)
    · refine g_iload_n (i := 2) (by decide +kernel) rfl ?_
      refine g_bipush (z := 60) (v := 60) (by decide +kernel) rfl ?_
      refine x_icmp_le (off := 6) (tgt := 27) hf (by decide +kernel) (by decide) (fun c4 hf => ?_) (fun c4 hf => ?_)
      · refine g_aload_n (i := 0) (by decide +kernel) rfl ?_
        refine x_getr (hs.k k_0) F_Top_63 (by decide +kernel) rfl (hs.r r_0_9) ?_
        refine g_iload_n (i := 1) (by decide +kernel) rfl ?_
        refine g_iload_n (i := 2) (by decide +kernel) rfl ?_
        refine x_callVIp (as := [.int p1, .int p2]) Vi_Ahead_spotsIn Vs_Ahead_spotsIn (hs.k k_86) rfl hf (fun q hq => t_Ahead_spotsIn hs  hq) Y_Ahead_spotsIn L_Top_251 (by decide +kernel) rfl rfl (Nat.le_of_ble_eq_true rfl) (by decide) (Nat.le_refl _) (Nat.le_refl _) (fun q5 hf => ?_)
        exact x_iretp hf (by decide +kernel) rfl (Nat.le_refl _) (Nat.le_refl _)
      · refine g_bipush (z := (-3)) (v := (-3)) (by decide +kernel) rfl ?_
        exact x_iretp hf (by decide +kernel) rfl (Nat.le_refl _) (Nat.le_refl _)
  · refine g_bipush (z := (-2)) (v := (-2)) (by decide +kernel) rfl ?_
    exact x_iretp hf (by decide +kernel) rfl (Nat.le_refl _) (Nat.le_refl _)
def f_Ahead_hoursToMeet_L28 (p1 : Int32) (p2 : Int32) : Nat → Int32 → Int32 → Int32 → am_H → Option (Int32)
  | 0, _, _, _, _ => none
  | n + 1, v3, v4, v5, h =>
    (if (60 : Int32) < v5 then
      some (-1 : Int32)
    else
      (if (v3 &&& v4) = 0 then
        (f_Ahead_rowIn p1 v5 h).bind fun q5 =>
        (f_Ahead_liesIn v5 h).bind fun q6 =>
        (f_River_spread 1 q5 v3 q6 h).bind fun q7 =>
        (f_Ahead_rowIn p2 v5 h).bind fun q8 =>
        (f_Ahead_liesIn v5 h).bind fun q9 =>
        (f_River_spread 1 q8 v4 q9 h).bind fun q10 =>
        f_Ahead_hoursToMeet_L28 p1 p2 n q7 q10 (v5 + (1 : Int32)) h
      else
        some v5))
set_option maxRecDepth 100000 in
set_option maxHeartbeats 4000000 in
theorem t_Ahead_hoursToMeet_L28 {p1 : Int32} {p2 : Int32}  : ∀ (n : Nat) (v3 : Int32) (v4 : Int32) (v5 : Int32) (h : am_H) (r : Int32), am_Sh h → f_Ahead_hoursToMeet_L28 p1 p2 n v3 v4 v5 h = some r → am_G 2 M_Ahead_hoursToMeet 0 0 (am_pI h r) 28 [(0, .ref 86), (1, .int p1), (2, .int p2), (3, .int v3), (4, .int v4), (5, .int v5)] [] h 0 0 := by
  intro n
  induction n with
  | zero =>
    intro v3 v4 v5 h r hs hf
    rw [f_Ahead_hoursToMeet_L28] at hf
    cases hf
  | succ n ih =>
    intro v3 v4 v5 h r hs hf
    rw [f_Ahead_hoursToMeet_L28] at hf
    refine g_iload (i := 5) (by decide +kernel) rfl ?_
    refine g_bipush (z := 60) (v := 60) (by decide +kernel) rfl ?_
    refine x_icmp_gt (off := 65) (tgt := 97) hf (by decide +kernel) (by decide) (fun c3 hf => ?_) (fun c3 hf => ?_)
    · refine g_iconst (z := (-1)) (v := (-1)) (by decide +kernel) rfl ?_
      exact x_iretp hf (by decide +kernel) rfl (Nat.le_refl _) (Nat.le_refl _)
    · refine g_iload_n (i := 3) (by decide +kernel) rfl ?_
      refine g_iload (i := 4) (by decide +kernel) rfl ?_
      refine g_iand (by decide +kernel) ?_
      refine x_if_eq (off := 6) (tgt := 45) hf (by decide +kernel) (by decide) (fun c4 hf => ?_) (fun c4 hf => ?_)
      · refine g_aload_n (i := 0) (by decide +kernel) rfl ?_
        refine x_getr (hs.k k_86) F_Ahead_25 (by decide +kernel) rfl (hs.r r_86_0) ?_
        refine g_aload_n (i := 0) (by decide +kernel) rfl ?_
        refine g_iload_n (i := 1) (by decide +kernel) rfl ?_
        refine g_iload (i := 5) (by decide +kernel) rfl ?_
        refine x_callVIp (as := [.int p1, .int v5]) Vi_Ahead_rowIn Vs_Ahead_rowIn (hs.k k_86) rfl hf (fun q hq => t_Ahead_rowIn hs  hq) Y_Ahead_rowIn L_Ahead_69 (by decide +kernel) rfl rfl (Nat.le_of_ble_eq_true rfl) (by decide) (Nat.le_refl _) (Nat.le_refl _) (fun q5 hf => ?_)
        refine g_iload_n (i := 3) (by decide +kernel) rfl ?_
        refine g_aload_n (i := 0) (by decide +kernel) rfl ?_
        refine g_iload (i := 5) (by decide +kernel) rfl ?_
        refine x_callVIp (as := [.int v5]) Vi_Ahead_liesIn Vs_Ahead_liesIn (hs.k k_86) rfl hf (fun q hq => t_Ahead_liesIn hs  hq) Y_Ahead_liesIn L_Ahead_73 (by decide +kernel) rfl rfl (Nat.le_of_ble_eq_true rfl) (by decide) (Nat.le_refl _) (Nat.le_refl _) (fun q6 hf => ?_)
        refine x_callVIp (as := [.int q5, .int v3, .int q6]) Vi_River_spread Vs_River_spread (hs.k k_1) rfl hf (fun q hq => t_River_spread hs (by decide) hq) Y_River_spread L_Ahead_62 (by decide +kernel) rfl rfl (Nat.le_of_ble_eq_true rfl) (by decide) (Nat.le_refl _) (Nat.le_refl _) (fun q7 hf => ?_)
        refine g_istore_n (i := 3) (by decide +kernel) rfl (by decide) (ls1 := [(0, .ref 86), (1, .int p1), (2, .int p2), (3, .int q7), (4, .int v4), (5, .int v5)]) rfl ?_
        refine g_aload_n (i := 0) (by decide +kernel) rfl ?_
        refine x_getr (hs.k k_86) F_Ahead_25 (by decide +kernel) rfl (hs.r r_86_0) ?_
        refine g_aload_n (i := 0) (by decide +kernel) rfl ?_
        refine g_iload_n (i := 2) (by decide +kernel) rfl ?_
        refine g_iload (i := 5) (by decide +kernel) rfl ?_
        refine x_callVIp (as := [.int p2, .int v5]) Vi_Ahead_rowIn Vs_Ahead_rowIn (hs.k k_86) rfl hf (fun q hq => t_Ahead_rowIn hs  hq) Y_Ahead_rowIn L_Ahead_69 (by decide +kernel) rfl rfl (Nat.le_of_ble_eq_true rfl) (by decide) (Nat.le_refl _) (Nat.le_refl _) (fun q8 hf => ?_)
        refine g_iload (i := 4) (by decide +kernel) rfl ?_
        refine g_aload_n (i := 0) (by decide +kernel) rfl ?_
        refine g_iload (i := 5) (by decide +kernel) rfl ?_
        refine x_callVIp (as := [.int v5]) Vi_Ahead_liesIn Vs_Ahead_liesIn (hs.k k_86) rfl hf (fun q hq => t_Ahead_liesIn hs  hq) Y_Ahead_liesIn L_Ahead_73 (by decide +kernel) rfl rfl (Nat.le_of_ble_eq_true rfl) (by decide) (Nat.le_refl _) (Nat.le_refl _) (fun q9 hf => ?_)
        refine x_callVIp (as := [.int q8, .int v4, .int q9]) Vi_River_spread Vs_River_spread (hs.k k_1) rfl hf (fun q hq => t_River_spread hs (by decide) hq) Y_River_spread L_Ahead_62 (by decide +kernel) rfl rfl (Nat.le_of_ble_eq_true rfl) (by decide) (Nat.le_refl _) (Nat.le_refl _) (fun q10 hf => ?_)
        refine g_istore (i := 4) (by decide +kernel) rfl (by decide) (ls1 := [(0, .ref 86), (1, .int p1), (2, .int p2), (3, .int q7), (4, .int q10), (5, .int v5)]) rfl ?_
        refine g_iinc (i := 5) (z := 1) (v := (v5 + (1 : Int32))) (by decide +kernel) rfl rfl rfl (by decide) (ls1 := [(0, .ref 86), (1, .int p1), (2, .int p2), (3, .int q7), (4, .int q10), (5, .int (v5 + (1 : Int32)))]) rfl ?_
        refine g_goto (off := (-66)) (tgt := 28) (by decide +kernel) (by decide) ?_
        exact am_G.forget (am_subp [0, 1, 2, 3, 4, 5] rfl) (ih _ _ _ _ _ hs hf)
      · refine g_iload (i := 5) (by decide +kernel) rfl ?_
        exact x_iretp hf (by decide +kernel) rfl (Nat.le_refl _) (Nat.le_refl _)
def f_Ahead_hoursToMeet (p1 : Int32) (p2 : Int32) (h : am_H) : Option (Int32) :=
  (am_rd (h.2.1 12) 5 p1).bind fun x1 =>
  (am_rd (h.2.1 12) 5 p2).bind fun x2 =>
  f_Ahead_hoursToMeet_L28 p1 p2 am_fu ((1 : Int32) <<< (x1 &&& 31)) ((1 : Int32) <<< (x2 &&& 31)) (0 : Int32) h
set_option maxRecDepth 100000 in
set_option maxHeartbeats 4000000 in
theorem t_Ahead_hoursToMeet {p1 : Int32} {p2 : Int32} {h : am_H} (hs : am_Sh h)  {r : Int32} (hf : f_Ahead_hoursToMeet p1 p2 h = some r) : am_Ct 2 M_Ahead_hoursToMeet [.ref 86, .int p1, .int p2] h 0 0 (am_pI h r) := by
  unfold f_Ahead_hoursToMeet at hf
  refine am_Ct.of (by decide) rfl (Nat.le_of_ble_eq_true rfl) (ls := [(0, .ref 86), (1, .int p1), (2, .int p2)]) rfl ?_
  refine g_iconst (z := 1) (v := 1) (by decide +kernel) rfl ?_
  refine g_aload_n (i := 0) (by decide +kernel) rfl ?_
  refine x_getr (hs.k k_86) F_Ahead_29 (by decide +kernel) rfl (hs.r r_86_1) ?_
  refine x_getr (hs.k k_10) F_Ahead_55 (by decide +kernel) rfl (hs.r r_10_4) ?_
  refine g_iload_n (i := 1) (by decide +kernel) rfl ?_
  refine x_iald hf (hs.k k_12) (by decide +kernel) (fun x1 hf => ?_)
  refine g_ishl (by decide +kernel) ?_
  refine g_istore_n (i := 3) (by decide +kernel) rfl (by decide) (ls1 := [(0, .ref 86), (1, .int p1), (2, .int p2), (3, .int ((1 : Int32) <<< (x1 &&& 31)))]) rfl ?_
  refine g_iconst (z := 1) (v := 1) (by decide +kernel) rfl ?_
  refine g_aload_n (i := 0) (by decide +kernel) rfl ?_
  refine x_getr (hs.k k_86) F_Ahead_29 (by decide +kernel) rfl (hs.r r_86_1) ?_
  refine x_getr (hs.k k_10) F_Ahead_55 (by decide +kernel) rfl (hs.r r_10_4) ?_
  refine g_iload_n (i := 2) (by decide +kernel) rfl ?_
  refine x_iald hf (hs.k k_12) (by decide +kernel) (fun x2 hf => ?_)
  refine g_ishl (by decide +kernel) ?_
  refine g_istore (i := 4) (by decide +kernel) rfl (by decide) (ls1 := [(0, .ref 86), (1, .int p1), (2, .int p2), (3, .int ((1 : Int32) <<< (x1 &&& 31))), (4, .int ((1 : Int32) <<< (x2 &&& 31)))]) rfl ?_
  refine g_iconst (z := 0) (v := 0) (by decide +kernel) rfl ?_
  refine g_istore (i := 5) (by decide +kernel) rfl (by decide) (ls1 := [(0, .ref 86), (1, .int p1), (2, .int p2), (3, .int ((1 : Int32) <<< (x1 &&& 31))), (4, .int ((1 : Int32) <<< (x2 &&& 31))), (5, .int (0 : Int32))]) rfl ?_
  exact am_G.forget (am_subp [0, 1, 2, 3, 4, 5] rfl) (t_Ahead_hoursToMeet_L28  am_fu _ _ _ _ _ hs hf)
def f_Top_meet (p1 : Int32) (p2 : Int32) (h : am_H) : Option (Int32) :=
  (f_River_hasPerson 1 p1 h).bind fun q1 =>
  (if q1 = true then
    (f_River_hasPerson 1 p2 h).bind fun q3 =>
    (if q3 = true then
      (if p1 = p2 then
        some (-2 : Int32)
      else
        (f_Ahead_hoursToMeet p1 p2 h).bind fun q6 =>
        some q6)
    else
      some (-2 : Int32))
  else
    some (-2 : Int32))
set_option maxRecDepth 100000 in
set_option maxHeartbeats 4000000 in
theorem t_Top_meet {p1 : Int32} {p2 : Int32} {h : am_H} (hs : am_Sh h)  {r : Int32} (hf : f_Top_meet p1 p2 h = some r) : am_Ct 3 M_Top_meet [.ref 0, .int p1, .int p2] h 0 0 (am_pI h r) := by
  unfold f_Top_meet at hf
  refine am_Ct.of (by decide) rfl (Nat.le_of_ble_eq_true rfl) (ls := [(0, .ref 0), (1, .int p1), (2, .int p2)]) rfl ?_
  refine g_aload_n (i := 0) (by decide +kernel) rfl ?_
  refine x_getr (hs.k k_0) F_Top_10 (by decide +kernel) rfl (hs.r r_0_0) ?_
  refine g_iload_n (i := 1) (by decide +kernel) rfl ?_
  refine x_callVBp (as := [.int p1]) Vi_River_hasPerson Vs_River_hasPerson (hs.k k_1) rfl hf (fun q hq => t_River_hasPerson hs (by decide) hq) Y_River_hasPerson L_Top_140 (by decide +kernel) rfl rfl (Nat.le_of_ble_eq_true rfl) (by decide) (Nat.le_refl _) (Nat.le_refl _) (fun q1 hf => ?_)
  refine x_ifb_eq (off := 19) (tgt := 27) hf (by decide +kernel) (by decide) (fun c2 hf => ?_) (fun c2 hf => ?_)
  · refine g_bipush (z := (-2)) (v := (-2)) (by decide +kernel) rfl ?_
    exact x_iretp hf (by decide +kernel) rfl (Nat.le_refl _) (Nat.le_refl _)
  · refine g_aload_n (i := 0) (by decide +kernel) rfl ?_
    refine x_getr (hs.k k_0) F_Top_10 (by decide +kernel) rfl (hs.r r_0_0) ?_
    refine g_iload_n (i := 2) (by decide +kernel) rfl ?_
    refine x_callVBp (as := [.int p2]) Vi_River_hasPerson Vs_River_hasPerson (hs.k k_1) rfl hf (fun q hq => t_River_hasPerson hs (by decide) hq) Y_River_hasPerson L_Top_140 (by decide +kernel) rfl rfl (Nat.le_of_ble_eq_true rfl) (by decide) (Nat.le_refl _) (Nat.le_refl _) (fun q3 hf => ?_)
    refine x_ifb_eq (off := 8) (tgt := 27) hf (by decide +kernel) (by decide) (fun c4 hf => ?_) (fun c4 hf => ?_)
    · refine g_bipush (z := (-2)) (v := (-2)) (by decide +kernel) rfl ?_
      exact x_iretp hf (by decide +kernel) rfl (Nat.le_refl _) (Nat.le_refl _)
    · refine g_iload_n (i := 1) (by decide +kernel) rfl ?_
      refine g_iload_n (i := 2) (by decide +kernel) rfl ?_
      refine x_icmp_ne (off := 6) (tgt := 30) hf (by decide +kernel) (by decide) (fun c5 hf => ?_) (fun c5 hf => ?_)
      · refine g_aload_n (i := 0) (by decide +kernel) rfl ?_
        refine x_getr (hs.k k_0) F_Top_63 (by decide +kernel) rfl (hs.r r_0_9) ?_
        refine g_iload_n (i := 1) (by decide +kernel) rfl ?_
        refine g_iload_n (i := 2) (by decide +kernel) rfl ?_
        refine x_callVIp (as := [.int p1, .int p2]) Vi_Ahead_hoursToMeet Vs_Ahead_hoursToMeet (hs.k k_86) rfl hf (fun q hq => t_Ahead_hoursToMeet hs  hq) Y_Ahead_hoursToMeet L_Top_254 (by decide +kernel) rfl rfl (Nat.le_of_ble_eq_true rfl) (by decide) (Nat.le_refl _) (Nat.le_refl _) (fun q6 hf => ?_)
        exact x_iretp hf (by decide +kernel) rfl (Nat.le_refl _) (Nat.le_refl _)
      · refine g_bipush (z := (-2)) (v := (-2)) (by decide +kernel) rfl ?_
        exact x_iretp hf (by decide +kernel) rfl (Nat.le_refl _) (Nat.le_refl _)
def f_Top_meetAt (p1 : Int32) (p2 : Int32) (h : am_H) : Option (Int32) :=
  (f_River_hasPerson 1 p1 h).bind fun q1 =>
  (if q1 = true then
    (f_River_hasPerson 1 p2 h).bind fun q3 =>
    (if q3 = true then
      (if p1 = p2 then
        some (-2 : Int32)
      else
        (f_Ahead_hoursToMeet p1 p2 h).bind fun q6 =>
        (if q6 = (-1 : Int32) then
          some (-1 : Int32)
        else
          (f_Ahead_spotsIn p1 q6 h).bind fun q8 =>
          (f_Ahead_spotsIn p2 q6 h).bind fun q9 =>
          (f_Integer_numberOfTrailingZeros (q8 &&& q9) h).bind fun q10 =>
          some q10))
    else
      some (-2 : Int32))
  else
    some (-2 : Int32))
set_option maxRecDepth 100000 in
set_option maxHeartbeats 4000000 in
theorem t_Top_meetAt {p1 : Int32} {p2 : Int32} {h : am_H} (hs : am_Sh h)  {r : Int32} (hf : f_Top_meetAt p1 p2 h = some r) : am_Ct 3 M_Top_meetAt [.ref 0, .int p1, .int p2] h 0 0 (am_pI h r) := by
  unfold f_Top_meetAt at hf
  refine am_Ct.of (by decide) rfl (Nat.le_of_ble_eq_true rfl) (ls := [(0, .ref 0), (1, .int p1), (2, .int p2)]) rfl ?_
  refine g_aload_n (i := 0) (by decide +kernel) rfl ?_
  refine x_getr (hs.k k_0) F_Top_10 (by decide +kernel) rfl (hs.r r_0_0) ?_
  refine g_iload_n (i := 1) (by decide +kernel) rfl ?_
  refine x_callVBp (as := [.int p1]) Vi_River_hasPerson Vs_River_hasPerson (hs.k k_1) rfl hf (fun q hq => t_River_hasPerson hs (by decide) hq) Y_River_hasPerson L_Top_140 (by decide +kernel) rfl rfl (Nat.le_of_ble_eq_true rfl) (by decide) (Nat.le_refl _) (Nat.le_refl _) (fun q1 hf => ?_)
  refine x_ifb_eq (off := 19) (tgt := 27) hf (by decide +kernel) (by decide) (fun c2 hf => ?_) (fun c2 hf => ?_)
  · refine g_bipush (z := (-2)) (v := (-2)) (by decide +kernel) rfl ?_
    exact x_iretp hf (by decide +kernel) rfl (Nat.le_refl _) (Nat.le_refl _)
  · refine g_aload_n (i := 0) (by decide +kernel) rfl ?_
    refine x_getr (hs.k k_0) F_Top_10 (by decide +kernel) rfl (hs.r r_0_0) ?_
    refine g_iload_n (i := 2) (by decide +kernel) rfl ?_
    refine x_callVBp (as := [.int p2]) Vi_River_hasPerson Vs_River_hasPerson (hs.k k_1) rfl hf (fun q hq => t_River_hasPerson hs (by decide) hq) Y_River_hasPerson L_Top_140 (by decide +kernel) rfl rfl (Nat.le_of_ble_eq_true rfl) (by decide) (Nat.le_refl _) (Nat.le_refl _) (fun q3 hf => ?_)
    refine x_ifb_eq (off := 8) (tgt := 27) hf (by decide +kernel) (by decide) (fun c4 hf => ?_) (fun c4 hf => ?_)
    · refine g_bipush (z := (-2)) (v := (-2)) (by decide +kernel) rfl ?_
      exact x_iretp hf (by decide +kernel) rfl (Nat.le_refl _) (Nat.le_refl _)
    · refine g_iload_n (i := 1) (by decide +kernel) rfl ?_
      refine g_iload_n (i := 2) (by decide +kernel) rfl ?_
      refine x_icmp_ne (off := 6) (tgt := 30) hf (by decide +kernel) (by decide) (fun c5 hf => ?_) (fun c5 hf => ?_)
      · refine g_aload_n (i := 0) (by decide +kernel) rfl ?_
        refine x_getr (hs.k k_0) F_Top_63 (by decide +kernel) rfl (hs.r r_0_9) ?_
        refine g_iload_n (i := 1) (by decide +kernel) rfl ?_
        refine g_iload_n (i := 2) (by decide +kernel) rfl ?_
        refine x_callVIp (as := [.int p1, .int p2]) Vi_Ahead_hoursToMeet Vs_Ahead_hoursToMeet (hs.k k_86) rfl hf (fun q hq => t_Ahead_hoursToMeet hs  hq) Y_Ahead_hoursToMeet L_Top_254 (by decide +kernel) rfl rfl (Nat.le_of_ble_eq_true rfl) (by decide) (Nat.le_refl _) (Nat.le_refl _) (fun q6 hf => ?_)
        refine g_istore_n (i := 3) (by decide +kernel) rfl (by decide) (ls1 := [(0, .ref 0), (1, .int p1), (2, .int p2), (3, .int q6)]) rfl ?_
        refine g_iload_n (i := 3) (by decide +kernel) rfl ?_
        refine g_iconst (z := (-1)) (v := (-1)) (by decide +kernel) rfl ?_
        refine x_icmp_ne (off := 5) (tgt := 47) hf (by decide +kernel) (by decide) (fun c7 hf => ?_) (fun c7 hf => ?_)
        · refine g_aload_n (i := 0) (by decide +kernel) rfl ?_
          refine x_getr (hs.k k_0) F_Top_63 (by decide +kernel) rfl (hs.r r_0_9) ?_
          refine g_iload_n (i := 1) (by decide +kernel) rfl ?_
          refine g_iload_n (i := 3) (by decide +kernel) rfl ?_
          refine x_callVIp (as := [.int p1, .int q6]) Vi_Ahead_spotsIn Vs_Ahead_spotsIn (hs.k k_86) rfl hf (fun q hq => t_Ahead_spotsIn hs  hq) Y_Ahead_spotsIn L_Top_251 (by decide +kernel) rfl rfl (Nat.le_of_ble_eq_true rfl) (by decide) (Nat.le_refl _) (Nat.le_refl _) (fun q8 hf => ?_)
          refine g_aload_n (i := 0) (by decide +kernel) rfl ?_
          refine x_getr (hs.k k_0) F_Top_63 (by decide +kernel) rfl (hs.r r_0_9) ?_
          refine g_iload_n (i := 2) (by decide +kernel) rfl ?_
          refine g_iload_n (i := 3) (by decide +kernel) rfl ?_
          refine x_callVIp (as := [.int p2, .int q6]) Vi_Ahead_spotsIn Vs_Ahead_spotsIn (hs.k k_86) rfl hf (fun q hq => t_Ahead_spotsIn hs  hq) Y_Ahead_spotsIn L_Top_251 (by decide +kernel) rfl rfl (Nat.le_of_ble_eq_true rfl) (by decide) (Nat.le_refl _) (Nat.le_refl _) (fun q9 hf => ?_)
          refine g_iand (by decide +kernel) ?_
          refine x_callSIp (as := [.int (q8 &&& q9)]) St_Integer_numberOfTrailingZeros hf (fun q hq => t_Integer_numberOfTrailingZeros hs  hq) Y_Integer_numberOfTrailingZeros L_Top_257 (by decide +kernel) rfl rfl (Nat.le_of_ble_eq_true rfl) (by decide) (Nat.le_refl _) (Nat.le_refl _) (fun q10 hf => ?_)
          exact x_iretp hf (by decide +kernel) rfl (Nat.le_refl _) (Nat.le_refl _)
        · refine g_iconst (z := (-1)) (v := (-1)) (by decide +kernel) rfl ?_
          exact x_iretp hf (by decide +kernel) rfl (Nat.le_refl _) (Nat.le_refl _)
      · refine g_bipush (z := (-2)) (v := (-2)) (by decide +kernel) rfl ?_
        exact x_iretp hf (by decide +kernel) rfl (Nat.le_refl _) (Nat.le_refl _)
def f_Weeks_hasErrand (p1 : Int32) (h : am_H) : Option (Bool) :=
  (am_rd (h.2.1 5) 5 p1).bind fun x1 =>
  (if x1 = (-1 : Int32) then
    some false
  else
    some true)
set_option maxRecDepth 100000 in
set_option maxHeartbeats 4000000 in
theorem t_Weeks_hasErrand {p1 : Int32} {h : am_H} (hs : am_Sh h)  {r : Bool} (hf : f_Weeks_hasErrand p1 h = some r) : am_Ct 0 M_Weeks_hasErrand [.ref 91, .int p1] h 0 0 (am_pB h r) := by
  unfold f_Weeks_hasErrand at hf
  refine am_Ct.of (by decide) rfl (Nat.le_of_ble_eq_true rfl) (ls := [(0, .ref 91), (1, .int p1)]) rfl ?_
  refine g_aload_n (i := 0) (by decide +kernel) rfl ?_
  refine x_getr (hs.k k_91) F_Weeks_50 (by decide +kernel) rfl (hs.r r_91_0) ?_
  refine x_getr (hs.k k_1) F_Weeks_62 (by decide +kernel) rfl (hs.r r_1_9) ?_
  refine g_iload_n (i := 1) (by decide +kernel) rfl ?_
  refine x_iald hf (hs.k k_5) (by decide +kernel) (fun x1 hf => ?_)
  refine g_iconst (z := (-1)) (v := (-1)) (by decide +kernel) rfl ?_
  refine x_icmp_eq (off := 7) (tgt := 17) hf (by decide +kernel) (by decide) (fun c2 hf => ?_) (fun c2 hf => ?_)
  · refine g_iconst (z := 0) (v := 0) (by decide +kernel) rfl ?_
    exact x_zretp rfl hf (by decide +kernel) rfl (Nat.le_refl _) (Nat.le_refl _)
  · refine g_iconst (z := 1) (v := 1) (by decide +kernel) rfl ?_
    refine g_goto (off := 4) (tgt := 18) (by decide +kernel) (by decide) ?_
    exact x_zretp rfl hf (by decide +kernel) rfl (Nat.le_refl _) (Nat.le_refl _)
def f_Weeks_isDone (p1 : Int32) (h : am_H) : Option (Bool) :=
  (f_Top_hasBit (h.2.1 10 2) p1 h).bind fun q1 =>
  some q1
set_option maxRecDepth 100000 in
set_option maxHeartbeats 4000000 in
theorem t_Weeks_isDone {p1 : Int32} {h : am_H} (hs : am_Sh h)  {r : Bool} (hf : f_Weeks_isDone p1 h = some r) : am_Ct 1 M_Weeks_isDone [.ref 91, .int p1] h 0 0 (am_pB h r) := by
  unfold f_Weeks_isDone at hf
  refine am_Ct.of (by decide) rfl (Nat.le_of_ble_eq_true rfl) (ls := [(0, .ref 91), (1, .int p1)]) rfl ?_
  refine g_aload_n (i := 0) (by decide +kernel) rfl ?_
  refine x_getr (hs.k k_91) F_Weeks_54 (by decide +kernel) rfl (hs.r r_91_1) ?_
  refine x_geti (hs.k k_10) F_Weeks_67 (by decide +kernel) rfl ?_
  refine g_iload_n (i := 1) (by decide +kernel) rfl ?_
  refine x_callSNBp (as := [.int (h.2.1 10 2), .int p1]) St_Top_hasBit hf (fun q hq => t_Top_hasBit hs  hq) Y_Top_hasBit L_Weeks_72 (by decide +kernel) rfl rfl (Nat.le_of_ble_eq_true rfl) (by decide) (Nat.le_refl _) (Nat.le_refl _) (fun q1 hf => ?_)
  exact x_zretp rfl hf (by decide +kernel) rfl (Nat.le_refl _) (Nat.le_refl _)
def f_Weeks_hoursLeft (p1 : Int32) (h : am_H) : Option (Int32) :=
  (am_rd (h.2.1 6) 5 p1).bind fun x1 =>
  some (if (x1 - (h.2.1 10 0)) < (60 : Int32) then (x1 - (h.2.1 10 0)) else (60 : Int32))
set_option maxRecDepth 100000 in
set_option maxHeartbeats 4000000 in
theorem t_Weeks_hoursLeft {p1 : Int32} {h : am_H} (hs : am_Sh h)  {r : Int32} (hf : f_Weeks_hoursLeft p1 h = some r) : am_Ct 1 M_Weeks_hoursLeft [.ref 91, .int p1] h 0 0 (am_pI h r) := by
  unfold f_Weeks_hoursLeft at hf
  refine am_Ct.of (by decide) rfl (Nat.le_of_ble_eq_true rfl) (ls := [(0, .ref 91), (1, .int p1)]) rfl ?_
  refine g_bipush (z := 60) (v := 60) (by decide +kernel) rfl ?_
  refine g_aload_n (i := 0) (by decide +kernel) rfl ?_
  refine x_getr (hs.k k_91) F_Weeks_50 (by decide +kernel) rfl (hs.r r_91_0) ?_
  refine x_getr (hs.k k_1) F_Weeks_76 (by decide +kernel) rfl (hs.r r_1_10) ?_
  refine g_iload_n (i := 1) (by decide +kernel) rfl ?_
  refine x_iald hf (hs.k k_6) (by decide +kernel) (fun x1 hf => ?_)
  refine g_aload_n (i := 0) (by decide +kernel) rfl ?_
  refine x_getr (hs.k k_91) F_Weeks_54 (by decide +kernel) rfl (hs.r r_91_1) ?_
  refine x_geti (hs.k k_10) F_Weeks_79 (by decide +kernel) rfl ?_
  refine g_isub (by decide +kernel) ?_
  refine g_mmin L_Weeks_82 (by decide +kernel) (by decide) (Nat.le_refl _) (Nat.le_refl _) (Nat.le_of_ble_eq_true rfl) ?_
  exact x_iretp hf (by decide +kernel) rfl (Nat.le_refl _) (Nat.le_refl _)
def f_Weeks_comes (p1 : Int32) (p2 : Nat) (p2L : Nat) (h : am_H) : Option (Bool) :=
  (am_rd (h.2.1 12) 5 p1).bind fun x1 =>
  (am_rd (h.2.1 5) 5 p1).bind fun x2 =>
  (f_Weeks_hoursLeft p1 h).bind fun q3 =>
  (f_Ahead_hoursFrom p1 ((1 : Int32) <<< (x1 &&& 31)) x2 p2 p2L (0 : Int32) q3 h).bind fun q4 =>
  (if q4 = (-1 : Int32) then
    some false
  else
    some true)
set_option maxRecDepth 100000 in
set_option maxHeartbeats 4000000 in
theorem t_Weeks_comes {p1 : Int32} {p2 : Nat} {p2L : Nat} {h : am_H} (hs : am_Sh h) (hp2 : am_K0[p2]? = some (.inr (.int, p2L))) {r : Bool} (hf : f_Weeks_comes p1 p2 p2L h = some r) : am_Ct 3 M_Weeks_comes [.ref 91, .int p1, .ref p2] h 0 0 (am_pB h r) := by
  unfold f_Weeks_comes at hf
  refine am_Ct.of (by decide) rfl (Nat.le_of_ble_eq_true rfl) (ls := [(0, .ref 91), (1, .int p1), (2, .ref p2)]) rfl ?_
  refine g_aload_n (i := 0) (by decide +kernel) rfl ?_
  refine x_getr (hs.k k_91) F_Weeks_58 (by decide +kernel) rfl (hs.r r_91_2) ?_
  refine g_iload_n (i := 1) (by decide +kernel) rfl ?_
  refine g_iconst (z := 1) (v := 1) (by decide +kernel) rfl ?_
  refine g_aload_n (i := 0) (by decide +kernel) rfl ?_
  refine x_getr (hs.k k_91) F_Weeks_54 (by decide +kernel) rfl (hs.r r_91_1) ?_
  refine x_getr (hs.k k_10) F_Weeks_88 (by decide +kernel) rfl (hs.r r_10_4) ?_
  refine g_iload_n (i := 1) (by decide +kernel) rfl ?_
  refine x_iald hf (hs.k k_12) (by decide +kernel) (fun x1 hf => ?_)
  refine g_ishl (by decide +kernel) ?_
  refine g_aload_n (i := 0) (by decide +kernel) rfl ?_
  refine x_getr (hs.k k_91) F_Weeks_50 (by decide +kernel) rfl (hs.r r_91_0) ?_
  refine x_getr (hs.k k_1) F_Weeks_62 (by decide +kernel) rfl (hs.r r_1_9) ?_
  refine g_iload_n (i := 1) (by decide +kernel) rfl ?_
  refine x_iald hf (hs.k k_5) (by decide +kernel) (fun x2 hf => ?_)
  refine g_aload_n (i := 2) (by decide +kernel) rfl ?_
  refine g_iconst (z := 0) (v := 0) (by decide +kernel) rfl ?_
  refine g_aload_n (i := 0) (by decide +kernel) rfl ?_
  refine g_iload_n (i := 1) (by decide +kernel) rfl ?_
  refine x_callVIp (as := [.int p1]) Vi_Weeks_hoursLeft Vs_Weeks_hoursLeft (hs.k k_91) rfl hf (fun q hq => t_Weeks_hoursLeft hs  hq) Y_Weeks_hoursLeft L_Weeks_91 (by decide +kernel) rfl rfl (Nat.le_of_ble_eq_true rfl) (by decide) (Nat.le_refl _) (Nat.le_refl _) (fun q3 hf => ?_)
  refine x_callVIp (as := [.int p1, .int ((1 : Int32) <<< (x1 &&& 31)), .int x2, .ref p2, .int (0 : Int32), .int q3]) Vi_Ahead_hoursFrom Vs_Ahead_hoursFrom (hs.k k_86) rfl hf (fun q hq => t_Ahead_hoursFrom hs hp2 hq) Y_Ahead_hoursFrom L_Weeks_95 (by decide +kernel) rfl rfl (Nat.le_of_ble_eq_true rfl) (by decide) (Nat.le_refl _) (Nat.le_refl _) (fun q4 hf => ?_)
  refine g_iconst (z := (-1)) (v := (-1)) (by decide +kernel) rfl ?_
  refine x_icmp_eq (off := 7) (tgt := 43) hf (by decide +kernel) (by decide) (fun c5 hf => ?_) (fun c5 hf => ?_)
  · refine g_iconst (z := 0) (v := 0) (by decide +kernel) rfl ?_
    exact x_zretp rfl hf (by decide +kernel) rfl (Nat.le_refl _) (Nat.le_refl _)
  · refine g_iconst (z := 1) (v := 1) (by decide +kernel) rfl ?_
    refine g_goto (off := 4) (tgt := 44) (by decide +kernel) (by decide) ?_
    exact x_zretp rfl hf (by decide +kernel) rfl (Nat.le_refl _) (Nat.le_refl _)
def f_Weeks_doneInTime_L4 (p1 : Nat) (p1L : Nat) : Nat → Int32 → Int32 → am_H → Option (Int32 × Int32)
  | 0, _, _, _ => none
  | n + 1, v2, v3, h =>
    (if (h.2.1 1 2) ≤ v3 then
      some (v2, v3)
    else
      (f_Weeks_hasErrand v3 h).bind fun q2 =>
      (if q2 = true then
        (f_Weeks_isDone v3 h).bind fun q4 =>
        (if q4 = true then
          f_Weeks_doneInTime_L4 p1 p1L n (v2 ||| ((1 : Int32) <<< (v3 &&& 31))) (v3 + (1 : Int32)) h
        else
          (f_Weeks_comes v3 p1 p1L h).bind fun q6 =>
          (if q6 = true then
            f_Weeks_doneInTime_L4 p1 p1L n (v2 ||| ((1 : Int32) <<< (v3 &&& 31))) (v3 + (1 : Int32)) h
          else
            f_Weeks_doneInTime_L4 p1 p1L n v2 (v3 + (1 : Int32)) h))
      else
        f_Weeks_doneInTime_L4 p1 p1L n v2 (v3 + (1 : Int32)) h))
set_option maxRecDepth 100000 in
set_option maxHeartbeats 4000000 in
theorem t_Weeks_doneInTime_L4 {p1 : Nat} {p1L : Nat} (hp1 : am_K0[p1]? = some (.inr (.int, p1L))) {Q : Option Value → am_H → Prop} : ∀ (n : Nat) (v2 : Int32) (v3 : Int32) (h : am_H) (q : Int32 × Int32), am_Sh h → f_Weeks_doneInTime_L4 p1 p1L n v2 v3 h = some q → (am_G 4 M_Weeks_doneInTime 0 0 Q 52 [(0, .ref 91), (1, .ref p1), (2, .int q.1), (3, .int q.2)] [] h 0 0) → am_G 4 M_Weeks_doneInTime 0 0 Q 4 [(0, .ref 91), (1, .ref p1), (2, .int v2), (3, .int v3)] [] h 0 0 := by
  intro n
  induction n with
  | zero =>
    intro v2 v3 h q hs hf kont
    rw [f_Weeks_doneInTime_L4] at hf
    cases hf
  | succ n ih =>
    intro v2 v3 h q hs hf kont
    rw [f_Weeks_doneInTime_L4] at hf
    refine g_iload_n (i := 3) (by decide +kernel) rfl ?_
    refine g_aload_n (i := 0) (by decide +kernel) rfl ?_
    refine x_getr (hs.k k_91) F_Weeks_50 (by decide +kernel) rfl (hs.r r_91_0) ?_
    refine x_geti (hs.k k_1) F_Weeks_101 (by decide +kernel) rfl ?_
    refine x_icmp_ge (off := 40) (tgt := 52) hf (by decide +kernel) (by decide) (fun c1 hf => ?_) (fun c1 hf => ?_)
    · cases hf
      exact am_G.forget (am_subp [0, 1, 2, 3] rfl) kont
    · refine g_aload_n (i := 0) (by decide +kernel) rfl ?_
      refine g_iload_n (i := 3) (by decide +kernel) rfl ?_
      refine x_callVBp (as := [.int v3]) Vi_Weeks_hasErrand Vs_Weeks_hasErrand (hs.k k_91) rfl hf (fun q hq => t_Weeks_hasErrand hs  hq) Y_Weeks_hasErrand L_Weeks_104 (by decide +kernel) rfl rfl (Nat.le_of_ble_eq_true rfl) (by decide) (Nat.le_refl _) (Nat.le_refl _) (fun q2 hf => ?_)
      refine x_ifb_eq (off := 26) (tgt := 46) hf (by decide +kernel) (by decide) (fun c3 hf => ?_) (fun c3 hf => ?_)
      · refine g_iinc (i := 3) (z := 1) (v := (v3 + (1 : Int32))) (by decide +kernel) rfl rfl rfl (by decide) (ls1 := [(0, .ref 91), (1, .ref p1), (2, .int v2), (3, .int (v3 + (1 : Int32)))]) rfl ?_
        refine g_goto (off := (-45)) (tgt := 4) (by decide +kernel) (by decide) ?_
        exact am_G.forget (am_subp [0, 1, 2, 3] rfl) (ih _ _ _ _ hs hf kont)
      · refine g_aload_n (i := 0) (by decide +kernel) rfl ?_
        refine g_iload_n (i := 3) (by decide +kernel) rfl ?_
        refine x_callVBp (as := [.int v3]) Vi_Weeks_isDone Vs_Weeks_isDone (hs.k k_91) rfl hf (fun q hq => t_Weeks_isDone hs  hq) Y_Weeks_isDone L_Weeks_108 (by decide +kernel) rfl rfl (Nat.le_of_ble_eq_true rfl) (by decide) (Nat.le_refl _) (Nat.le_refl _) (fun q4 hf => ?_)
        refine x_ifb_ne (off := 12) (tgt := 40) hf (by decide +kernel) (by decide) (fun c5 hf => ?_) (fun c5 hf => ?_)
        · refine g_iload_n (i := 2) (by decide +kernel) rfl ?_
          refine g_iconst (z := 1) (v := 1) (by decide +kernel) rfl ?_
          refine g_iload_n (i := 3) (by decide +kernel) rfl ?_
          refine g_ishl (by decide +kernel) ?_
          refine g_ior (by decide +kernel) ?_
          refine g_istore_n (i := 2) (by decide +kernel) rfl (by decide) (ls1 := [(0, .ref 91), (1, .ref p1), (2, .int (v2 ||| ((1 : Int32) <<< (v3 &&& 31)))), (3, .int v3)]) rfl ?_
          refine g_iinc (i := 3) (z := 1) (v := (v3 + (1 : Int32))) (by decide +kernel) rfl rfl rfl (by decide) (ls1 := [(0, .ref 91), (1, .ref p1), (2, .int (v2 ||| ((1 : Int32) <<< (v3 &&& 31)))), (3, .int (v3 + (1 : Int32)))]) rfl ?_
          refine g_goto (off := (-45)) (tgt := 4) (by decide +kernel) (by decide) ?_
          exact am_G.forget (am_subp [0, 1, 2, 3] rfl) (ih _ _ _ _ hs hf kont)
        · refine g_aload_n (i := 0) (by decide +kernel) rfl ?_
          refine g_iload_n (i := 3) (by decide +kernel) rfl ?_
          refine g_aload_n (i := 1) (by decide +kernel) rfl ?_
          refine x_callVBp (as := [.int v3, .ref p1]) Vi_Weeks_comes Vs_Weeks_comes (hs.k k_91) rfl hf (fun q hq => t_Weeks_comes hs hp1 hq) Y_Weeks_comes L_Weeks_111 (by decide +kernel) rfl rfl (Nat.le_of_ble_eq_true rfl) (by decide) (Nat.le_refl _) (Nat.le_refl _) (fun q6 hf => ?_)
          refine x_ifb_eq (off := 9) (tgt := 46) hf (by decide +kernel) (by decide) (fun c7 hf => ?_) (fun c7 hf => ?_)
          · refine g_iinc (i := 3) (z := 1) (v := (v3 + (1 : Int32))) (by decide +kernel) rfl rfl rfl (by decide) (ls1 := [(0, .ref 91), (1, .ref p1), (2, .int v2), (3, .int (v3 + (1 : Int32)))]) rfl ?_
            refine g_goto (off := (-45)) (tgt := 4) (by decide +kernel) (by decide) ?_
            exact am_G.forget (am_subp [0, 1, 2, 3] rfl) (ih _ _ _ _ hs hf kont)
          · refine g_iload_n (i := 2) (by decide +kernel) rfl ?_
            refine g_iconst (z := 1) (v := 1) (by decide +kernel) rfl ?_
            refine g_iload_n (i := 3) (by decide +kernel) rfl ?_
            refine g_ishl (by decide +kernel) ?_
            refine g_ior (by decide +kernel) ?_
            refine g_istore_n (i := 2) (by decide +kernel) rfl (by decide) (ls1 := [(0, .ref 91), (1, .ref p1), (2, .int (v2 ||| ((1 : Int32) <<< (v3 &&& 31)))), (3, .int v3)]) rfl ?_
            refine g_iinc (i := 3) (z := 1) (v := (v3 + (1 : Int32))) (by decide +kernel) rfl rfl rfl (by decide) (ls1 := [(0, .ref 91), (1, .ref p1), (2, .int (v2 ||| ((1 : Int32) <<< (v3 &&& 31)))), (3, .int (v3 + (1 : Int32)))]) rfl ?_
            refine g_goto (off := (-45)) (tgt := 4) (by decide +kernel) (by decide) ?_
            exact am_G.forget (am_subp [0, 1, 2, 3] rfl) (ih _ _ _ _ hs hf kont)
def f_Weeks_doneInTime (p1 : Nat) (p1L : Nat) (h : am_H) : Option (Int32) :=
  (f_Weeks_doneInTime_L4 p1 p1L am_fu (0 : Int32) (0 : Int32) h).bind fun q8 =>
  some q8.1
set_option maxRecDepth 100000 in
set_option maxHeartbeats 4000000 in
theorem t_Weeks_doneInTime {p1 : Nat} {p1L : Nat} {h : am_H} (hs : am_Sh h) (hp1 : am_K0[p1]? = some (.inr (.int, p1L))) {r : Int32} (hf : f_Weeks_doneInTime p1 p1L h = some r) : am_Ct 4 M_Weeks_doneInTime [.ref 91, .ref p1] h 0 0 (am_pI h r) := by
  unfold f_Weeks_doneInTime at hf
  refine am_Ct.of (by decide) rfl (Nat.le_of_ble_eq_true rfl) (ls := [(0, .ref 91), (1, .ref p1)]) rfl ?_
  refine g_iconst (z := 0) (v := 0) (by decide +kernel) rfl ?_
  refine g_istore_n (i := 2) (by decide +kernel) rfl (by decide) (ls1 := [(0, .ref 91), (1, .ref p1), (2, .int (0 : Int32))]) rfl ?_
  refine g_iconst (z := 0) (v := 0) (by decide +kernel) rfl ?_
  refine g_istore_n (i := 3) (by decide +kernel) rfl (by decide) (ls1 := [(0, .ref 91), (1, .ref p1), (2, .int (0 : Int32)), (3, .int (0 : Int32))]) rfl ?_
  obtain ⟨q8, hqq8, hf⟩ := Option.bind_eq_some_iff.mp hf
  refine am_G.forget (am_subp [0, 1, 2, 3] rfl) (t_Weeks_doneInTime_L4 hp1 am_fu _ _ _ q8 hs hqq8 ?_)
  refine g_iload_n (i := 2) (by decide +kernel) rfl ?_
  exact x_iretp hf (by decide +kernel) rfl (Nat.le_refl _) (Nat.le_refl _)
def f_Top_inTime  (h : am_H) : Option (Int32) :=
  (f_Weeks_doneInTime 11 6 h).bind fun q1 =>
  some q1
set_option maxRecDepth 100000 in
set_option maxHeartbeats 4000000 in
theorem t_Top_inTime  {h : am_H} (hs : am_Sh h)  {r : Int32} (hf : f_Top_inTime  h = some r) : am_Ct 5 M_Top_inTime [.ref 0] h 0 0 (am_pI h r) := by
  unfold f_Top_inTime at hf
  refine am_Ct.of (by decide) rfl (Nat.le_of_ble_eq_true rfl) (ls := [(0, .ref 0)]) rfl ?_
  refine g_aload_n (i := 0) (by decide +kernel) rfl ?_
  refine x_getr (hs.k k_0) F_Top_72 (by decide +kernel) rfl (hs.r r_0_10) ?_
  refine g_aload_n (i := 0) (by decide +kernel) rfl ?_
  refine x_getr (hs.k k_0) F_Top_19 (by decide +kernel) rfl (hs.r r_0_1) ?_
  refine x_getr (hs.k k_10) F_Top_129 (by decide +kernel) rfl (hs.r r_10_3) ?_
  refine x_callVIp (as := [.ref 11]) Vi_Weeks_doneInTime Vs_Weeks_doneInTime (hs.k k_91) rfl hf (fun q hq => t_Weeks_doneInTime hs k_11 hq) Y_Weeks_doneInTime L_Top_260 (by decide +kernel) rfl rfl (Nat.le_of_ble_eq_true rfl) (by decide) (Nat.le_refl _) (Nat.le_refl _) (fun q1 hf => ?_)
  exact x_iretp hf (by decide +kernel) rfl (Nat.le_refl _) (Nat.le_refl _)
def f_Weeks_hoursToSpare_L36 (p1 : Int32) : Nat → Int32 → Int32 → am_H → Option (Int32)
  | 0, _, _, _ => none
  | n + 1, v2, v3, h =>
    (if v3 < 0 then
      some (-1 : Int32)
    else
      am_let (if (v2 - v3) < (60 : Int32) then (v2 - v3) else (60 : Int32)) fun y6 =>
      (am_rd (h.2.1 12) 5 p1).bind fun x7 =>
      (am_rd (h.2.1 5) 5 p1).bind fun x8 =>
      (f_Ahead_hoursFrom p1 ((1 : Int32) <<< (x7 &&& 31)) x8 11 6 v3 y6 h).bind fun q9 =>
      (if q9 = (-1 : Int32) then
        f_Weeks_hoursToSpare_L36 p1 n v2 (v3 + (-1 : Int32)) h
      else
        some v3))
set_option maxRecDepth 100000 in
set_option maxHeartbeats 4000000 in
theorem t_Weeks_hoursToSpare_L36 {p1 : Int32}  : ∀ (n : Nat) (v2 : Int32) (v3 : Int32) (h : am_H) (r : Int32), am_Sh h → f_Weeks_hoursToSpare_L36 p1 n v2 v3 h = some r → am_G 3 M_Weeks_hoursToSpare 0 0 (am_pI h r) 36 [(0, .ref 91), (1, .int p1), (2, .int v2), (3, .int v3)] [] h 0 0 := by
  intro n
  induction n with
  | zero =>
    intro v2 v3 h r hs hf
    rw [f_Weeks_hoursToSpare_L36] at hf
    cases hf
  | succ n ih =>
    intro v2 v3 h r hs hf
    rw [f_Weeks_hoursToSpare_L36] at hf
    refine g_iload_n (i := 3) (by decide +kernel) rfl ?_
    refine x_if_lt (off := 63) (tgt := 100) hf (by decide +kernel) (by decide) (fun c5 hf => ?_) (fun c5 hf => ?_)
    · refine g_iconst (z := (-1)) (v := (-1)) (by decide +kernel) rfl ?_
      exact x_iretp hf (by decide +kernel) rfl (Nat.le_refl _) (Nat.le_refl _)
    · refine g_bipush (z := 60) (v := 60) (by decide +kernel) rfl ?_
      refine g_iload_n (i := 2) (by decide +kernel) rfl ?_
      refine g_iload_n (i := 3) (by decide +kernel) rfl ?_
      refine g_isub (by decide +kernel) ?_
      refine g_mmin L_Weeks_82 (by decide +kernel) (by decide) (Nat.le_refl _) (Nat.le_refl _) (Nat.le_of_ble_eq_true rfl) ?_
      refine x_nmI hf (fun y6 hf => ?_)
      refine g_istore (i := 4) (by decide +kernel) rfl (by decide) (ls1 := [(0, .ref 91), (1, .int p1), (2, .int v2), (3, .int v3), (4, .int y6)]) rfl ?_
      refine g_aload_n (i := 0) (by decide +kernel) rfl ?_
      refine x_getr (hs.k k_91) F_Weeks_58 (by decide +kernel) rfl (hs.r r_91_2) ?_
      refine g_iload_n (i := 1) (by decide +kernel) rfl ?_
      refine g_iconst (z := 1) (v := 1) (by decide +kernel) rfl ?_
      refine g_aload_n (i := 0) (by decide +kernel) rfl ?_
      refine x_getr (hs.k k_91) F_Weeks_54 (by decide +kernel) rfl (hs.r r_91_1) ?_
      refine x_getr (hs.k k_10) F_Weeks_88 (by decide +kernel) rfl (hs.r r_10_4) ?_
      refine g_iload_n (i := 1) (by decide +kernel) rfl ?_
      refine x_iald hf (hs.k k_12) (by decide +kernel) (fun x7 hf => ?_)
      refine g_ishl (by decide +kernel) ?_
      refine g_aload_n (i := 0) (by decide +kernel) rfl ?_
      refine x_getr (hs.k k_91) F_Weeks_50 (by decide +kernel) rfl (hs.r r_91_0) ?_
      refine x_getr (hs.k k_1) F_Weeks_62 (by decide +kernel) rfl (hs.r r_1_9) ?_
      refine g_iload_n (i := 1) (by decide +kernel) rfl ?_
      refine x_iald hf (hs.k k_5) (by decide +kernel) (fun x8 hf => ?_)
      refine g_aload_n (i := 0) (by decide +kernel) rfl ?_
      refine x_getr (hs.k k_91) F_Weeks_54 (by decide +kernel) rfl (hs.r r_91_1) ?_
      refine x_getr (hs.k k_10) F_Weeks_115 (by decide +kernel) rfl (hs.r r_10_3) ?_
      refine g_iload_n (i := 3) (by decide +kernel) rfl ?_
      refine g_iload (i := 4) (by decide +kernel) rfl ?_
      refine x_callVIp (as := [.int p1, .int ((1 : Int32) <<< (x7 &&& 31)), .int x8, .ref 11, .int v3, .int y6]) Vi_Ahead_hoursFrom Vs_Ahead_hoursFrom (hs.k k_86) rfl hf (fun q hq => t_Ahead_hoursFrom hs k_11 hq) Y_Ahead_hoursFrom L_Weeks_95 (by decide +kernel) rfl rfl (Nat.le_of_ble_eq_true rfl) (by decide) (Nat.le_refl _) (Nat.le_refl _) (fun q9 hf => ?_)
      refine g_iconst (z := (-1)) (v := (-1)) (by decide +kernel) rfl ?_
      refine x_icmp_eq (off := 5) (tgt := 94) hf (by decide +kernel) (by decide) (fun c10 hf => ?_) (fun c10 hf => ?_)
      · refine g_iinc (i := 3) (z := (-1)) (v := (v3 + (-1 : Int32))) (by decide +kernel) rfl rfl rfl (by decide) (ls1 := [(0, .ref 91), (1, .int p1), (2, .int v2), (3, .int (v3 + (-1 : Int32))), (4, .int y6)]) rfl ?_
        refine g_goto (off := (-61)) (tgt := 36) (by decide +kernel) (by decide) ?_
        exact am_G.forget (am_subp [0, 1, 2, 3] rfl) (ih _ _ _ _ hs hf)
      · refine g_iload_n (i := 3) (by decide +kernel) rfl ?_
        exact x_iretp hf (by decide +kernel) rfl (Nat.le_refl _) (Nat.le_refl _)
def f_Weeks_hoursToSpare (p1 : Int32) (h : am_H) : Option (Int32) :=
  (f_Weeks_isDone p1 h).bind fun q1 =>
  (if q1 = true then
    some (60 : Int32)
  else
    (am_rd (h.2.1 6) 5 p1).bind fun x3 =>
    am_let (if (x3 - (h.2.1 10 0)) < (60 : Int32) then (x3 - (h.2.1 10 0)) else (60 : Int32)) fun y4 =>
    f_Weeks_hoursToSpare_L36 p1 am_fu (x3 - (h.2.1 10 0)) y4 h)
set_option maxRecDepth 100000 in
set_option maxHeartbeats 4000000 in
theorem t_Weeks_hoursToSpare {p1 : Int32} {h : am_H} (hs : am_Sh h)  {r : Int32} (hf : f_Weeks_hoursToSpare p1 h = some r) : am_Ct 3 M_Weeks_hoursToSpare [.ref 91, .int p1] h 0 0 (am_pI h r) := by
  unfold f_Weeks_hoursToSpare at hf
  refine am_Ct.of (by decide) rfl (Nat.le_of_ble_eq_true rfl) (ls := [(0, .ref 91), (1, .int p1)]) rfl ?_
  refine g_aload_n (i := 0) (by decide +kernel) rfl ?_
  refine g_iload_n (i := 1) (by decide +kernel) rfl ?_
  refine x_callVBp (as := [.int p1]) Vi_Weeks_isDone Vs_Weeks_isDone (hs.k k_91) rfl hf (fun q hq => t_Weeks_isDone hs  hq) Y_Weeks_isDone L_Weeks_108 (by decide +kernel) rfl rfl (Nat.le_of_ble_eq_true rfl) (by decide) (Nat.le_refl _) (Nat.le_refl _) (fun q1 hf => ?_)
  refine x_ifb_eq (off := 6) (tgt := 11) hf (by decide +kernel) (by decide) (fun c2 hf => ?_) (fun c2 hf => ?_)
  · refine g_aload_n (i := 0) (by decide +kernel) rfl ?_
    refine x_getr (hs.k k_91) F_Weeks_50 (by decide +kernel) rfl (hs.r r_91_0) ?_
    refine x_getr (hs.k k_1) F_Weeks_76 (by decide +kernel) rfl (hs.r r_1_10) ?_
    refine g_iload_n (i := 1) (by decide +kernel) rfl ?_
    refine x_iald hf (hs.k k_6) (by decide +kernel) (fun x3 hf => ?_)
    refine g_aload_n (i := 0) (by decide +kernel) rfl ?_
    refine x_getr (hs.k k_91) F_Weeks_54 (by decide +kernel) rfl (hs.r r_91_1) ?_
    refine x_geti (hs.k k_10) F_Weeks_79 (by decide +kernel) rfl ?_
    refine g_isub (by decide +kernel) ?_
    refine g_istore_n (i := 2) (by decide +kernel) rfl (by decide) (ls1 := [(0, .ref 91), (1, .int p1), (2, .int (x3 - (h.2.1 10 0)))]) rfl ?_
    refine g_bipush (z := 60) (v := 60) (by decide +kernel) rfl ?_
    refine g_iload_n (i := 2) (by decide +kernel) rfl ?_
    refine g_mmin L_Weeks_82 (by decide +kernel) (by decide) (Nat.le_refl _) (Nat.le_refl _) (Nat.le_of_ble_eq_true rfl) ?_
    refine x_nmI hf (fun y4 hf => ?_)
    refine g_istore_n (i := 3) (by decide +kernel) rfl (by decide) (ls1 := [(0, .ref 91), (1, .int p1), (2, .int (x3 - (h.2.1 10 0))), (3, .int y4)]) rfl ?_
    exact am_G.forget (am_subp [0, 1, 2, 3] rfl) (t_Weeks_hoursToSpare_L36  am_fu _ _ _ _ hs hf)
  · refine g_bipush (z := 60) (v := 60) (by decide +kernel) rfl ?_
    exact x_iretp hf (by decide +kernel) rfl (Nat.le_refl _) (Nat.le_refl _)
def f_Top_spare (p1 : Int32) (h : am_H) : Option (Int32) :=
  (f_River_hasPerson 1 p1 h).bind fun q1 =>
  (if q1 = true then
    (am_rd (h.2.1 5) 5 p1).bind fun x3 =>
    (if x3 = (-1 : Int32) then
      some (-5 : Int32)
    else
      (f_Weeks_hoursToSpare p1 h).bind fun q5 =>
      some q5)
  else
    some (-2 : Int32))
set_option maxRecDepth 100000 in
set_option maxHeartbeats 4000000 in
theorem t_Top_spare {p1 : Int32} {h : am_H} (hs : am_Sh h)  {r : Int32} (hf : f_Top_spare p1 h = some r) : am_Ct 4 M_Top_spare [.ref 0, .int p1] h 0 0 (am_pI h r) := by
  unfold f_Top_spare at hf
  refine am_Ct.of (by decide) rfl (Nat.le_of_ble_eq_true rfl) (ls := [(0, .ref 0), (1, .int p1)]) rfl ?_
  refine g_aload_n (i := 0) (by decide +kernel) rfl ?_
  refine x_getr (hs.k k_0) F_Top_10 (by decide +kernel) rfl (hs.r r_0_0) ?_
  refine g_iload_n (i := 1) (by decide +kernel) rfl ?_
  refine x_callVBp (as := [.int p1]) Vi_River_hasPerson Vs_River_hasPerson (hs.k k_1) rfl hf (fun q hq => t_River_hasPerson hs (by decide) hq) Y_River_hasPerson L_Top_140 (by decide +kernel) rfl rfl (Nat.le_of_ble_eq_true rfl) (by decide) (Nat.le_refl _) (Nat.le_refl _) (fun q1 hf => ?_)
  refine x_ifb_ne (off := 6) (tgt := 14) hf (by decide +kernel) (by decide) (fun c2 hf => ?_) (fun c2 hf => ?_)
  · refine g_aload_n (i := 0) (by decide +kernel) rfl ?_
    refine x_getr (hs.k k_0) F_Top_10 (by decide +kernel) rfl (hs.r r_0_0) ?_
    refine x_getr (hs.k k_1) F_Top_150 (by decide +kernel) rfl (hs.r r_1_9) ?_
    refine g_iload_n (i := 1) (by decide +kernel) rfl ?_
    refine x_iald hf (hs.k k_5) (by decide +kernel) (fun x3 hf => ?_)
    refine g_iconst (z := (-1)) (v := (-1)) (by decide +kernel) rfl ?_
    refine x_icmp_ne (off := 6) (tgt := 30) hf (by decide +kernel) (by decide) (fun c4 hf => ?_) (fun c4 hf => ?_)
    · refine g_aload_n (i := 0) (by decide +kernel) rfl ?_
      refine x_getr (hs.k k_0) F_Top_72 (by decide +kernel) rfl (hs.r r_0_10) ?_
      refine g_iload_n (i := 1) (by decide +kernel) rfl ?_
      refine x_callVIp (as := [.int p1]) Vi_Weeks_hoursToSpare Vs_Weeks_hoursToSpare (hs.k k_91) rfl hf (fun q hq => t_Weeks_hoursToSpare hs  hq) Y_Weeks_hoursToSpare L_Top_264 (by decide +kernel) rfl rfl (Nat.le_of_ble_eq_true rfl) (by decide) (Nat.le_refl _) (Nat.le_refl _) (fun q5 hf => ?_)
      exact x_iretp hf (by decide +kernel) rfl (Nat.le_refl _) (Nat.le_refl _)
    · refine g_bipush (z := (-5)) (v := (-5)) (by decide +kernel) rfl ?_
      exact x_iretp hf (by decide +kernel) rfl (Nat.le_refl _) (Nat.le_refl _)
  · refine g_bipush (z := (-2)) (v := (-2)) (by decide +kernel) rfl ?_
    exact x_iretp hf (by decide +kernel) rfl (Nat.le_refl _) (Nat.le_refl _)
def f_Weeks_takeWeek  (h : am_H) : Option (am_H) :=
  (am_cp h 11 6 (0 : Int32) 92 6 (0 : Int32) (6 : Int32)).bind fun h1 =>
  some h1
set_option maxRecDepth 100000 in
set_option maxHeartbeats 4000000 in
theorem t_Weeks_takeWeek  {h : am_H} (hs : am_Sh h)  {r : am_H} (hf : f_Weeks_takeWeek  h = some r) : am_Ct 1 M_Weeks_takeWeek [.ref 91] h 0 0 (am_qV r) := by
  unfold f_Weeks_takeWeek at hf
  refine am_Ct.of (by decide) rfl (Nat.le_of_ble_eq_true rfl) (ls := [(0, .ref 91)]) rfl ?_
  refine g_aload_n (i := 0) (by decide +kernel) rfl ?_
  refine x_getr (hs.k k_91) F_Weeks_54 (by decide +kernel) rfl (hs.r r_91_1) ?_
  refine x_getr (hs.k k_10) F_Weeks_115 (by decide +kernel) rfl (hs.r r_10_3) ?_
  refine g_iconst (z := 0) (v := 0) (by decide +kernel) rfl ?_
  refine g_aload_n (i := 0) (by decide +kernel) rfl ?_
  refine x_getr (hs.k k_91) F_Weeks_9 (by decide +kernel) rfl (hs.r r_91_3) ?_
  refine g_iconst (z := 0) (v := 0) (by decide +kernel) rfl ?_
  refine g_bipush (z := 6) (v := 6) (by decide +kernel) rfl ?_
  refine x_copy hf hs (hs.k k_11) (hs.k k_92) L_Weeks_124 (by decide) (Nat.le_of_ble_eq_true rfl) (by decide +kernel) (fun h1 hf hs => ?_)
  exact x_vret hf hs (by decide +kernel) rfl (Nat.le_refl _) (Nat.le_refl _)
def f_Weeks_hoursNeeded_L35 (p1 : Int32) : Nat → Int32 → Int32 → am_H → Option (Int32 × Int32 × am_H)
  | 0, _, _, _ => none
  | n + 1, v2, v3, h =>
    (if (h.2.1 1 1) ≤ v3 then
      some (v2, v3, h)
    else
      (am_wr h 92 6 v3 (-1 : Int32)).bind fun h7 =>
      (f_Weeks_comes p1 92 6 h7).bind fun q8 =>
      (am_rd (h7.2.1 11) 6 v3).bind fun x10 =>
      (am_wr h7 92 6 v3 x10).bind fun h11 =>
      f_Weeks_hoursNeeded_L35 p1 n (if q8 = true then v2 else (v2 ||| ((1 : Int32) <<< (v3 &&& 31)))) (v3 + (1 : Int32)) h11)
set_option maxRecDepth 100000 in
set_option maxHeartbeats 4000000 in
theorem t_Weeks_hoursNeeded_L35 {p1 : Int32}  {Q : Option Value → am_H → Prop} : ∀ (n : Nat) (v2 : Int32) (v3 : Int32) (h : am_H) (q : Int32 × Int32 × am_H), am_Sh h → f_Weeks_hoursNeeded_L35 p1 n v2 v3 h = some q → (am_Sh q.2.2 → am_G 4 M_Weeks_hoursNeeded 0 0 Q 92 [(0, .ref 91), (1, .int p1), (2, .int q.1), (3, .int q.2.1)] [] q.2.2 0 0) → am_G 4 M_Weeks_hoursNeeded 0 0 Q 35 [(0, .ref 91), (1, .int p1), (2, .int v2), (3, .int v3)] [] h 0 0 := by
  intro n
  induction n with
  | zero =>
    intro v2 v3 h q hs hf kont
    rw [f_Weeks_hoursNeeded_L35] at hf
    cases hf
  | succ n ih =>
    intro v2 v3 h q hs hf kont
    rw [f_Weeks_hoursNeeded_L35] at hf
    refine g_iload_n (i := 3) (by decide +kernel) rfl ?_
    refine g_aload_n (i := 0) (by decide +kernel) rfl ?_
    refine x_getr (hs.k k_91) F_Weeks_50 (by decide +kernel) rfl (hs.r r_91_0) ?_
    refine x_geti (hs.k k_1) F_Weeks_121 (by decide +kernel) rfl ?_
    refine x_icmp_ge (off := 49) (tgt := 92) hf (by decide +kernel) (by decide) (fun c6 hf => ?_) (fun c6 hf => ?_)
    · cases hf
      exact am_G.forget (am_subp [0, 1, 2, 3] rfl) (kont hs)
    · refine g_aload_n (i := 0) (by decide +kernel) rfl ?_
      refine x_getr (hs.k k_91) F_Weeks_9 (by decide +kernel) rfl (hs.r r_91_3) ?_
      refine g_iload_n (i := 3) (by decide +kernel) rfl ?_
      refine g_iconst (z := (-1)) (v := (-1)) (by decide +kernel) rfl ?_
      refine x_iast hf hs (hs.k k_92) (by decide +kernel) (fun h7 hf hs => ?_)
      refine g_aload_n (i := 0) (by decide +kernel) rfl ?_
      refine g_iload_n (i := 1) (by decide +kernel) rfl ?_
      refine g_aload_n (i := 0) (by decide +kernel) rfl ?_
      refine x_getr (hs.k k_91) F_Weeks_9 (by decide +kernel) rfl (hs.r r_91_3) ?_
      refine x_callVBp (as := [.int p1, .ref 92]) Vi_Weeks_comes Vs_Weeks_comes (hs.k k_91) rfl hf (fun q hq => t_Weeks_comes hs k_92 hq) Y_Weeks_comes L_Weeks_111 (by decide +kernel) rfl rfl (Nat.le_of_ble_eq_true rfl) (by decide) (Nat.le_refl _) (Nat.le_refl _) (fun q8 hf => ?_)
      refine am_cut (J := 71) (ls' := [(0, .ref 91), (1, .int p1), (2, .int (if q8 = true then v2 else (v2 ||| ((1 : Int32) <<< (v3 &&& 31))))), (3, .int v3)]) (st' := []) ?_ (fun K71 => ?_)
      · refine g_aload_n (i := 0) (by decide +kernel) rfl ?_
        refine x_getr (hs.k k_91) F_Weeks_9 (by decide +kernel) rfl (hs.r r_91_3) ?_
        refine g_iload_n (i := 3) (by decide +kernel) rfl ?_
        refine g_aload_n (i := 0) (by decide +kernel) rfl ?_
        refine x_getr (hs.k k_91) F_Weeks_54 (by decide +kernel) rfl (hs.r r_91_1) ?_
        refine x_getr (hs.k k_10) F_Weeks_115 (by decide +kernel) rfl (hs.r r_10_3) ?_
        refine g_iload_n (i := 3) (by decide +kernel) rfl ?_
        refine x_iald hf (hs.k k_11) (by decide +kernel) (fun x10 hf => ?_)
        refine x_iast hf hs (hs.k k_92) (by decide +kernel) (fun h11 hf hs => ?_)
        refine g_iinc (i := 3) (z := 1) (v := (v3 + (1 : Int32))) (by decide +kernel) rfl rfl rfl (by decide) (ls1 := [(0, .ref 91), (1, .int p1), (2, .int (if q8 = true then v2 else (v2 ||| ((1 : Int32) <<< (v3 &&& 31))))), (3, .int (v3 + (1 : Int32)))]) rfl ?_
        refine g_goto (off := (-54)) (tgt := 35) (by decide +kernel) (by decide) ?_
        exact am_G.forget (am_subp [0, 1, 2, 3] rfl) (ih _ _ _ _ hs hf kont)
      refine p_ifb_ne (off := 9) (tgt := 71) (by decide +kernel) (by decide) (fun c9 => ?_) (fun c9 => ?_)
      · have K1 := K71
        simp only [if_pos c9] at K1
        exact am_G.forget (am_subp [0, 1, 2, 3] rfl) K1
      · refine g_iload_n (i := 2) (by decide +kernel) rfl ?_
        refine g_iconst (z := 1) (v := 1) (by decide +kernel) rfl ?_
        refine g_iload_n (i := 3) (by decide +kernel) rfl ?_
        refine g_ishl (by decide +kernel) ?_
        refine g_ior (by decide +kernel) ?_
        refine g_istore_n (i := 2) (by decide +kernel) rfl (by decide) (ls1 := [(0, .ref 91), (1, .int p1), (2, .int (v2 ||| ((1 : Int32) <<< (v3 &&& 31)))), (3, .int v3)]) rfl ?_
        have K1 := K71
        simp only [if_neg c9] at K1
        exact am_G.forget (am_subp [0, 1, 2, 3] rfl) K1
def f_Weeks_hoursNeeded (p1 : Int32) (h : am_H) : Option (Int32 × am_H) :=
  (f_Weeks_isDone p1 h).bind fun q1 =>
  (if q1 = true then
    some ((0 : Int32), h)
  else
    (f_Weeks_comes p1 11 6 h).bind fun q3 =>
    (if q3 = true then
      (f_Weeks_takeWeek  h).bind fun q5 =>
      (f_Weeks_hoursNeeded_L35 p1 am_fu (0 : Int32) (0 : Int32) q5).bind fun q12 =>
      some (q12.1, q12.2.2)
    else
      some ((-1 : Int32), h)))
set_option maxRecDepth 100000 in
set_option maxHeartbeats 4000000 in
theorem t_Weeks_hoursNeeded {p1 : Int32} {h : am_H} (hs : am_Sh h)  {r : Int32 × am_H} (hf : f_Weeks_hoursNeeded p1 h = some r) : am_Ct 4 M_Weeks_hoursNeeded [.ref 91, .int p1] h 0 0 (am_qI r) := by
  unfold f_Weeks_hoursNeeded at hf
  refine am_Ct.of (by decide) rfl (Nat.le_of_ble_eq_true rfl) (ls := [(0, .ref 91), (1, .int p1)]) rfl ?_
  refine g_aload_n (i := 0) (by decide +kernel) rfl ?_
  refine g_iload_n (i := 1) (by decide +kernel) rfl ?_
  refine x_callVBp (as := [.int p1]) Vi_Weeks_isDone Vs_Weeks_isDone (hs.k k_91) rfl hf (fun q hq => t_Weeks_isDone hs  hq) Y_Weeks_isDone L_Weeks_108 (by decide +kernel) rfl rfl (Nat.le_of_ble_eq_true rfl) (by decide) (Nat.le_refl _) (Nat.le_refl _) (fun q1 hf => ?_)
  refine x_ifb_eq (off := 5) (tgt := 10) hf (by decide +kernel) (by decide) (fun c2 hf => ?_) (fun c2 hf => ?_)
  · refine g_aload_n (i := 0) (by decide +kernel) rfl ?_
    refine g_iload_n (i := 1) (by decide +kernel) rfl ?_
    refine g_aload_n (i := 0) (by decide +kernel) rfl ?_
    refine x_getr (hs.k k_91) F_Weeks_54 (by decide +kernel) rfl (hs.r r_91_1) ?_
    refine x_getr (hs.k k_10) F_Weeks_115 (by decide +kernel) rfl (hs.r r_10_3) ?_
    refine x_callVBp (as := [.int p1, .ref 11]) Vi_Weeks_comes Vs_Weeks_comes (hs.k k_91) rfl hf (fun q hq => t_Weeks_comes hs k_11 hq) Y_Weeks_comes L_Weeks_111 (by decide +kernel) rfl rfl (Nat.le_of_ble_eq_true rfl) (by decide) (Nat.le_refl _) (Nat.le_refl _) (fun q3 hf => ?_)
    refine x_ifb_ne (off := 5) (tgt := 27) hf (by decide +kernel) (by decide) (fun c4 hf => ?_) (fun c4 hf => ?_)
    · refine g_iconst (z := 0) (v := 0) (by decide +kernel) rfl ?_
      refine g_istore_n (i := 2) (by decide +kernel) rfl (by decide) (ls1 := [(0, .ref 91), (1, .int p1), (2, .int (0 : Int32))]) rfl ?_
      refine g_aload_n (i := 0) (by decide +kernel) rfl ?_
      refine x_callVV (as := []) Vi_Weeks_takeWeek Vs_Weeks_takeWeek (hs.k k_91) rfl hf (fun q hq => t_Weeks_takeWeek hs  hq) Y_Weeks_takeWeek L_Weeks_118 (by decide +kernel) rfl rfl (Nat.le_of_ble_eq_true rfl) (by decide) (Nat.le_refl _) (Nat.le_refl _) (fun q5 hf hs => ?_)
      refine g_iconst (z := 0) (v := 0) (by decide +kernel) rfl ?_
      refine g_istore_n (i := 3) (by decide +kernel) rfl (by decide) (ls1 := [(0, .ref 91), (1, .int p1), (2, .int (0 : Int32)), (3, .int (0 : Int32))]) rfl ?_
      obtain ⟨q12, hqq12, hf⟩ := Option.bind_eq_some_iff.mp hf
      refine am_G.forget (am_subp [0, 1, 2, 3] rfl) (t_Weeks_hoursNeeded_L35  am_fu _ _ _ q12 hs hqq12 (fun hs => ?_))
      refine g_iload_n (i := 2) (by decide +kernel) rfl ?_
      exact x_iret hf hs (by decide +kernel) rfl (Nat.le_refl _) (Nat.le_refl _)
    · refine g_iconst (z := (-1)) (v := (-1)) (by decide +kernel) rfl ?_
      exact x_iret hf hs (by decide +kernel) rfl (Nat.le_refl _) (Nat.le_refl _)
  · refine g_iconst (z := 0) (v := 0) (by decide +kernel) rfl ?_
    exact x_iret hf hs (by decide +kernel) rfl (Nat.le_refl _) (Nat.le_refl _)
def f_Top_needs (p1 : Int32) (h : am_H) : Option (Int32 × am_H) :=
  (f_River_hasPerson 1 p1 h).bind fun q1 =>
  (if q1 = true then
    (am_rd (h.2.1 5) 5 p1).bind fun x3 =>
    (if x3 = (-1 : Int32) then
      some ((-5 : Int32), h)
    else
      (f_Weeks_hoursNeeded p1 h).bind fun q5 =>
      some (q5.1, q5.2))
  else
    some ((-2 : Int32), h))
set_option maxRecDepth 100000 in
set_option maxHeartbeats 4000000 in
theorem t_Top_needs {p1 : Int32} {h : am_H} (hs : am_Sh h)  {r : Int32 × am_H} (hf : f_Top_needs p1 h = some r) : am_Ct 5 M_Top_needs [.ref 0, .int p1] h 0 0 (am_qI r) := by
  unfold f_Top_needs at hf
  refine am_Ct.of (by decide) rfl (Nat.le_of_ble_eq_true rfl) (ls := [(0, .ref 0), (1, .int p1)]) rfl ?_
  refine g_aload_n (i := 0) (by decide +kernel) rfl ?_
  refine x_getr (hs.k k_0) F_Top_10 (by decide +kernel) rfl (hs.r r_0_0) ?_
  refine g_iload_n (i := 1) (by decide +kernel) rfl ?_
  refine x_callVBp (as := [.int p1]) Vi_River_hasPerson Vs_River_hasPerson (hs.k k_1) rfl hf (fun q hq => t_River_hasPerson hs (by decide) hq) Y_River_hasPerson L_Top_140 (by decide +kernel) rfl rfl (Nat.le_of_ble_eq_true rfl) (by decide) (Nat.le_refl _) (Nat.le_refl _) (fun q1 hf => ?_)
  refine x_ifb_ne (off := 6) (tgt := 14) hf (by decide +kernel) (by decide) (fun c2 hf => ?_) (fun c2 hf => ?_)
  · refine g_aload_n (i := 0) (by decide +kernel) rfl ?_
    refine x_getr (hs.k k_0) F_Top_10 (by decide +kernel) rfl (hs.r r_0_0) ?_
    refine x_getr (hs.k k_1) F_Top_150 (by decide +kernel) rfl (hs.r r_1_9) ?_
    refine g_iload_n (i := 1) (by decide +kernel) rfl ?_
    refine x_iald hf (hs.k k_5) (by decide +kernel) (fun x3 hf => ?_)
    refine g_iconst (z := (-1)) (v := (-1)) (by decide +kernel) rfl ?_
    refine x_icmp_ne (off := 6) (tgt := 30) hf (by decide +kernel) (by decide) (fun c4 hf => ?_) (fun c4 hf => ?_)
    · refine g_aload_n (i := 0) (by decide +kernel) rfl ?_
      refine x_getr (hs.k k_0) F_Top_72 (by decide +kernel) rfl (hs.r r_0_10) ?_
      refine g_iload_n (i := 1) (by decide +kernel) rfl ?_
      refine x_callVI (as := [.int p1]) Vi_Weeks_hoursNeeded Vs_Weeks_hoursNeeded (hs.k k_91) rfl hf (fun q hq => t_Weeks_hoursNeeded hs  hq) Y_Weeks_hoursNeeded L_Top_267 (by decide +kernel) rfl rfl (Nat.le_of_ble_eq_true rfl) (by decide) (Nat.le_refl _) (Nat.le_refl _) (fun q5 hf hs => ?_)
      exact x_iret hf hs (by decide +kernel) rfl (Nat.le_refl _) (Nat.le_refl _)
    · refine g_bipush (z := (-5)) (v := (-5)) (by decide +kernel) rfl ?_
      exact x_iret hf hs (by decide +kernel) rfl (Nat.le_refl _) (Nat.le_refl _)
  · refine g_bipush (z := (-2)) (v := (-2)) (by decide +kernel) rfl ?_
    exact x_iret hf hs (by decide +kernel) rfl (Nat.le_refl _) (Nat.le_refl _)
def f_Weeks_movesOf_L17 (p1 : Nat) (p1L : Nat) : Nat → Int32 → Int32 → Int32 → am_H → Option (Int32 × Int32 × Int32)
  | 0, _, _, _, _ => none
  | n + 1, v2, v3, v4, h =>
    (if (h.2.1 1 1) ≤ v4 then
      some (v2, v3, v4)
    else
      (am_rd (h.2.1 p1) p1L v4).bind fun x3 =>
      (am_rd (h.2.1 p1) p1L v4).bind fun x5 =>
      f_Weeks_movesOf_L17 p1 p1L n (if x3 = v3 then v2 else (v2 + (1 : Int32))) x5 (v4 + (1 : Int32)) h)
set_option maxRecDepth 100000 in
set_option maxHeartbeats 4000000 in
theorem t_Weeks_movesOf_L17 {p1 : Nat} {p1L : Nat} (hp1 : am_K0[p1]? = some (.inr (.int, p1L))) {Q : Option Value → am_H → Prop} : ∀ (n : Nat) (v2 : Int32) (v3 : Int32) (v4 : Int32) (h : am_H) (q : Int32 × Int32 × Int32), am_Sh h → f_Weeks_movesOf_L17 p1 p1L n v2 v3 v4 h = some q → (am_G 0 M_Weeks_movesOf 0 0 Q 51 [(0, .ref 91), (1, .ref p1), (2, .int q.1), (3, .int q.2.1), (4, .int q.2.2)] [] h 0 0) → am_G 0 M_Weeks_movesOf 0 0 Q 17 [(0, .ref 91), (1, .ref p1), (2, .int v2), (3, .int v3), (4, .int v4)] [] h 0 0 := by
  intro n
  induction n with
  | zero =>
    intro v2 v3 v4 h q hs hf kont
    rw [f_Weeks_movesOf_L17] at hf
    cases hf
  | succ n ih =>
    intro v2 v3 v4 h q hs hf kont
    rw [f_Weeks_movesOf_L17] at hf
    refine g_iload (i := 4) (by decide +kernel) rfl ?_
    refine g_aload_n (i := 0) (by decide +kernel) rfl ?_
    refine x_getr (hs.k k_91) F_Weeks_50 (by decide +kernel) rfl (hs.r r_91_0) ?_
    refine x_geti (hs.k k_1) F_Weeks_121 (by decide +kernel) rfl ?_
    refine x_icmp_ge (off := 25) (tgt := 51) hf (by decide +kernel) (by decide) (fun c2 hf => ?_) (fun c2 hf => ?_)
    · cases hf
      exact am_G.forget (am_subp [0, 1, 2, 3, 4] rfl) kont
    · refine g_aload_n (i := 1) (by decide +kernel) rfl ?_
      refine g_iload (i := 4) (by decide +kernel) rfl ?_
      refine x_iald hf (hs.k hp1) (by decide +kernel) (fun x3 hf => ?_)
      refine g_iload_n (i := 3) (by decide +kernel) rfl ?_
      refine am_cut (J := 40) (ls' := [(0, .ref 91), (1, .ref p1), (2, .int (if x3 = v3 then v2 else (v2 + (1 : Int32)))), (3, .int v3), (4, .int v4)]) (st' := []) ?_ (fun K40 => ?_)
      · refine g_aload_n (i := 1) (by decide +kernel) rfl ?_
        refine g_iload (i := 4) (by decide +kernel) rfl ?_
        refine x_iald hf (hs.k hp1) (by decide +kernel) (fun x5 hf => ?_)
        refine g_istore_n (i := 3) (by decide +kernel) rfl (by decide) (ls1 := [(0, .ref 91), (1, .ref p1), (2, .int (if x3 = v3 then v2 else (v2 + (1 : Int32)))), (3, .int x5), (4, .int v4)]) rfl ?_
        refine g_iinc (i := 4) (z := 1) (v := (v4 + (1 : Int32))) (by decide +kernel) rfl rfl rfl (by decide) (ls1 := [(0, .ref 91), (1, .ref p1), (2, .int (if x3 = v3 then v2 else (v2 + (1 : Int32)))), (3, .int x5), (4, .int (v4 + (1 : Int32)))]) rfl ?_
        refine g_goto (off := (-31)) (tgt := 17) (by decide +kernel) (by decide) ?_
        exact am_G.forget (am_subp [0, 1, 2, 3, 4] rfl) (ih _ _ _ _ _ hs hf kont)
      refine p_icmp_eq (off := 6) (tgt := 40) (by decide +kernel) (by decide) (fun c4 => ?_) (fun c4 => ?_)
      · have K1 := K40
        simp only [if_pos c4] at K1
        exact am_G.forget (am_subp [0, 1, 2, 3, 4] rfl) K1
      · refine g_iinc (i := 2) (z := 1) (v := (v2 + (1 : Int32))) (by decide +kernel) rfl rfl rfl (by decide) (ls1 := [(0, .ref 91), (1, .ref p1), (2, .int (v2 + (1 : Int32))), (3, .int v3), (4, .int v4)]) rfl ?_
        have K1 := K40
        simp only [if_neg c4] at K1
        exact am_G.forget (am_subp [0, 1, 2, 3, 4] rfl) K1
def f_Weeks_movesOf (p1 : Nat) (p1L : Nat) (h : am_H) : Option (Int32) :=
  (am_rd (h.2.1 p1) p1L ((h.2.1 1 1) - (1 : Int32))).bind fun x1 =>
  (f_Weeks_movesOf_L17 p1 p1L am_fu (0 : Int32) x1 (0 : Int32) h).bind fun q6 =>
  some q6.1
set_option maxRecDepth 100000 in
set_option maxHeartbeats 4000000 in
theorem t_Weeks_movesOf {p1 : Nat} {p1L : Nat} {h : am_H} (hs : am_Sh h) (hp1 : am_K0[p1]? = some (.inr (.int, p1L))) {r : Int32} (hf : f_Weeks_movesOf p1 p1L h = some r) : am_Ct 0 M_Weeks_movesOf [.ref 91, .ref p1] h 0 0 (am_pI h r) := by
  unfold f_Weeks_movesOf at hf
  refine am_Ct.of (by decide) rfl (Nat.le_of_ble_eq_true rfl) (ls := [(0, .ref 91), (1, .ref p1)]) rfl ?_
  refine g_iconst (z := 0) (v := 0) (by decide +kernel) rfl ?_
  refine g_istore_n (i := 2) (by decide +kernel) rfl (by decide) (ls1 := [(0, .ref 91), (1, .ref p1), (2, .int (0 : Int32))]) rfl ?_
  refine g_aload_n (i := 1) (by decide +kernel) rfl ?_
  refine g_aload_n (i := 0) (by decide +kernel) rfl ?_
  refine x_getr (hs.k k_91) F_Weeks_50 (by decide +kernel) rfl (hs.r r_91_0) ?_
  refine x_geti (hs.k k_1) F_Weeks_121 (by decide +kernel) rfl ?_
  refine g_iconst (z := 1) (v := 1) (by decide +kernel) rfl ?_
  refine g_isub (by decide +kernel) ?_
  refine x_iald hf (hs.k hp1) (by decide +kernel) (fun x1 hf => ?_)
  refine g_istore_n (i := 3) (by decide +kernel) rfl (by decide) (ls1 := [(0, .ref 91), (1, .ref p1), (2, .int (0 : Int32)), (3, .int x1)]) rfl ?_
  refine g_iconst (z := 0) (v := 0) (by decide +kernel) rfl ?_
  refine g_istore (i := 4) (by decide +kernel) rfl (by decide) (ls1 := [(0, .ref 91), (1, .ref p1), (2, .int (0 : Int32)), (3, .int x1), (4, .int (0 : Int32))]) rfl ?_
  obtain ⟨q6, hqq6, hf⟩ := Option.bind_eq_some_iff.mp hf
  refine am_G.forget (am_subp [0, 1, 2, 3, 4] rfl) (t_Weeks_movesOf_L17 hp1 am_fu _ _ _ _ q6 hs hqq6 ?_)
  refine g_iload_n (i := 2) (by decide +kernel) rfl ?_
  exact x_iretp hf (by decide +kernel) rfl (Nat.le_refl _) (Nat.le_refl _)
def f_Top_moves  (h : am_H) : Option (Int32) :=
  (f_Weeks_movesOf 11 6 h).bind fun q1 =>
  some q1
set_option maxRecDepth 100000 in
set_option maxHeartbeats 4000000 in
theorem t_Top_moves  {h : am_H} (hs : am_Sh h)  {r : Int32} (hf : f_Top_moves  h = some r) : am_Ct 1 M_Top_moves [.ref 0] h 0 0 (am_pI h r) := by
  unfold f_Top_moves at hf
  refine am_Ct.of (by decide) rfl (Nat.le_of_ble_eq_true rfl) (ls := [(0, .ref 0)]) rfl ?_
  refine g_aload_n (i := 0) (by decide +kernel) rfl ?_
  refine x_getr (hs.k k_0) F_Top_72 (by decide +kernel) rfl (hs.r r_0_10) ?_
  refine g_aload_n (i := 0) (by decide +kernel) rfl ?_
  refine x_getr (hs.k k_0) F_Top_19 (by decide +kernel) rfl (hs.r r_0_1) ?_
  refine x_getr (hs.k k_10) F_Top_129 (by decide +kernel) rfl (hs.r r_10_3) ?_
  refine x_callVIp (as := [.ref 11]) Vi_Weeks_movesOf Vs_Weeks_movesOf (hs.k k_91) rfl hf (fun q hq => t_Weeks_movesOf hs k_11 hq) Y_Weeks_movesOf L_Top_270 (by decide +kernel) rfl rfl (Nat.le_of_ble_eq_true rfl) (by decide) (Nat.le_refl _) (Nat.le_refl _) (fun q1 hf => ?_)
  exact x_iretp hf (by decide +kernel) rfl (Nat.le_refl _) (Nat.le_refl _)
