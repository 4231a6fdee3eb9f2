def f_Top_likely_L41 (p1 : Int32) (p2 : Int32) (p3 : Int32) : Nat → Int32 → am_H → Option (Int32 × am_H)
  | 0, _, _ => none
  | n + 1, v4, h =>
    (if (9 : Int32) < v4 then
      some ((-1 : Int32), h)
    else
      (f_Chances_outOfPower p1 p2 v4 h).bind fun q8 =>
      (f_Chances_power v4 q8.2).bind fun q9 =>
      (if (lg_cmp (q8.1 * (100 : Int64)) (((p3).toInt64) * q9)) < 0 then
        f_Top_likely_L41 p1 p2 p3 n (v4 + (1 : Int32)) q8.2
      else
        some (v4, q8.2)))
set_option maxRecDepth 100000 in
set_option maxHeartbeats 4000000 in
theorem t_Top_likely_L41 {p1 : Int32} {p2 : Int32} {p3 : Int32}  : ∀ (n : Nat) (v4 : Int32) (h : am_H) (r : Int32 × am_H), am_Sh h → f_Top_likely_L41 p1 p2 p3 n v4 h = some r → am_G 5 M_Top_likely 0 0 (am_qI r) 41 [(0, .ref 0), (1, .int p1), (2, .int p2), (3, .int p3), (4, .int v4)] [] h 0 0 := by
  intro n
  induction n with
  | zero =>
    intro v4 h r hs hf
    rw [f_Top_likely_L41] at hf
    cases hf
  | succ n ih =>
    intro v4 h r hs hf
    rw [f_Top_likely_L41] at hf
    refine g_iload (i := 4) (by decide +kernel) rfl ?_
    refine g_bipush (z := 9) (v := 9) (by decide +kernel) rfl ?_
    refine x_icmp_gt (off := 39) (tgt := 84) hf (by decide +kernel) (by decide) (fun c7 hf => ?_) (fun c7 hf => ?_)
    · refine g_iconst (z := (-1)) (v := (-1)) (by decide +kernel) rfl ?_
      exact x_iret hf hs (by decide +kernel) rfl
    · refine g_aload_n (i := 0) (by decide +kernel) rfl ?_
      refine x_getr (hs.k k_0) F_Top_86 (by decide +kernel) rfl (hs.r r_0_12) ?_
      refine g_iload_n (i := 1) (by decide +kernel) rfl ?_
      refine g_iload_n (i := 2) (by decide +kernel) rfl ?_
      refine g_iload (i := 4) (by decide +kernel) rfl ?_
      refine x_callVJ (as := [.int p1, .int p2, .int v4]) Vi_Chances_outOfPower Vs_Chances_outOfPower (hs.k k_99) rfl hf (fun q hq => t_Chances_outOfPower hs  hq) Y_Chances_outOfPower L_Top_309 (by decide +kernel) rfl rfl (Nat.le_of_ble_eq_true rfl) (by decide) (fun q8 hf hs => ?_)
      refine g_ldc2 (by decide +kernel) C_Top_321 ?_
      refine g_lmul (by decide +kernel) ?_
      refine g_iload_n (i := 3) (by decide +kernel) rfl ?_
      refine g_i2l (by decide +kernel) ?_
      refine g_iload (i := 4) (by decide +kernel) rfl ?_
      refine x_callSJp (as := [.int v4]) St_Chances_power hf (fun q hq => t_Chances_power hs  hq) Y_Chances_power L_Top_312 (by decide +kernel) rfl rfl (Nat.le_of_ble_eq_true rfl) (by decide) (fun q9 hf => ?_)
      refine g_lmul (by decide +kernel) ?_
      refine g_lcmp (by decide +kernel) ?_
      refine x_if_lt (off := 6) (tgt := 78) hf (by decide +kernel) (by decide) (fun c10 hf => ?_) (fun c10 hf => ?_)
      · refine g_iinc (i := 4) (z := 1) (v := (v4 + (1 : Int32))) (by decide +kernel) rfl rfl rfl (by decide) (ls1 := [(0, .ref 0), (1, .int p1), (2, .int p2), (3, .int p3), (4, .int (v4 + (1 : Int32)))]) rfl ?_
        refine g_goto (off := (-40)) (tgt := 41) (by decide +kernel) (by decide) ?_
        exact am_G.forget (am_subp [0, 1, 2, 3, 4] rfl) (ih _ _ _ hs hf)
      · refine g_iload (i := 4) (by decide +kernel) rfl ?_
        exact x_iret hf hs (by decide +kernel) rfl
def f_Top_likely (p1 : Int32) (p2 : Int32) (p3 : Int32) (h : am_H) : Option (Int32 × am_H) :=
  (f_River_hasPerson 1 p1 h).bind fun q1 =>
  (if q1 = true then
    (f_River_hasSpot 1 p2 h).bind fun q3 =>
    (if q3 = true then
      (if p3 < 0 then
        some ((-3 : Int32), h)
      else
        (if p3 ≤ (100 : Int32) then
          f_Top_likely_L41 p1 p2 p3 am_fu (0 : Int32) h
        else
          some ((-3 : Int32), h)))
    else
      some ((-2 : Int32), h))
  else
    some ((-2 : Int32), h))
set_option maxRecDepth 100000 in
set_option maxHeartbeats 4000000 in
theorem t_Top_likely {p1 : Int32} {p2 : Int32} {p3 : Int32} {h : am_H} (hs : am_Sh h)  {r : Int32 × am_H} (hf : f_Top_likely p1 p2 p3 h = some r) : am_Ct 5 M_Top_likely [.ref 0, .int p1, .int p2, .int p3] h 0 0 (am_qI r) := by
  unfold f_Top_likely at hf
  refine am_Ct.of (by decide) rfl (Nat.le_of_ble_eq_true rfl) (ls := [(0, .ref 0), (1, .int p1), (2, .int p2), (3, .int p3)]) rfl ?_
  refine g_aload_n (i := 0) (by decide +kernel) rfl ?_
  refine x_getr (hs.k k_0) F_Top_10 (by decide +kernel) rfl (hs.r r_0_0) ?_
  refine g_iload_n (i := 1) (by decide +kernel) rfl ?_
  refine x_callVBp (as := [.int p1]) Vi_River_hasPerson Vs_River_hasPerson (hs.k k_1) rfl hf (fun q hq => t_River_hasPerson hs (by decide) hq) Y_River_hasPerson L_Top_140 (by decide +kernel) rfl rfl (Nat.le_of_ble_eq_true rfl) (by decide) (fun q1 hf => ?_)
  refine x_ifb_eq (off := 14) (tgt := 22) hf (by decide +kernel) (by decide) (fun c2 hf => ?_) (fun c2 hf => ?_)
  · refine g_bipush (z := (-2)) (v := (-2)) (by decide +kernel) rfl ?_
    exact x_iret hf hs (by decide +kernel) rfl
  · refine g_aload_n (i := 0) (by decide +kernel) rfl ?_
    refine x_getr (hs.k k_0) F_Top_10 (by decide +kernel) rfl (hs.r r_0_0) ?_
    refine g_iload_n (i := 2) (by decide +kernel) rfl ?_
    refine x_callVBp (as := [.int p2]) Vi_River_hasSpot Vs_River_hasSpot (hs.k k_1) rfl hf (fun q hq => t_River_hasSpot hs (by decide) hq) Y_River_hasSpot L_Top_230 (by decide +kernel) rfl rfl (Nat.le_of_ble_eq_true rfl) (by decide) (fun q3 hf => ?_)
    refine x_ifb_ne (off := 6) (tgt := 25) hf (by decide +kernel) (by decide) (fun c4 hf => ?_) (fun c4 hf => ?_)
    · refine g_iload_n (i := 3) (by decide +kernel) rfl ?_
      refine x_if_lt (off := 9) (tgt := 35) hf (by decide +kernel) (by decide) (fun c5 hf => ?_) (fun c5 hf => ?_)
      · refine g_bipush (z := (-3)) (v := (-3)) (by decide +kernel) rfl ?_
        exact x_iret hf hs (by decide +kernel) rfl
      · refine g_iload_n (i := 3) (by decide +kernel) rfl ?_
        refine g_bipush (z := 100) (v := 100) (by decide +kernel) rfl ?_
        refine x_icmp_le (off := 6) (tgt := 38) hf (by decide +kernel) (by decide) (fun c6 hf => ?_) (fun c6 hf => ?_)
        · refine g_iconst (z := 0) (v := 0) (by decide +kernel) rfl ?_
          refine g_istore (i := 4) (by decide +kernel) rfl (by decide) (ls1 := [(0, .ref 0), (1, .int p1), (2, .int p2), (3, .int p3), (4, .int (0 : Int32))]) rfl ?_
          exact am_G.forget (am_subp [0, 1, 2, 3, 4] rfl) (t_Top_likely_L41  am_fu _ _ _ hs hf)
        · refine g_bipush (z := (-3)) (v := (-3)) (by decide +kernel) rfl ?_
          exact x_iret hf hs (by decide +kernel) rfl
    · refine g_bipush (z := (-2)) (v := (-2)) (by decide +kernel) rfl ?_
      exact x_iret hf hs (by decide +kernel) rfl
def f_Tray_empty (o : Nat) (p1 : Int32) (p2 : Int32) (h : am_H) : Option (am_H) :=
  am_let (am_sI h o 0 (1 : Int32)) fun h1 =>
  am_let (am_sI h1 o 2 p1) fun h2 =>
  am_let (am_sI h2 o 1 p2) fun h3 =>
  (f_Arrays_fill_JJV (o + 1) 40 (0 : Int64) h3).bind fun q4 =>
  some q4
set_option maxRecDepth 100000 in
set_option maxHeartbeats 4000000 in
theorem t_Tray_empty {o : Nat} {p1 : Int32} {p2 : Int32} {h : am_H} (hs : am_Sh h) (ho : o ∈ am_trL) {r : am_H} (hf : f_Tray_empty o p1 p2 h = some r) : am_Ct 1 M_Tray_empty [.ref o, .int p1, .int p2] h 0 0 (am_qV r) := by
  unfold f_Tray_empty at hf
  refine am_Ct.of (by decide) rfl (Nat.le_of_ble_eq_true rfl) (ls := [(0, .ref o), (1, .int p1), (2, .int p2)]) rfl ?_
  refine g_aload_n (i := 0) (by decide +kernel) rfl ?_
  refine g_iconst (z := 1) (v := 1) (by decide +kernel) rfl ?_
  refine x_puti hf hs (hs.k (k_Tr ho)) F_Tray_9 (by decide +kernel) rfl rfl rfl rfl (fun h1 hf hs => ?_)
  refine g_aload_n (i := 0) (by decide +kernel) rfl ?_
  refine g_iload_n (i := 1) (by decide +kernel) rfl ?_
  refine x_puti hf hs (hs.k (k_Tr ho)) F_Tray_19 (by decide +kernel) rfl rfl rfl rfl (fun h2 hf hs => ?_)
  refine g_aload_n (i := 0) (by decide +kernel) rfl ?_
  refine g_iload_n (i := 2) (by decide +kernel) rfl ?_
  refine x_puti hf hs (hs.k (k_Tr ho)) F_Tray_15 (by decide +kernel) rfl rfl rfl rfl (fun h3 hf hs => ?_)
  refine g_aload_n (i := 0) (by decide +kernel) rfl ?_
  refine x_getr (hs.k (k_Tr ho)) F_Tray_22 (by decide +kernel) rfl (hs.r (r_Tr_3 ho)) ?_
  refine g_lconst (z := 0) (v := 0) (by decide +kernel) rfl ?_
  refine x_callSV (as := [.ref (o + 1), .long (0 : Int64)]) St_Arrays_fill_JJV hf (fun q hq => t_Arrays_fill_JJV hs (k_Tr_3 ho) hq) Y_Arrays_fill_JJV L_Tray_26 (by decide +kernel) rfl rfl (Nat.le_of_ble_eq_true rfl) (by decide) (fun q4 hf hs => ?_)
  exact x_vret hf hs (by decide +kernel) rfl
def f_Top_numbers (p1 : Int32) (p2 : Int32) (p3 : Int32) (h : am_H) : Option (Int32 × am_H) :=
  (f_Top_isTray p1 h).bind fun q1 =>
  (if q1 = true then
    (if p2 < 0 then
      some ((-2 : Int32), h)
    else
      (if p2 ≤ (3 : Int32) then
        (if p3 < 0 then
          some ((-3 : Int32), h)
        else
          (if p3 ≤ (40 : Int32) then
            (am_el 102 2 4 p1).bind fun e7 =>
            (f_Tray_empty e7 p2 p3 h).bind fun q8 =>
            some ((0 : Int32), q8)
          else
            some ((-3 : Int32), h)))
      else
        some ((-2 : Int32), h)))
  else
    some ((-2 : Int32), h))
set_option maxRecDepth 100000 in
set_option maxHeartbeats 4000000 in
theorem t_Top_numbers {p1 : Int32} {p2 : Int32} {p3 : Int32} {h : am_H} (hs : am_Sh h)  {r : Int32 × am_H} (hf : f_Top_numbers p1 p2 p3 h = some r) : am_Ct 2 M_Top_numbers [.ref 0, .int p1, .int p2, .int p3] h 0 0 (am_qI r) := by
  unfold f_Top_numbers at hf
  refine am_Ct.of (by decide) rfl (Nat.le_of_ble_eq_true rfl) (ls := [(0, .ref 0), (1, .int p1), (2, .int p2), (3, .int p3)]) rfl ?_
  refine g_iload_n (i := 1) (by decide +kernel) rfl ?_
  refine x_callSBp (as := [.int p1]) St_Top_isTray hf (fun q hq => t_Top_isTray hs  hq) Y_Top_isTray L_Top_204 (by decide +kernel) rfl rfl (Nat.le_of_ble_eq_true rfl) (by decide) (fun q1 hf => ?_)
  refine x_ifb_eq (off := 12) (tgt := 16) hf (by decide +kernel) (by decide) (fun c2 hf => ?_) (fun c2 hf => ?_)
  · refine g_bipush (z := (-2)) (v := (-2)) (by decide +kernel) rfl ?_
    exact x_iret hf hs (by decide +kernel) rfl
  · refine g_iload_n (i := 2) (by decide +kernel) rfl ?_
    refine x_if_lt (off := 8) (tgt := 16) hf (by decide +kernel) (by decide) (fun c3 hf => ?_) (fun c3 hf => ?_)
    · refine g_bipush (z := (-2)) (v := (-2)) (by decide +kernel) rfl ?_
      exact x_iret hf hs (by decide +kernel) rfl
    · refine g_iload_n (i := 2) (by decide +kernel) rfl ?_
      refine g_iconst (z := 3) (v := 3) (by decide +kernel) rfl ?_
      refine x_icmp_le (off := 6) (tgt := 19) hf (by decide +kernel) (by decide) (fun c4 hf => ?_) (fun c4 hf => ?_)
      · refine g_iload_n (i := 3) (by decide +kernel) rfl ?_
        refine x_if_lt (off := 9) (tgt := 29) hf (by decide +kernel) (by decide) (fun c5 hf => ?_) (fun c5 hf => ?_)
        · refine g_bipush (z := (-3)) (v := (-3)) (by decide +kernel) rfl ?_
          exact x_iret hf hs (by decide +kernel) rfl
        · refine g_iload_n (i := 3) (by decide +kernel) rfl ?_
          refine g_bipush (z := 40) (v := 40) (by decide +kernel) rfl ?_
          refine x_icmp_le (off := 6) (tgt := 32) hf (by decide +kernel) (by decide) (fun c6 hf => ?_) (fun c6 hf => ?_)
          · refine g_aload_n (i := 0) (by decide +kernel) rfl ?_
            refine x_getr (hs.k k_0) F_Top_46 (by decide +kernel) rfl (hs.r r_0_6) ?_
            refine g_iload_n (i := 1) (by decide +kernel) rfl ?_
            refine x_aald (a := 102) (s := 2) (t0 := 4) hf (hs.k k_83) rfl (by decide +kernel) (fun j hj => hs.r (e_83 hj).1) (fun j7 hj7 hf => ?_)
            refine g_iload_n (i := 2) (by decide +kernel) rfl ?_
            refine g_iload_n (i := 3) (by decide +kernel) rfl ?_
            refine x_callVV (as := [.int p2, .int p3]) Vi_Tray_empty Vs_Tray_empty (hs.k (k_Tr (e_83 hj7).2)) rfl hf (fun q hq => t_Tray_empty hs (e_83 hj7).2 hq) Y_Tray_empty L_Top_323 (by decide +kernel) rfl rfl (Nat.le_of_ble_eq_true rfl) (by decide) (fun q8 hf hs => ?_)
            refine g_iconst (z := 0) (v := 0) (by decide +kernel) rfl ?_
            exact x_iret hf hs (by decide +kernel) rfl
          · refine g_bipush (z := (-3)) (v := (-3)) (by decide +kernel) rfl ?_
            exact x_iret hf hs (by decide +kernel) rfl
      · refine g_bipush (z := (-2)) (v := (-2)) (by decide +kernel) rfl ?_
        exact x_iret hf hs (by decide +kernel) rfl
def f_Tray_cut (o : Nat) (p1 : Int64) (h : am_H) : Option (Int64) :=
  (if (h.2.1 o 2) = (0 : Int32) then
    some ((((((p1).toInt32)).toInt8.toInt32)).toInt64)
  else if (h.2.1 o 2) = (1 : Int32) then
    some ((((((p1).toInt32)).toInt16.toInt32)).toInt64)
  else if (h.2.1 o 2) = (2 : Int32) then
    some ((((p1).toInt32)).toInt64)
  else 
    some p1)
set_option maxRecDepth 100000 in
set_option maxHeartbeats 4000000 in
theorem t_Tray_cut {o : Nat} {p1 : Int64} {h : am_H} (hs : am_Sh h) (ho : o ∈ am_trL) {r : Int64} (hf : f_Tray_cut o p1 h = some r) : am_Ct 0 M_Tray_cut [.ref o, .long p1] h 0 0 (am_pJ h r) := by
  unfold f_Tray_cut at hf
  refine am_Ct.of (by decide) rfl (Nat.le_of_ble_eq_true rfl) (ls := [(0, .ref o), (1, .long p1)]) rfl ?_
  refine g_aload_n (i := 0) (by decide +kernel) rfl ?_
  refine x_geti (hs.k (k_Tr ho)) F_Tray_19 (by decide +kernel) rfl ?_
  by_cases e0 : (h.2.1 o 2) = (0 : Int32)
  · rw [if_pos e0] at hf
    have ex : Int32.toInt (h.2.1 o 2) = 0 := by rw [e0]; rfl
    refine x_tabIn (dflt := 42) (lo := 0) (hi := 2) (offs := #[28, 33, 38]) (len := 28) (off := 28) (tgt := 32) (by decide +kernel) (by rw [ex]; decide) (by rw [ex]; decide) (by rw [ex]; rfl) (by decide) ?_
    refine g_lload_n (i := 1) (by decide +kernel) rfl ?_
    refine g_l2i (by decide +kernel) ?_
    refine g_i2b (by decide +kernel) ?_
    refine g_i2l (by decide +kernel) ?_
    exact x_lretp hf (by decide +kernel) rfl
  · rw [if_neg e0] at hf
    by_cases e1 : (h.2.1 o 2) = (1 : Int32)
    · rw [if_pos e1] at hf
      have ex : Int32.toInt (h.2.1 o 2) = 1 := by rw [e1]; rfl
      refine x_tabIn (dflt := 42) (lo := 0) (hi := 2) (offs := #[28, 33, 38]) (len := 28) (off := 33) (tgt := 37) (by decide +kernel) (by rw [ex]; decide) (by rw [ex]; decide) (by rw [ex]; rfl) (by decide) ?_
      refine g_lload_n (i := 1) (by decide +kernel) rfl ?_
      refine g_l2i (by decide +kernel) ?_
      refine g_i2s (by decide +kernel) ?_
      refine g_i2l (by decide +kernel) ?_
      exact x_lretp hf (by decide +kernel) rfl
    · rw [if_neg e1] at hf
      by_cases e2 : (h.2.1 o 2) = (2 : Int32)
      · rw [if_pos e2] at hf
        have ex : Int32.toInt (h.2.1 o 2) = 2 := by rw [e2]; rfl
        refine x_tabIn (dflt := 42) (lo := 0) (hi := 2) (offs := #[28, 33, 38]) (len := 28) (off := 38) (tgt := 42) (by decide +kernel) (by rw [ex]; decide) (by rw [ex]; decide) (by rw [ex]; rfl) (by decide) ?_
        refine g_lload_n (i := 1) (by decide +kernel) rfl ?_
        refine g_l2i (by decide +kernel) ?_
        refine g_i2l (by decide +kernel) ?_
        exact x_lretp hf (by decide +kernel) rfl
      · rw [if_neg e2] at hf
        refine x_tabOut (dflt := 42) (lo := 0) (hi := 2) (offs := #[28, 33, 38]) (len := 28) (tgt := 46) (by decide +kernel) (am_tabNe ⟨by decide, by decide⟩ (fun z hz => ?_)) (by decide) ?_
        · have hz : z < 3 := hz
          have : z = 0 ∨ z = 1 ∨ z = 2 := by omega
          rcases this with rfl | rfl | rfl
          · exact e0
          · exact e1
          · exact e2
        · refine g_lload_n (i := 1) (by decide +kernel) rfl ?_
          exact x_lretp hf (by decide +kernel) rfl
def f_Tray_put (o : Nat) (p1 : Int32) (p2 : Int64) (h : am_H) : Option (Int64 × am_H) :=
  ((if p1 < 0 then
      some h
    else
      (if (Int32.ofNat 40) ≤ p1 then
        some h
      else
        (f_Tray_cut o p2 h).bind fun q3 =>
        (am_wrJ h (o + 1) 40 p1 q3).bind fun h4 =>
        some h4)) : Option (am_H)).bind fun m5 =>
  (f_Tray_at o p1 m5).bind fun q6 =>
  some (q6, m5)
set_option maxRecDepth 100000 in
set_option maxHeartbeats 4000000 in
theorem t_Tray_put {o : Nat} {p1 : Int32} {p2 : Int64} {h : am_H} (hs : am_Sh h) (ho : o ∈ am_trL) {r : Int64 × am_H} (hf : f_Tray_put o p1 p2 h = some r) : am_Ct 1 M_Tray_put [.ref o, .int p1, .long p2] h 0 0 (am_qJ r) := by
  unfold f_Tray_put at hf
  refine am_Ct.of (by decide) rfl (Nat.le_of_ble_eq_true rfl) (ls := [(0, .ref o), (1, .int p1), (2, .long p2)]) rfl ?_
  refine g_iload_n (i := 1) (by decide +kernel) rfl ?_
  obtain ⟨m5, hm24, hf⟩ := Option.bind_eq_some_iff.mp hf
  refine am_cutS (J := 24) (ls' := [(0, .ref o), (1, .int p1), (2, .long p2)]) (st' := []) (h' := m5) (fun hs => ?_) (fun K24 => ?_)
  · refine g_aload_n (i := 0) (by decide +kernel) rfl ?_
    refine g_iload_n (i := 1) (by decide +kernel) rfl ?_
    refine x_callVJp (as := [.int p1]) Vi_Tray_at Vs_Tray_at (hs.k (k_Tr ho)) rfl hf (fun q hq => t_Tray_at hs ho hq) Y_Tray_at L_Tray_36 (by decide +kernel) rfl rfl (Nat.le_of_ble_eq_true rfl) (by decide) (fun q6 hf => ?_)
    exact x_lret hf hs (by decide +kernel) rfl
  refine x_if_lt (off := 23) (tgt := 24) hm24 (by decide +kernel) (by decide) (fun c1 hm24 => ?_) (fun c1 hm24 => ?_)
  · cases hm24
    exact am_G.forget (am_subp [0, 1, 2] rfl) (K24 hs)
  · refine g_iload_n (i := 1) (by decide +kernel) rfl ?_
    refine g_aload_n (i := 0) (by decide +kernel) rfl ?_
    refine x_getr (hs.k (k_Tr ho)) F_Tray_22 (by decide +kernel) rfl (hs.r (r_Tr_3 ho)) ?_
    refine g_alen (t0 := 1) (hs.k (k_Tr_3 ho)) rfl rfl (by decide +kernel) ?_
    refine x_icmp_ge (off := 14) (tgt := 24) hm24 (by decide +kernel) (by decide) (fun c2 hm24 => ?_) (fun c2 hm24 => ?_)
    · cases hm24
      exact am_G.forget (am_subp [0, 1, 2] rfl) (K24 hs)
    · refine g_aload_n (i := 0) (by decide +kernel) rfl ?_
      refine x_getr (hs.k (k_Tr ho)) F_Tray_22 (by decide +kernel) rfl (hs.r (r_Tr_3 ho)) ?_
      refine g_iload_n (i := 1) (by decide +kernel) rfl ?_
      refine g_aload_n (i := 0) (by decide +kernel) rfl ?_
      refine g_lload_n (i := 2) (by decide +kernel) rfl ?_
      refine x_callVJp (as := [.long p2]) Vi_Tray_cut Vs_Tray_cut (hs.k (k_Tr ho)) rfl hm24 (fun q hq => t_Tray_cut hs ho hq) Y_Tray_cut L_Tray_32 (by decide +kernel) rfl rfl (Nat.le_of_ble_eq_true rfl) (by decide) (fun q3 hm24 => ?_)
      refine x_last hm24 hs (hs.k (k_Tr_3 ho)) (by decide +kernel) (fun h4 hm24 hs => ?_)
      cases hm24
      exact am_G.forget (am_subp [0, 1, 2] rfl) (K24 hs)
def f_Top_write (p1 : Int32) (p2 : Int32) (p3 : Int64) (h : am_H) : Option (Int64 × am_H) :=
  (f_Top_isTray p1 h).bind fun q1 =>
  (if q1 = true then
    (am_el 102 2 4 p1).bind fun e3 =>
    (if (h.2.1 e3 0) = 0 then
      some ((-6 : Int64), h)
    else
      (if p2 < 0 then
        some ((-7 : Int64), h)
      else
        (am_el 102 2 4 p1).bind fun e6 =>
        (if p2 < (h.2.1 e6 1) then
          (am_el 102 2 4 p1).bind fun e8 =>
          (f_Tray_put e8 p2 p3 h).bind fun q9 =>
          some (q9.1, q9.2)
        else
          some ((-7 : Int64), h))))
  else
    some ((-2 : Int64), h))
set_option maxRecDepth 100000 in
set_option maxHeartbeats 4000000 in
theorem t_Top_write {p1 : Int32} {p2 : Int32} {p3 : Int64} {h : am_H} (hs : am_Sh h)  {r : Int64 × am_H} (hf : f_Top_write p1 p2 p3 h = some r) : am_Ct 2 M_Top_write [.ref 0, .int p1, .int p2, .long p3] h 0 0 (am_qJ r) := by
  unfold f_Top_write at hf
  refine am_Ct.of (by decide) rfl (Nat.le_of_ble_eq_true rfl) (ls := [(0, .ref 0), (1, .int p1), (2, .int p2), (3, .long p3)]) rfl ?_
  refine g_iload_n (i := 1) (by decide +kernel) rfl ?_
  refine x_callSBp (as := [.int p1]) St_Top_isTray hf (fun q hq => t_Top_isTray hs  hq) Y_Top_isTray L_Top_204 (by decide +kernel) rfl rfl (Nat.le_of_ble_eq_true rfl) (by decide) (fun q1 hf => ?_)
  refine x_ifb_ne (off := 7) (tgt := 11) hf (by decide +kernel) (by decide) (fun c2 hf => ?_) (fun c2 hf => ?_)
  · refine g_aload_n (i := 0) (by decide +kernel) rfl ?_
    refine x_getr (hs.k k_0) F_Top_46 (by decide +kernel) rfl (hs.r r_0_6) ?_
    refine g_iload_n (i := 1) (by decide +kernel) rfl ?_
    refine x_aald (a := 102) (s := 2) (t0 := 4) hf (hs.k k_83) rfl (by decide +kernel) (fun j hj => hs.r (e_83 hj).1) (fun j3 hj3 hf => ?_)
    refine x_geti (hs.k (k_Tr (e_83 hj3).2)) F_Top_207 (by decide +kernel) rfl ?_
    refine x_if_ne (off := 7) (tgt := 27) hf (by decide +kernel) (by decide) (fun c4 hf => ?_) (fun c4 hf => ?_)
    · refine g_iload_n (i := 2) (by decide +kernel) rfl ?_
      refine x_if_lt (off := 16) (tgt := 44) hf (by decide +kernel) (by decide) (fun c5 hf => ?_) (fun c5 hf => ?_)
      · refine g_ldc2 (by decide +kernel) C_Top_329 ?_
        exact x_lret hf hs (by decide +kernel) rfl
      · refine g_iload_n (i := 2) (by decide +kernel) rfl ?_
        refine g_aload_n (i := 0) (by decide +kernel) rfl ?_
        refine x_getr (hs.k k_0) F_Top_46 (by decide +kernel) rfl (hs.r r_0_6) ?_
        refine g_iload_n (i := 1) (by decide +kernel) rfl ?_
        refine x_aald (a := 102) (s := 2) (t0 := 4) hf (hs.k k_83) rfl (by decide +kernel) (fun j hj => hs.r (e_83 hj).1) (fun j6 hj6 hf => ?_)
        refine x_geti (hs.k (k_Tr (e_83 hj6).2)) F_Top_215 (by decide +kernel) rfl ?_
        refine x_icmp_lt (off := 7) (tgt := 48) hf (by decide +kernel) (by decide) (fun c7 hf => ?_) (fun c7 hf => ?_)
        · refine g_aload_n (i := 0) (by decide +kernel) rfl ?_
          refine x_getr (hs.k k_0) F_Top_46 (by decide +kernel) rfl (hs.r r_0_6) ?_
          refine g_iload_n (i := 1) (by decide +kernel) rfl ?_
          refine x_aald (a := 102) (s := 2) (t0 := 4) hf (hs.k k_83) rfl (by decide +kernel) (fun j hj => hs.r (e_83 hj).1) (fun j8 hj8 hf => ?_)
          refine g_iload_n (i := 2) (by decide +kernel) rfl ?_
          refine g_lload_n (i := 3) (by decide +kernel) rfl ?_
          refine x_callVJ (as := [.int p2, .long p3]) Vi_Tray_put Vs_Tray_put (hs.k (k_Tr (e_83 hj8).2)) rfl hf (fun q hq => t_Tray_put hs (e_83 hj8).2 hq) Y_Tray_put L_Top_331 (by decide +kernel) rfl rfl (Nat.le_of_ble_eq_true rfl) (by decide) (fun q9 hf hs => ?_)
          exact x_lret hf hs (by decide +kernel) rfl
        · refine g_ldc2 (by decide +kernel) C_Top_329 ?_
          exact x_lret hf hs (by decide +kernel) rfl
    · refine g_ldc2 (by decide +kernel) C_Top_327 ?_
      exact x_lret hf hs (by decide +kernel) rfl
  · refine g_ldc2 (by decide +kernel) C_Top_243 ?_
    exact x_lret hf hs (by decide +kernel) rfl
def f_Top_lists_L88 (p1 : Int32) (p2 : Int32) (p3 : Int32) : Nat → Int32 → Int32 → Int32 → am_H → Option (Int32 × am_H)
  | 0, _, _, _, _ => none
  | n + 1, v4, v5, v6, h =>
    (if v5 ≤ v6 then
      some (v6, h)
    else
      (am_el 102 2 4 p1).bind fun e14 =>
      ((if (v6 - v6 / (2 : Int32) * (2 : Int32)) = 0 then
          (f_Ahead_actAt (v6 / (2 : Int32)) h).bind fun q16 =>
          some ((((p2 * (10 : Int32)) + q16)).toInt64)
        else
          some (-1 : Int64)) : Option (Int64)).bind fun m17 =>
      (f_Tray_put e14 v6 m17 h).bind fun q18 =>
      f_Top_lists_L88 p1 p2 p3 n v4 v5 (v6 + (1 : Int32)) q18.2)
set_option maxRecDepth 100000 in
set_option maxHeartbeats 4000000 in
theorem t_Top_lists_L88 {p1 : Int32} {p2 : Int32} {p3 : Int32}  {Q : Option Value → am_H → Prop} : ∀ (n : Nat) (v4 : Int32) (v5 : Int32) (v6 : Int32) (h : am_H) (q : Int32 × am_H), am_Sh h → f_Top_lists_L88 p1 p2 p3 n v4 v5 v6 h = some q → (am_Sh q.2 → am_G 5 M_Top_lists 0 0 Q 143 [(0, .ref 0), (1, .int p1), (2, .int p2), (3, .int p3), (4, .int v4), (5, .int v5), (6, .int q.1)] [] q.2 0 0) → am_G 5 M_Top_lists 0 0 Q 88 [(0, .ref 0), (1, .int p1), (2, .int p2), (3, .int p3), (4, .int v4), (5, .int v5), (6, .int v6)] [] h 0 0 := by
  intro n
  induction n with
  | zero =>
    intro v4 v5 v6 h q hs hf kont
    rw [f_Top_lists_L88] at hf
    cases hf
  | succ n ih =>
    intro v4 v5 v6 h q hs hf kont
    rw [f_Top_lists_L88] at hf
    refine g_iload (i := 6) (by decide +kernel) rfl ?_
    refine g_iload (i := 5) (by decide +kernel) rfl ?_
    refine x_icmp_ge (off := 51) (tgt := 143) hf (by decide +kernel) (by decide) (fun c13 hf => ?_) (fun c13 hf => ?_)
    · cases hf
      exact am_G.forget (am_subp [0, 1, 2, 3, 4, 5, 6] rfl) (kont hs)
    · refine g_aload_n (i := 0) (by decide +kernel) rfl ?_
      refine x_getr (hs.k k_0) F_Top_46 (by decide +kernel) rfl (hs.r r_0_6) ?_
      refine g_iload_n (i := 1) (by decide +kernel) rfl ?_
      refine x_aald (a := 102) (s := 2) (t0 := 4) hf (hs.k k_83) rfl (by decide +kernel) (fun j hj => hs.r (e_83 hj).1) (fun j14 hj14 hf => ?_)
      refine g_iload (i := 6) (by decide +kernel) rfl ?_
      refine g_iload (i := 6) (by decide +kernel) rfl ?_
      refine g_iconst (z := 2) (v := 2) (by decide +kernel) rfl ?_
      refine g_irem (by decide +kernel) (by decide) ?_
      obtain ⟨m17, hm133, hf⟩ := Option.bind_eq_some_iff.mp hf
      refine am_cut (J := 133) (ls' := [(0, .ref 0), (1, .int p1), (2, .int p2), (3, .int p3), (4, .int v4), (5, .int v5), (6, .int v6)]) (st' := [.long m17, .int v6, .ref (102 + 2 * j14)]) ?_ (fun K133 => ?_)
      · refine x_callVJ (as := [.int v6, .long m17]) Vi_Tray_put Vs_Tray_put (hs.k (k_Tr (e_83 hj14).2)) rfl hf (fun q hq => t_Tray_put hs (e_83 hj14).2 hq) Y_Tray_put L_Top_331 (by decide +kernel) rfl rfl (Nat.le_of_ble_eq_true rfl) (by decide) (fun q18 hf hs => ?_)
        refine g_pop2_2 (by decide +kernel) rfl ?_
        refine g_iinc (i := 6) (z := 1) (v := (v6 + (1 : Int32))) (by decide +kernel) rfl rfl rfl (by decide) (ls1 := [(0, .ref 0), (1, .int p1), (2, .int p2), (3, .int p3), (4, .int v4), (5, .int v5), (6, .int (v6 + (1 : Int32)))]) rfl ?_
        refine g_goto (off := (-52)) (tgt := 88) (by decide +kernel) (by decide) ?_
        exact am_G.forget (am_subp [0, 1, 2, 3, 4, 5, 6] rfl) (ih _ _ _ _ _ hs hf kont)
      refine x_if_ne (off := 23) (tgt := 130) hm133 (by decide +kernel) (by decide) (fun c15 hm133 => ?_) (fun c15 hm133 => ?_)
      · refine g_ldc2 (by decide +kernel) C_Top_319 ?_
        cases hm133
        exact am_G.forget (am_subp [0, 1, 2, 3, 4, 5, 6] rfl) K133
      · refine g_iload_n (i := 2) (by decide +kernel) rfl ?_
        refine g_bipush (z := 10) (v := 10) (by decide +kernel) rfl ?_
        refine g_imul (by decide +kernel) ?_
        refine g_aload_n (i := 0) (by decide +kernel) rfl ?_
        refine x_getr (hs.k k_0) F_Top_63 (by decide +kernel) rfl (hs.r r_0_9) ?_
        refine g_iload (i := 6) (by decide +kernel) rfl ?_
        refine g_iconst (z := 2) (v := 2) (by decide +kernel) rfl ?_
        refine g_idiv (by decide +kernel) (by decide) ?_
        refine x_callVIp (as := [.int (v6 / (2 : Int32))]) Vi_Ahead_actAt Vs_Ahead_actAt (hs.k k_86) rfl hm133 (fun q hq => t_Ahead_actAt hs  hq) Y_Ahead_actAt L_Top_240 (by decide +kernel) rfl rfl (Nat.le_of_ble_eq_true rfl) (by decide) (fun q16 hm133 => ?_)
        refine g_iadd (by decide +kernel) ?_
        refine g_i2l (by decide +kernel) ?_
        refine g_goto (off := 6) (tgt := 133) (by decide +kernel) (by decide) ?_
        cases hm133
        exact am_G.forget (am_subp [0, 1, 2, 3, 4, 5, 6] rfl) K133
def f_Top_lists (p1 : Int32) (p2 : Int32) (p3 : Int32) (h : am_H) : Option (Int32 × am_H) :=
  (f_Top_isTray p1 h).bind fun q1 =>
  (if q1 = true then
    (f_River_hasPerson 1 p2 h).bind fun q3 =>
    (if q3 = true then
      (f_River_hasSpot 1 p3 h).bind fun q5 =>
      (if q5 = true then
        (am_el 102 2 4 p1).bind fun e7 =>
        (if (h.2.1 e7 0) = 0 then
          some ((-6 : Int32), h)
        else
          (f_Ahead_findWay p2 p3 h).bind fun q9 =>
          (if q9.1 = (-1 : Int32) then
            some ((-5 : Int32), q9.2)
          else
            (am_el 102 2 4 p1).bind fun e11 =>
            am_let (if (q9.2.2.1 e11 1) < ((2 : Int32) * q9.1) then (q9.2.2.1 e11 1) else ((2 : Int32) * q9.1)) fun y12 =>
            (f_Top_lists_L88 p1 p2 p3 am_fu q9.1 y12 (0 : Int32) q9.2).bind fun q19 =>
            some (y12, q19.2)))
      else
        some ((-2 : Int32), h))
    else
      some ((-2 : Int32), h))
  else
    some ((-2 : Int32), h))
set_option maxRecDepth 100000 in
set_option maxHeartbeats 4000000 in
theorem t_Top_lists {p1 : Int32} {p2 : Int32} {p3 : Int32} {h : am_H} (hs : am_Sh h)  {r : Int32 × am_H} (hf : f_Top_lists p1 p2 p3 h = some r) : am_Ct 5 M_Top_lists [.ref 0, .int p1, .int p2, .int p3] h 0 0 (am_qI r) := by
  unfold f_Top_lists at hf
  refine am_Ct.of (by decide) rfl (Nat.le_of_ble_eq_true rfl) (ls := [(0, .ref 0), (1, .int p1), (2, .int p2), (3, .int p3)]) rfl ?_
  refine g_iload_n (i := 1) (by decide +kernel) rfl ?_
  refine x_callSBp (as := [.int p1]) St_Top_isTray hf (fun q hq => t_Top_isTray hs  hq) Y_Top_isTray L_Top_204 (by decide +kernel) rfl rfl (Nat.le_of_ble_eq_true rfl) (by decide) (fun q1 hf => ?_)
  refine x_ifb_eq (off := 25) (tgt := 29) hf (by decide +kernel) (by decide) (fun c2 hf => ?_) (fun c2 hf => ?_)
  · refine g_bipush (z := (-2)) (v := (-2)) (by decide +kernel) rfl ?_
    exact x_iret hf hs (by decide +kernel) rfl
  · refine g_aload_n (i := 0) (by decide +kernel) rfl ?_
    refine x_getr (hs.k k_0) F_Top_10 (by decide +kernel) rfl (hs.r r_0_0) ?_
    refine g_iload_n (i := 2) (by decide +kernel) rfl ?_
    refine x_callVBp (as := [.int p2]) Vi_River_hasPerson Vs_River_hasPerson (hs.k k_1) rfl hf (fun q hq => t_River_hasPerson hs (by decide) hq) Y_River_hasPerson L_Top_140 (by decide +kernel) rfl rfl (Nat.le_of_ble_eq_true rfl) (by decide) (fun q3 hf => ?_)
    refine x_ifb_eq (off := 14) (tgt := 29) hf (by decide +kernel) (by decide) (fun c4 hf => ?_) (fun c4 hf => ?_)
    · refine g_bipush (z := (-2)) (v := (-2)) (by decide +kernel) rfl ?_
      exact x_iret hf hs (by decide +kernel) rfl
    · refine g_aload_n (i := 0) (by decide +kernel) rfl ?_
      refine x_getr (hs.k k_0) F_Top_10 (by decide +kernel) rfl (hs.r r_0_0) ?_
      refine g_iload_n (i := 3) (by decide +kernel) rfl ?_
      refine x_callVBp (as := [.int p3]) Vi_River_hasSpot Vs_River_hasSpot (hs.k k_1) rfl hf (fun q hq => t_River_hasSpot hs (by decide) hq) Y_River_hasSpot L_Top_230 (by decide +kernel) rfl rfl (Nat.le_of_ble_eq_true rfl) (by decide) (fun q5 hf => ?_)
      refine x_ifb_ne (off := 6) (tgt := 32) hf (by decide +kernel) (by decide) (fun c6 hf => ?_) (fun c6 hf => ?_)
      · refine g_aload_n (i := 0) (by decide +kernel) rfl ?_
        refine x_getr (hs.k k_0) F_Top_46 (by decide +kernel) rfl (hs.r r_0_6) ?_
        refine g_iload_n (i := 1) (by decide +kernel) rfl ?_
        refine x_aald (a := 102) (s := 2) (t0 := 4) hf (hs.k k_83) rfl (by decide +kernel) (fun j hj => hs.r (e_83 hj).1) (fun j7 hj7 hf => ?_)
        refine x_geti (hs.k (k_Tr (e_83 hj7).2)) F_Top_207 (by decide +kernel) rfl ?_
        refine x_if_ne (off := 6) (tgt := 47) hf (by decide +kernel) (by decide) (fun c8 hf => ?_) (fun c8 hf => ?_)
        · refine g_aload_n (i := 0) (by decide +kernel) rfl ?_
          refine x_getr (hs.k k_0) F_Top_63 (by decide +kernel) rfl (hs.r r_0_9) ?_
          refine g_iload_n (i := 2) (by decide +kernel) rfl ?_
          refine g_iload_n (i := 3) (by decide +kernel) rfl ?_
          refine x_callVI (as := [.int p2, .int p3]) Vi_Ahead_findWay Vs_Ahead_findWay (hs.k k_86) rfl hf (fun q hq => t_Ahead_findWay hs  hq) Y_Ahead_findWay L_Top_237 (by decide +kernel) rfl rfl (Nat.le_of_ble_eq_true rfl) (by decide) (fun q9 hf hs => ?_)
          refine g_istore (i := 4) (by decide +kernel) rfl (by decide) (ls1 := [(0, .ref 0), (1, .int p1), (2, .int p2), (3, .int p3), (4, .int q9.1)]) rfl ?_
          refine g_iload (i := 4) (by decide +kernel) rfl ?_
          refine g_iconst (z := (-1)) (v := (-1)) (by decide +kernel) rfl ?_
          refine x_icmp_ne (off := 6) (tgt := 67) hf (by decide +kernel) (by decide) (fun c10 hf => ?_) (fun c10 hf => ?_)
          · refine g_iconst (z := 2) (v := 2) (by decide +kernel) rfl ?_
            refine g_iload (i := 4) (by decide +kernel) rfl ?_
            refine g_imul (by decide +kernel) ?_
            refine g_aload_n (i := 0) (by decide +kernel) rfl ?_
            refine x_getr (hs.k k_0) F_Top_46 (by decide +kernel) rfl (hs.r r_0_6) ?_
            refine g_iload_n (i := 1) (by decide +kernel) rfl ?_
            refine x_aald (a := 102) (s := 2) (t0 := 4) hf (hs.k k_83) rfl (by decide +kernel) (fun j hj => hs.r (e_83 hj).1) (fun j11 hj11 hf => ?_)
            refine x_geti (hs.k (k_Tr (e_83 hj11).2)) F_Top_215 (by decide +kernel) rfl ?_
            refine g_mmin L_Top_335 (by decide +kernel) (by decide) (Nat.le_of_ble_eq_true rfl) ?_
            refine x_nmI hf (fun y12 hf => ?_)
            refine g_istore (i := 5) (by decide +kernel) rfl (by decide) (ls1 := [(0, .ref 0), (1, .int p1), (2, .int p2), (3, .int p3), (4, .int q9.1), (5, .int y12)]) rfl ?_
            refine g_iconst (z := 0) (v := 0) (by decide +kernel) rfl ?_
            refine g_istore (i := 6) (by decide +kernel) rfl (by decide) (ls1 := [(0, .ref 0), (1, .int p1), (2, .int p2), (3, .int p3), (4, .int q9.1), (5, .int y12), (6, .int (0 : Int32))]) rfl ?_
            obtain ⟨q19, hqq19, hf⟩ := Option.bind_eq_some_iff.mp hf
            refine t_Top_lists_L88  am_fu _ _ _ _ q19 hs hqq19 (fun hs => ?_)
            refine g_iload (i := 5) (by decide +kernel) rfl ?_
            exact x_iret hf hs (by decide +kernel) rfl
          · refine g_bipush (z := (-5)) (v := (-5)) (by decide +kernel) rfl ?_
            exact x_iret hf hs (by decide +kernel) rfl
        · refine g_bipush (z := (-6)) (v := (-6)) (by decide +kernel) rfl ?_
          exact x_iret hf hs (by decide +kernel) rfl
      · refine g_bipush (z := (-2)) (v := (-2)) (by decide +kernel) rfl ?_
        exact x_iret hf hs (by decide +kernel) rfl
def f_Top_image (p1 : Int32) (h : am_H) : Option (Int32 × am_H) :=
  (if p1 < 0 then
    some ((-2 : Int32), h)
  else
    (if p1 < (2 : Int32) then
      am_let (am_sI h 0 14 ((h.2.1 0 14) ||| ((1 : Int32) <<< (p1 &&& 31)))) fun h3 =>
      (am_el 110 13 2 p1).bind fun e4 =>
      (f_River_copyFrom e4 1 h3).bind fun q5 =>
      (am_el 119 13 2 p1).bind fun e6 =>
      (f_State_copyFrom e6 10 q5).bind fun q7 =>
      some ((0 : Int32), q7)
    else
      some ((-2 : Int32), h)))
set_option maxRecDepth 100000 in
set_option maxHeartbeats 4000000 in
theorem t_Top_image {p1 : Int32} {h : am_H} (hs : am_Sh h)  {r : Int32 × am_H} (hf : f_Top_image p1 h = some r) : am_Ct 2 M_Top_image [.ref 0, .int p1] h 0 0 (am_qI r) := by
  unfold f_Top_image at hf
  refine am_Ct.of (by decide) rfl (Nat.le_of_ble_eq_true rfl) (ls := [(0, .ref 0), (1, .int p1)]) rfl ?_
  refine g_iload_n (i := 1) (by decide +kernel) rfl ?_
  refine x_if_lt (off := 8) (tgt := 9) hf (by decide +kernel) (by decide) (fun c1 hf => ?_) (fun c1 hf => ?_)
  · refine g_bipush (z := (-2)) (v := (-2)) (by decide +kernel) rfl ?_
    exact x_iret hf hs (by decide +kernel) rfl
  · refine g_iload_n (i := 1) (by decide +kernel) rfl ?_
    refine g_iconst (z := 2) (v := 2) (by decide +kernel) rfl ?_
    refine x_icmp_lt (off := 6) (tgt := 12) hf (by decide +kernel) (by decide) (fun c2 hf => ?_) (fun c2 hf => ?_)
    · refine g_aload_n (i := 0) (by decide +kernel) rfl ?_
      refine g_dup (by decide +kernel) rfl ?_
      refine x_geti (hs.k k_0) F_Top_94 (by decide +kernel) rfl ?_
      refine g_iconst (z := 1) (v := 1) (by decide +kernel) rfl ?_
      refine g_iload_n (i := 1) (by decide +kernel) rfl ?_
      refine g_ishl (by decide +kernel) ?_
      refine g_ior (by decide +kernel) ?_
      refine x_puti hf hs (hs.k k_0) F_Top_94 (by decide +kernel) rfl rfl rfl rfl (fun h3 hf hs => ?_)
      refine g_aload_n (i := 0) (by decide +kernel) rfl ?_
      refine x_getr (hs.k k_0) F_Top_50 (by decide +kernel) rfl (hs.r r_0_7) ?_
      refine g_iload_n (i := 1) (by decide +kernel) rfl ?_
      refine x_aald (a := 110) (s := 13) (t0 := 5) hf (hs.k k_84) rfl (by decide +kernel) (fun j hj => hs.r (e_84 hj).1) (fun j4 hj4 hf => ?_)
      refine g_aload_n (i := 0) (by decide +kernel) rfl ?_
      refine x_getr (hs.k k_0) F_Top_10 (by decide +kernel) rfl (hs.r r_0_0) ?_
      refine x_callVV (as := [.ref 1]) Vi_River_copyFrom Vs_River_copyFrom (hs.k (k_Rv (e_84 hj4).2)) rfl hf (fun q hq => t_River_copyFrom hs (e_84 hj4).2 (by decide) hq) Y_River_copyFrom L_Top_109 (by decide +kernel) rfl rfl (Nat.le_of_ble_eq_true rfl) (by decide) (fun q5 hf hs => ?_)
      refine g_aload_n (i := 0) (by decide +kernel) rfl ?_
      refine x_getr (hs.k k_0) F_Top_54 (by decide +kernel) rfl (hs.r r_0_8) ?_
      refine g_iload_n (i := 1) (by decide +kernel) rfl ?_
      refine x_aald (a := 119) (s := 13) (t0 := 6) hf (hs.k k_85) rfl (by decide +kernel) (fun j hj => hs.r (e_85 hj).1) (fun j6 hj6 hf => ?_)
      refine g_aload_n (i := 0) (by decide +kernel) rfl ?_
      refine x_getr (hs.k k_0) F_Top_19 (by decide +kernel) rfl (hs.r r_0_1) ?_
      refine x_callVV (as := [.ref 10]) Vi_State_copyFrom Vs_State_copyFrom (hs.k (k_St (e_85 hj6).2)) rfl hf (fun q hq => t_State_copyFrom hs (e_85 hj6).2 (by decide) hq) Y_State_copyFrom L_Top_201 (by decide +kernel) rfl rfl (Nat.le_of_ble_eq_true rfl) (by decide) (fun q7 hf hs => ?_)
      refine g_iconst (z := 0) (v := 0) (by decide +kernel) rfl ?_
      exact x_iret hf hs (by decide +kernel) rfl
    · refine g_bipush (z := (-2)) (v := (-2)) (by decide +kernel) rfl ?_
      exact x_iret hf hs (by decide +kernel) rfl
def f_Top_restore (p1 : Int32) (h : am_H) : Option (Int32 × am_H) :=
  (if p1 < 0 then
    some ((-2 : Int32), h)
  else
    (if p1 < (2 : Int32) then
      (f_Top_hasBit (h.2.1 0 14) p1 h).bind fun q3 =>
      (if q3 = true then
        (am_el 110 13 2 p1).bind fun e5 =>
        (f_River_copyFrom 1 e5 h).bind fun q6 =>
        (am_el 119 13 2 p1).bind fun e7 =>
        (f_State_copyFrom 10 e7 q6).bind fun q8 =>
        (f_Past_forget  q8).bind fun q9 =>
        (f_Weeks_forget  q9).bind fun q10 =>
        some ((0 : Int32), q10)
      else
        some ((-5 : Int32), h))
    else
      some ((-2 : Int32), h)))
set_option maxRecDepth 100000 in
set_option maxHeartbeats 4000000 in
theorem t_Top_restore {p1 : Int32} {h : am_H} (hs : am_Sh h)  {r : Int32 × am_H} (hf : f_Top_restore p1 h = some r) : am_Ct 2 M_Top_restore [.ref 0, .int p1] h 0 0 (am_qI r) := by
  unfold f_Top_restore at hf
  refine am_Ct.of (by decide) rfl (Nat.le_of_ble_eq_true rfl) (ls := [(0, .ref 0), (1, .int p1)]) rfl ?_
  refine g_iload_n (i := 1) (by decide +kernel) rfl ?_
  refine x_if_lt (off := 8) (tgt := 9) hf (by decide +kernel) (by decide) (fun c1 hf => ?_) (fun c1 hf => ?_)
  · refine g_bipush (z := (-2)) (v := (-2)) (by decide +kernel) rfl ?_
    exact x_iret hf hs (by decide +kernel) rfl
  · refine g_iload_n (i := 1) (by decide +kernel) rfl ?_
    refine g_iconst (z := 2) (v := 2) (by decide +kernel) rfl ?_
    refine x_icmp_lt (off := 6) (tgt := 12) hf (by decide +kernel) (by decide) (fun c2 hf => ?_) (fun c2 hf => ?_)
    · refine g_aload_n (i := 0) (by decide +kernel) rfl ?_
      refine x_geti (hs.k k_0) F_Top_94 (by decide +kernel) rfl ?_
      refine g_iload_n (i := 1) (by decide +kernel) rfl ?_
      refine x_callSBp (as := [.int (h.2.1 0 14), .int p1]) St_Top_hasBit hf (fun q hq => t_Top_hasBit hs  hq) Y_Top_hasBit L_Top_340 (by decide +kernel) rfl rfl (Nat.le_of_ble_eq_true rfl) (by decide) (fun q3 hf => ?_)
      refine x_ifb_ne (off := 6) (tgt := 26) hf (by decide +kernel) (by decide) (fun c4 hf => ?_) (fun c4 hf => ?_)
      · refine g_aload_n (i := 0) (by decide +kernel) rfl ?_
        refine x_getr (hs.k k_0) F_Top_10 (by decide +kernel) rfl (hs.r r_0_0) ?_
        refine g_aload_n (i := 0) (by decide +kernel) rfl ?_
        refine x_getr (hs.k k_0) F_Top_50 (by decide +kernel) rfl (hs.r r_0_7) ?_
        refine g_iload_n (i := 1) (by decide +kernel) rfl ?_
        refine x_aald (a := 110) (s := 13) (t0 := 5) hf (hs.k k_84) rfl (by decide +kernel) (fun j hj => hs.r (e_84 hj).1) (fun j5 hj5 hf => ?_)
        refine x_callVV (as := [.ref (110 + 13 * j5)]) Vi_River_copyFrom Vs_River_copyFrom (hs.k k_1) rfl hf (fun q hq => t_River_copyFrom hs (by decide) (e_84 hj5).2 hq) Y_River_copyFrom L_Top_109 (by decide +kernel) rfl rfl (Nat.le_of_ble_eq_true rfl) (by decide) (fun q6 hf hs => ?_)
        refine g_aload_n (i := 0) (by decide +kernel) rfl ?_
        refine x_getr (hs.k k_0) F_Top_19 (by decide +kernel) rfl (hs.r r_0_1) ?_
        refine g_aload_n (i := 0) (by decide +kernel) rfl ?_
        refine x_getr (hs.k k_0) F_Top_54 (by decide +kernel) rfl (hs.r r_0_8) ?_
        refine g_iload_n (i := 1) (by decide +kernel) rfl ?_
        refine x_aald (a := 119) (s := 13) (t0 := 6) hf (hs.k k_85) rfl (by decide +kernel) (fun j hj => hs.r (e_85 hj).1) (fun j7 hj7 hf => ?_)
        refine x_callVV (as := [.ref (119 + 13 * j7)]) Vi_State_copyFrom Vs_State_copyFrom (hs.k k_10) rfl hf (fun q hq => t_State_copyFrom hs (by decide) (e_85 hj7).2 hq) Y_State_copyFrom L_Top_201 (by decide +kernel) rfl rfl (Nat.le_of_ble_eq_true rfl) (by decide) (fun q8 hf hs => ?_)
        refine g_aload_n (i := 0) (by decide +kernel) rfl ?_
        refine x_getr (hs.k k_0) F_Top_29 (by decide +kernel) rfl (hs.r r_0_3) ?_
        refine x_callVV (as := []) Vi_Past_forget Vs_Past_forget (hs.k k_18) rfl hf (fun q hq => t_Past_forget hs  hq) Y_Past_forget L_Top_116 (by decide +kernel) rfl rfl (Nat.le_of_ble_eq_true rfl) (by decide) (fun q9 hf hs => ?_)
        refine g_aload_n (i := 0) (by decide +kernel) rfl ?_
        refine x_getr (hs.k k_0) F_Top_72 (by decide +kernel) rfl (hs.r r_0_10) ?_
        refine x_callVV (as := []) Vi_Weeks_forget Vs_Weeks_forget (hs.k k_91) rfl hf (fun q hq => t_Weeks_forget hs  hq) Y_Weeks_forget L_Top_119 (by decide +kernel) rfl rfl (Nat.le_of_ble_eq_true rfl) (by decide) (fun q10 hf hs => ?_)
        refine g_iconst (z := 0) (v := 0) (by decide +kernel) rfl ?_
        exact x_iret hf hs (by decide +kernel) rfl
      · refine g_bipush (z := (-5)) (v := (-5)) (by decide +kernel) rfl ?_
        exact x_iret hf hs (by decide +kernel) rfl
    · refine g_bipush (z := (-2)) (v := (-2)) (by decide +kernel) rfl ?_
      exact x_iret hf hs (by decide +kernel) rfl
def f_River_withErrands_L4 (o : Nat) : Nat → Int32 → Int32 → am_H → Option (Int32 × Int32)
  | 0, _, _, _ => none
  | n + 1, v1, v2, h =>
    (if (h.2.1 o 2) ≤ v2 then
      some (v1, v2)
    else
      (am_rd (h.2.1 (o + 4)) 5 v2).bind fun x2 =>
      (if x2 = (-1 : Int32) then
        f_River_withErrands_L4 o n v1 (v2 + (1 : Int32)) h
      else
        f_River_withErrands_L4 o n (v1 ||| ((1 : Int32) <<< (v2 &&& 31))) (v2 + (1 : Int32)) h))
set_option maxRecDepth 100000 in
set_option maxHeartbeats 4000000 in
theorem t_River_withErrands_L4 {o : Nat} (ho : o ∈ am_rvL) {Q : Option Value → am_H → Prop} : ∀ (n : Nat) (v1 : Int32) (v2 : Int32) (h : am_H) (q : Int32 × Int32), am_Sh h → f_River_withErrands_L4 o n v1 v2 h = some q → (am_G 0 M_River_withErrands 0 0 Q 34 [(0, .ref o), (1, .int q.1), (2, .int q.2)] [] h 0 0) → am_G 0 M_River_withErrands 0 0 Q 4 [(0, .ref o), (1, .int v1), (2, .int v2)] [] h 0 0 := by
  intro n
  induction n with
  | zero =>
    intro v1 v2 h q hs hf kont
    rw [f_River_withErrands_L4] at hf
    cases hf
  | succ n ih =>
    intro v1 v2 h q hs hf kont
    rw [f_River_withErrands_L4] at hf
    refine g_iload_n (i := 2) (by decide +kernel) rfl ?_
    refine g_aload_n (i := 0) (by decide +kernel) rfl ?_
    refine x_geti (hs.k (k_Rv ho)) F_River_18 (by decide +kernel) rfl ?_
    refine x_icmp_ge (off := 25) (tgt := 34) hf (by decide +kernel) (by decide) (fun c1 hf => ?_) (fun c1 hf => ?_)
    · cases hf
      exact am_G.forget (am_subp [0, 1, 2] rfl) kont
    · refine g_aload_n (i := 0) (by decide +kernel) rfl ?_
      refine x_getr (hs.k (k_Rv ho)) F_River_40 (by decide +kernel) rfl (hs.r (r_Rv_9 ho)) ?_
      refine g_iload_n (i := 2) (by decide +kernel) rfl ?_
      refine x_iald hf (hs.k (k_Rv_9 ho)) (by decide +kernel) (fun x2 hf => ?_)
      refine g_iconst (z := (-1)) (v := (-1)) (by decide +kernel) rfl ?_
      refine x_icmp_eq (off := 9) (tgt := 28) hf (by decide +kernel) (by decide) (fun c3 hf => ?_) (fun c3 hf => ?_)
      · refine g_iinc (i := 2) (z := 1) (v := (v2 + (1 : Int32))) (by decide +kernel) rfl rfl rfl (by decide) (ls1 := [(0, .ref o), (1, .int v1), (2, .int (v2 + (1 : Int32)))]) rfl ?_
        refine g_goto (off := (-27)) (tgt := 4) (by decide +kernel) (by decide) ?_
        exact am_G.forget (am_subp [0, 1, 2] rfl) (ih _ _ _ _ hs hf kont)
      · refine g_iload_n (i := 1) (by decide +kernel) rfl ?_
        refine g_iconst (z := 1) (v := 1) (by decide +kernel) rfl ?_
        refine g_iload_n (i := 2) (by decide +kernel) rfl ?_
        refine g_ishl (by decide +kernel) ?_
        refine g_ior (by decide +kernel) ?_
        refine g_istore_n (i := 1) (by decide +kernel) rfl (by decide) (ls1 := [(0, .ref o), (1, .int (v1 ||| ((1 : Int32) <<< (v2 &&& 31)))), (2, .int v2)]) rfl ?_
        refine g_iinc (i := 2) (z := 1) (v := (v2 + (1 : Int32))) (by decide +kernel) rfl rfl rfl (by decide) (ls1 := [(0, .ref o), (1, .int (v1 ||| ((1 : Int32) <<< (v2 &&& 31)))), (2, .int (v2 + (1 : Int32)))]) rfl ?_
        refine g_goto (off := (-27)) (tgt := 4) (by decide +kernel) (by decide) ?_
        exact am_G.forget (am_subp [0, 1, 2] rfl) (ih _ _ _ _ hs hf kont)
def f_River_withErrands (o : Nat) (h : am_H) : Option (Int32) :=
  (f_River_withErrands_L4 o am_fu (0 : Int32) (0 : Int32) h).bind fun q4 =>
  some q4.1
set_option maxRecDepth 100000 in
set_option maxHeartbeats 4000000 in
theorem t_River_withErrands {o : Nat} {h : am_H} (hs : am_Sh h) (ho : o ∈ am_rvL) {r : Int32} (hf : f_River_withErrands o h = some r) : am_Ct 0 M_River_withErrands [.ref o] h 0 0 (am_pI h r) := by
  unfold f_River_withErrands at hf
  refine am_Ct.of (by decide) rfl (Nat.le_of_ble_eq_true rfl) (ls := [(0, .ref o)]) rfl ?_
  refine g_iconst (z := 0) (v := 0) (by decide +kernel) rfl ?_
  refine g_istore_n (i := 1) (by decide +kernel) rfl (by decide) (ls1 := [(0, .ref o), (1, .int (0 : Int32))]) rfl ?_
  refine g_iconst (z := 0) (v := 0) (by decide +kernel) rfl ?_
  refine g_istore_n (i := 2) (by decide +kernel) rfl (by decide) (ls1 := [(0, .ref o), (1, .int (0 : Int32)), (2, .int (0 : Int32))]) rfl ?_
  obtain ⟨q4, hqq4, hf⟩ := Option.bind_eq_some_iff.mp hf
  refine t_River_withErrands_L4 ho am_fu _ _ _ q4 hs hqq4 ?_
  refine g_iload_n (i := 1) (by decide +kernel) rfl ?_
  exact x_iretp hf (by decide +kernel) rfl
def f_State_onSpan_L4 (o : Nat) (p1 : Nat) : Nat → Int32 → Int32 → am_H → Option (Int32 × Int32)
  | 0, _, _, _ => none
  | n + 1, v2, v3, h =>
    (if (h.2.1 p1 2) ≤ v3 then
      some (v2, v3)
    else
      (am_rd (h.2.1 (o + 2)) 5 v3).bind fun x2 =>
      (if x2 = (8 : Int32) then
        f_State_onSpan_L4 o p1 n (v2 ||| ((1 : Int32) <<< (v3 &&& 31))) (v3 + (1 : Int32)) h
      else
        f_State_onSpan_L4 o p1 n v2 (v3 + (1 : Int32)) h))
set_option maxRecDepth 100000 in
set_option maxHeartbeats 4000000 in
theorem t_State_onSpan_L4 {o : Nat} {p1 : Nat} (ho : o ∈ am_stL) (hp1 : p1 ∈ am_rvL) {Q : Option Value → am_H → Prop} : ∀ (n : Nat) (v2 : Int32) (v3 : Int32) (h : am_H) (q : Int32 × Int32), am_Sh h → f_State_onSpan_L4 o p1 n v2 v3 h = some q → (am_G 0 M_State_onSpan 0 0 Q 35 [(0, .ref o), (1, .ref p1), (2, .int q.1), (3, .int q.2)] [] h 0 0) → am_G 0 M_State_onSpan 0 0 Q 4 [(0, .ref o), (1, .ref p1), (2, .int v2), (3, .int v3)] [] h 0 0 := by
  intro n
  induction n with
  | zero =>
    intro v2 v3 h q hs hf kont
    rw [f_State_onSpan_L4] at hf
    cases hf
  | succ n ih =>
    intro v2 v3 h q hs hf kont
    rw [f_State_onSpan_L4] at hf
    refine g_iload_n (i := 3) (by decide +kernel) rfl ?_
    refine g_aload_n (i := 1) (by decide +kernel) rfl ?_
    refine x_geti (hs.k (k_Rv hp1)) F_State_58 (by decide +kernel) rfl ?_
    refine x_icmp_ge (off := 26) (tgt := 35) hf (by decide +kernel) (by decide) (fun c1 hf => ?_) (fun c1 hf => ?_)
    · cases hf
      exact am_G.forget (am_subp [0, 1, 2, 3] rfl) kont
    · refine g_aload_n (i := 0) (by decide +kernel) rfl ?_
      refine x_getr (hs.k (k_St ho)) F_State_25 (by decide +kernel) rfl (hs.r (r_St_4 ho)) ?_
      refine g_iload_n (i := 3) (by decide +kernel) rfl ?_
      refine x_iald hf (hs.k (k_St_4 ho)) (by decide +kernel) (fun x2 hf => ?_)
      refine g_bipush (z := 8) (v := 8) (by decide +kernel) rfl ?_
      refine x_icmp_ne (off := 9) (tgt := 29) hf (by decide +kernel) (by decide) (fun c3 hf => ?_) (fun c3 hf => ?_)
      · refine g_iinc (i := 3) (z := 1) (v := (v3 + (1 : Int32))) (by decide +kernel) rfl rfl rfl (by decide) (ls1 := [(0, .ref o), (1, .ref p1), (2, .int v2), (3, .int (v3 + (1 : Int32)))]) rfl ?_
        refine g_goto (off := (-28)) (tgt := 4) (by decide +kernel) (by decide) ?_
        exact am_G.forget (am_subp [0, 1, 2, 3] rfl) (ih _ _ _ _ hs hf kont)
      · refine g_iload_n (i := 2) (by decide +kernel) rfl ?_
        refine g_iconst (z := 1) (v := 1) (by decide +kernel) rfl ?_
        refine g_iload_n (i := 3) (by decide +kernel) rfl ?_
        refine g_ishl (by decide +kernel) ?_
        refine g_ior (by decide +kernel) ?_
        refine g_istore_n (i := 2) (by decide +kernel) rfl (by decide) (ls1 := [(0, .ref o), (1, .ref p1), (2, .int (v2 ||| ((1 : Int32) <<< (v3 &&& 31)))), (3, .int v3)]) rfl ?_
        refine g_iinc (i := 3) (z := 1) (v := (v3 + (1 : Int32))) (by decide +kernel) rfl rfl rfl (by decide) (ls1 := [(0, .ref o), (1, .ref p1), (2, .int (v2 ||| ((1 : Int32) <<< (v3 &&& 31)))), (3, .int (v3 + (1 : Int32)))]) rfl ?_
        refine g_goto (off := (-28)) (tgt := 4) (by decide +kernel) (by decide) ?_
        exact am_G.forget (am_subp [0, 1, 2, 3] rfl) (ih _ _ _ _ hs hf kont)
def f_State_onSpan (o : Nat) (p1 : Nat) (h : am_H) : Option (Int32) :=
  (f_State_onSpan_L4 o p1 am_fu (0 : Int32) (0 : Int32) h).bind fun q4 =>
  some q4.1
set_option maxRecDepth 100000 in
set_option maxHeartbeats 4000000 in
theorem t_State_onSpan {o : Nat} {p1 : Nat} {h : am_H} (hs : am_Sh h) (ho : o ∈ am_stL) (hp1 : p1 ∈ am_rvL) {r : Int32} (hf : f_State_onSpan o p1 h = some r) : am_Ct 0 M_State_onSpan [.ref o, .ref p1] h 0 0 (am_pI h r) := by
  unfold f_State_onSpan at hf
  refine am_Ct.of (by decide) rfl (Nat.le_of_ble_eq_true rfl) (ls := [(0, .ref o), (1, .ref p1)]) rfl ?_
  refine g_iconst (z := 0) (v := 0) (by decide +kernel) rfl ?_
  refine g_istore_n (i := 2) (by decide +kernel) rfl (by decide) (ls1 := [(0, .ref o), (1, .ref p1), (2, .int (0 : Int32))]) rfl ?_
  refine g_iconst (z := 0) (v := 0) (by decide +kernel) rfl ?_
  refine g_istore_n (i := 3) (by decide +kernel) rfl (by decide) (ls1 := [(0, .ref o), (1, .ref p1), (2, .int (0 : Int32)), (3, .int (0 : Int32))]) rfl ?_
  obtain ⟨q4, hqq4, hf⟩ := Option.bind_eq_some_iff.mp hf
  refine t_State_onSpan_L4 ho hp1 am_fu _ _ _ q4 hs hqq4 ?_
  refine g_iload_n (i := 2) (by decide +kernel) rfl ?_
  exact x_iretp hf (by decide +kernel) rfl
def f_Top_count (p1 : Int32) (h : am_H) : Option (Int32) :=
  (if p1 = (0 : Int32) then
    some (h.2.1 1 0)
  else if p1 = (1 : Int32) then
    some (h.2.1 1 1)
  else if p1 = (2 : Int32) then
    some (h.2.1 1 2)
  else if p1 = (3 : Int32) then
    (f_River_withErrands 1 h).bind fun q1 =>
    some q1
  else if p1 = (4 : Int32) then
    some (h.2.1 10 2)
  else if p1 = (5 : Int32) then
    (f_State_onSpan 10 1 h).bind fun q2 =>
    some q2
  else if p1 = (6 : Int32) then
    some (h.2.1 10 0)
  else if p1 = (7 : Int32) then
    some (h.2.1 10 1)
  else if p1 = (8 : Int32) then
    some (h.2.1 1 3)
  else if p1 = (9 : Int32) then
    some (h.2.1 18 2)
  else if p1 = (10 : Int32) then
    some (h.2.1 0 13)
  else if p1 = (11 : Int32) then
    some (h.2.1 1 5)
  else 
    some (-1 : Int32))
set_option maxRecDepth 100000 in
set_option maxHeartbeats 4000000 in
theorem t_Top_count {p1 : Int32} {h : am_H} (hs : am_Sh h)  {r : Int32} (hf : f_Top_count p1 h = some r) : am_Ct 1 M_Top_count [.ref 0, .int p1] h 0 0 (am_pI h r) := by
  unfold f_Top_count at hf
  refine am_Ct.of (by decide) rfl (Nat.le_of_ble_eq_true rfl) (ls := [(0, .ref 0), (1, .int p1)]) rfl ?_
  refine g_iload_n (i := 1) (by decide +kernel) rfl ?_
  by_cases e0 : p1 = (0 : Int32)
  · rw [if_pos e0] at hf
    have ex : Int32.toInt p1 = 0 := by rw [e0]; rfl
    refine x_tabIn (dflt := 160) (lo := 0) (hi := 11) (offs := #[63, 71, 79, 87, 95, 103, 115, 123, 131, 139, 147, 152]) (len := 63) (off := 63) (tgt := 64) (by decide +kernel) (by rw [ex]; decide) (by rw [ex]; decide) (by rw [ex]; rfl) (by decide) ?_
    refine g_aload_n (i := 0) (by decide +kernel) rfl ?_
    refine x_getr (hs.k k_0) F_Top_10 (by decide +kernel) rfl (hs.r r_0_0) ?_
    refine x_geti (hs.k k_1) F_Top_344 (by decide +kernel) rfl ?_
    exact x_iretp hf (by decide +kernel) rfl
  · rw [if_neg e0] at hf
    by_cases e1 : p1 = (1 : Int32)
    · rw [if_pos e1] at hf
      have ex : Int32.toInt p1 = 1 := by rw [e1]; rfl
      refine x_tabIn (dflt := 160) (lo := 0) (hi := 11) (offs := #[63, 71, 79, 87, 95, 103, 115, 123, 131, 139, 147, 152]) (len := 63) (off := 71) (tgt := 72) (by decide +kernel) (by rw [ex]; decide) (by rw [ex]; decide) (by rw [ex]; rfl) (by decide) ?_
      refine g_aload_n (i := 0) (by decide +kernel) rfl ?_
      refine x_getr (hs.k k_0) F_Top_10 (by decide +kernel) rfl (hs.r r_0_0) ?_
      refine x_geti (hs.k k_1) F_Top_347 (by decide +kernel) rfl ?_
      exact x_iretp hf (by decide +kernel) rfl
    · rw [if_neg e1] at hf
      by_cases e2 : p1 = (2 : Int32)
      · rw [if_pos e2] at hf
        have ex : Int32.toInt p1 = 2 := by rw [e2]; rfl
        refine x_tabIn (dflt := 160) (lo := 0) (hi := 11) (offs := #[63, 71, 79, 87, 95, 103, 115, 123, 131, 139, 147, 152]) (len := 63) (off := 79) (tgt := 80) (by decide +kernel) (by rw [ex]; decide) (by rw [ex]; decide) (by rw [ex]; rfl) (by decide) ?_
        refine g_aload_n (i := 0) (by decide +kernel) rfl ?_
        refine x_getr (hs.k k_0) F_Top_10 (by decide +kernel) rfl (hs.r r_0_0) ?_
        refine x_geti (hs.k k_1) F_Top_350 (by decide +kernel) rfl ?_
        exact x_iretp hf (by decide +kernel) rfl
      · rw [if_neg e2] at hf
        by_cases e3 : p1 = (3 : Int32)
        · rw [if_pos e3] at hf
          have ex : Int32.toInt p1 = 3 := by rw [e3]; rfl
          refine x_tabIn (dflt := 160) (lo := 0) (hi := 11) (offs := #[63, 71, 79, 87, 95, 103, 115, 123, 131, 139, 147, 152]) (len := 63) (off := 87) (tgt := 88) (by decide +kernel) (by rw [ex]; decide) (by rw [ex]; decide) (by rw [ex]; rfl) (by decide) ?_
          refine g_aload_n (i := 0) (by decide +kernel) rfl ?_
          refine x_getr (hs.k k_0) F_Top_10 (by decide +kernel) rfl (hs.r r_0_0) ?_
          refine x_callVIp (as := []) Vi_River_withErrands Vs_River_withErrands (hs.k k_1) rfl hf (fun q hq => t_River_withErrands hs (by decide) hq) Y_River_withErrands L_Top_353 (by decide +kernel) rfl rfl (Nat.le_of_ble_eq_true rfl) (by decide) (fun q1 hf => ?_)
          exact x_iretp hf (by decide +kernel) rfl
        · rw [if_neg e3] at hf
          by_cases e4 : p1 = (4 : Int32)
          · rw [if_pos e4] at hf
            have ex : Int32.toInt p1 = 4 := by rw [e4]; rfl
            refine x_tabIn (dflt := 160) (lo := 0) (hi := 11) (offs := #[63, 71, 79, 87, 95, 103, 115, 123, 131, 139, 147, 152]) (len := 63) (off := 95) (tgt := 96) (by decide +kernel) (by rw [ex]; decide) (by rw [ex]; decide) (by rw [ex]; rfl) (by decide) ?_
            refine g_aload_n (i := 0) (by decide +kernel) rfl ?_
            refine x_getr (hs.k k_0) F_Top_19 (by decide +kernel) rfl (hs.r r_0_1) ?_
            refine x_geti (hs.k k_10) F_Top_156 (by decide +kernel) rfl ?_
            exact x_iretp hf (by decide +kernel) rfl
          · rw [if_neg e4] at hf
            by_cases e5 : p1 = (5 : Int32)
            · rw [if_pos e5] at hf
              have ex : Int32.toInt p1 = 5 := by rw [e5]; rfl
              refine x_tabIn (dflt := 160) (lo := 0) (hi := 11) (offs := #[63, 71, 79, 87, 95, 103, 115, 123, 131, 139, 147, 152]) (len := 63) (off := 103) (tgt := 104) (by decide +kernel) (by rw [ex]; decide) (by rw [ex]; decide) (by rw [ex]; rfl) (by decide) ?_
              refine g_aload_n (i := 0) (by decide +kernel) rfl ?_
              refine x_getr (hs.k k_0) F_Top_19 (by decide +kernel) rfl (hs.r r_0_1) ?_
              refine g_aload_n (i := 0) (by decide +kernel) rfl ?_
              refine x_getr (hs.k k_0) F_Top_10 (by decide +kernel) rfl (hs.r r_0_0) ?_
              refine x_callVIp (as := [.ref 1]) Vi_State_onSpan Vs_State_onSpan (hs.k k_10) rfl hf (fun q hq => t_State_onSpan hs (by decide) (by decide) hq) Y_State_onSpan L_Top_356 (by decide +kernel) rfl rfl (Nat.le_of_ble_eq_true rfl) (by decide) (fun q2 hf => ?_)
              exact x_iretp hf (by decide +kernel) rfl
            · rw [if_neg e5] at hf
              by_cases e6 : p1 = (6 : Int32)
              · rw [if_pos e6] at hf
                have ex : Int32.toInt p1 = 6 := by rw [e6]; rfl
                refine x_tabIn (dflt := 160) (lo := 0) (hi := 11) (offs := #[63, 71, 79, 87, 95, 103, 115, 123, 131, 139, 147, 152]) (len := 63) (off := 115) (tgt := 116) (by decide +kernel) (by rw [ex]; decide) (by rw [ex]; decide) (by rw [ex]; rfl) (by decide) ?_
                refine g_aload_n (i := 0) (by decide +kernel) rfl ?_
                refine x_getr (hs.k k_0) F_Top_19 (by decide +kernel) rfl (hs.r r_0_1) ?_
                refine x_geti (hs.k k_10) F_Top_133 (by decide +kernel) rfl ?_
                exact x_iretp hf (by decide +kernel) rfl
              · rw [if_neg e6] at hf
                by_cases e7 : p1 = (7 : Int32)
                · rw [if_pos e7] at hf
                  have ex : Int32.toInt p1 = 7 := by rw [e7]; rfl
                  refine x_tabIn (dflt := 160) (lo := 0) (hi := 11) (offs := #[63, 71, 79, 87, 95, 103, 115, 123, 131, 139, 147, 152]) (len := 63) (off := 123) (tgt := 124) (by decide +kernel) (by rw [ex]; decide) (by rw [ex]; decide) (by rw [ex]; rfl) (by decide) ?_
                  refine g_aload_n (i := 0) (by decide +kernel) rfl ?_
                  refine x_getr (hs.k k_0) F_Top_19 (by decide +kernel) rfl (hs.r r_0_1) ?_
                  refine x_geti (hs.k k_10) F_Top_183 (by decide +kernel) rfl ?_
                  exact x_iretp hf (by decide +kernel) rfl
                · rw [if_neg e7] at hf
                  by_cases e8 : p1 = (8 : Int32)
                  · rw [if_pos e8] at hf
                    have ex : Int32.toInt p1 = 8 := by rw [e8]; rfl
                    refine x_tabIn (dflt := 160) (lo := 0) (hi := 11) (offs := #[63, 71, 79, 87, 95, 103, 115, 123, 131, 139, 147, 152]) (len := 63) (off := 131) (tgt := 132) (by decide +kernel) (by rw [ex]; decide) (by rw [ex]; decide) (by rw [ex]; rfl) (by decide) ?_
                    refine g_aload_n (i := 0) (by decide +kernel) rfl ?_
                    refine x_getr (hs.k k_0) F_Top_10 (by decide +kernel) rfl (hs.r r_0_0) ?_
                    refine x_geti (hs.k k_1) F_Top_359 (by decide +kernel) rfl ?_
                    exact x_iretp hf (by decide +kernel) rfl
                  · rw [if_neg e8] at hf
                    by_cases e9 : p1 = (9 : Int32)
                    · rw [if_pos e9] at hf
                      have ex : Int32.toInt p1 = 9 := by rw [e9]; rfl
                      refine x_tabIn (dflt := 160) (lo := 0) (hi := 11) (offs := #[63, 71, 79, 87, 95, 103, 115, 123, 131, 139, 147, 152]) (len := 63) (off := 139) (tgt := 140) (by decide +kernel) (by rw [ex]; decide) (by rw [ex]; decide) (by rw [ex]; rfl) (by decide) ?_
                      refine g_aload_n (i := 0) (by decide +kernel) rfl ?_
                      refine x_getr (hs.k k_0) F_Top_29 (by decide +kernel) rfl (hs.r r_0_3) ?_
                      refine x_geti (hs.k k_18) F_Top_194 (by decide +kernel) rfl ?_
                      exact x_iretp hf (by decide +kernel) rfl
                    · rw [if_neg e9] at hf
                      by_cases e10 : p1 = (10 : Int32)
                      · rw [if_pos e10] at hf
                        have ex : Int32.toInt p1 = 10 := by rw [e10]; rfl
                        refine x_tabIn (dflt := 160) (lo := 0) (hi := 11) (offs := #[63, 71, 79, 87, 95, 103, 115, 123, 131, 139, 147, 152]) (len := 63) (off := 147) (tgt := 148) (by decide +kernel) (by rw [ex]; decide) (by rw [ex]; decide) (by rw [ex]; rfl) (by decide) ?_
                        refine g_aload_n (i := 0) (by decide +kernel) rfl ?_
                        refine x_geti (hs.k k_0) F_Top_90 (by decide +kernel) rfl ?_
                        exact x_iretp hf (by decide +kernel) rfl
                      · rw [if_neg e10] at hf
                        by_cases e11 : p1 = (11 : Int32)
                        · rw [if_pos e11] at hf
                          have ex : Int32.toInt p1 = 11 := by rw [e11]; rfl
                          refine x_tabIn (dflt := 160) (lo := 0) (hi := 11) (offs := #[63, 71, 79, 87, 95, 103, 115, 123, 131, 139, 147, 152]) (len := 63) (off := 152) (tgt := 153) (by decide +kernel) (by rw [ex]; decide) (by rw [ex]; decide) (by rw [ex]; rfl) (by decide) ?_
                          refine g_aload_n (i := 0) (by decide +kernel) rfl ?_
                          refine x_getr (hs.k k_0) F_Top_10 (by decide +kernel) rfl (hs.r r_0_0) ?_
                          refine x_geti (hs.k k_1) F_Top_120 (by decide +kernel) rfl ?_
                          exact x_iretp hf (by decide +kernel) rfl
                        · rw [if_neg e11] at hf
                          refine x_tabOut (dflt := 160) (lo := 0) (hi := 11) (offs := #[63, 71, 79, 87, 95, 103, 115, 123, 131, 139, 147, 152]) (len := 63) (tgt := 161) (by decide +kernel) (am_tabNe ⟨by decide, by decide⟩ (fun z hz => ?_)) (by decide) ?_
                          · have hz : z < 12 := hz
                            have : z = 0 ∨ z = 1 ∨ z = 2 ∨ z = 3 ∨ z = 4 ∨ z = 5 ∨ z = 6 ∨ z = 7 ∨ z = 8 ∨ z = 9 ∨ z = 10 ∨ z = 11 := by omega
                            rcases this with rfl | rfl | rfl | rfl | rfl | rfl | rfl | rfl | rfl | rfl | rfl | rfl
                            · exact e0
                            · exact e1
                            · exact e2
                            · exact e3
                            · exact e4
                            · exact e5
                            · exact e6
                            · exact e7
                            · exact e8
                            · exact e9
                            · exact e10
                            · exact e11
                          · refine g_iconst (z := (-1)) (v := (-1)) (by decide +kernel) rfl ?_
                            exact x_iretp hf (by decide +kernel) rfl
