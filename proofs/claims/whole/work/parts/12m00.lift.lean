def f_Mod_within (p0 : Int64) (p2 : Int64) (p4 : Int64) (h : am_H) : Option (Bool) :=
  (if (lg_cmp p0 p2) < 0 then
    some false
  else
    (if 0 < (lg_cmp p0 p4) then
      some false
    else
      some true))
set_option maxRecDepth 100000 in
set_option maxHeartbeats 4000000 in
theorem t_Mod_within {p0 : Int64} {p2 : Int64} {p4 : Int64} {h : am_H} (hs : am_Sh h)  {r : Bool} (hf : f_Mod_within p0 p2 p4 h = some r) : am_Ct 0 M_Mod_within [.long p0, .long p2, .long p4] h 0 0 (am_pB h r) := by
  unfold f_Mod_within at hf
  refine am_Ct.of (by decide) rfl (Nat.le_of_ble_eq_true rfl) (ls := [(0, .long p0), (2, .long p2), (4, .long p4)]) rfl ?_
  refine g_lload_n (i := 0) (by decide +kernel) rfl ?_
  refine g_lload_n (i := 2) (by decide +kernel) rfl ?_
  refine g_lcmp (by decide +kernel) ?_
  refine x_if_lt (off := 14) (tgt := 17) hf (by decide +kernel) (by decide) (fun c1 hf => ?_) (fun c1 hf => ?_)
  · refine g_iconst (z := 0) (v := 0) (by decide +kernel) rfl ?_
    exact x_zretp rfl hf (by decide +kernel) rfl
  · refine g_lload_n (i := 0) (by decide +kernel) rfl ?_
    refine g_lload (i := 4) (by decide +kernel) rfl ?_
    refine g_lcmp (by decide +kernel) ?_
    refine x_if_gt (off := 7) (tgt := 17) hf (by decide +kernel) (by decide) (fun c2 hf => ?_) (fun c2 hf => ?_)
    · refine g_iconst (z := 0) (v := 0) (by decide +kernel) rfl ?_
      exact x_zretp rfl hf (by decide +kernel) rfl
    · refine g_iconst (z := 1) (v := 1) (by decide +kernel) rfl ?_
      refine g_goto (off := 4) (tgt := 18) (by decide +kernel) (by decide) ?_
      exact x_zretp rfl hf (by decide +kernel) rfl
def f_Mod_plain_L2 (p0 : Nat) (p0L : Nat) : Nat → Int32 → am_H → Option (Int32 × am_H)
  | 0, _, _ => none
  | n + 1, v1, h =>
    (if (1137 : Int32) ≤ v1 then
      some (v1, h)
    else
      (am_wr h p0 p0L v1 (0 : Int32)).bind fun h2 =>
      f_Mod_plain_L2 p0 p0L n (v1 + (1 : Int32)) h2)
set_option maxRecDepth 100000 in
set_option maxHeartbeats 4000000 in
theorem t_Mod_plain_L2 {p0 : Nat} {p0L : Nat} (hp0 : am_K0[p0]? = some (.inr (.int, p0L))) {Q : Option Value → am_H → Prop} : ∀ (n : Nat) (v1 : Int32) (h : am_H) (q : Int32 × am_H), am_Sh h → f_Mod_plain_L2 p0 p0L n v1 h = some q → (am_Sh q.2 → am_G 0 M_Mod_plain 0 0 Q 19 [(0, .ref p0), (1, .int q.1)] [] q.2 0 0) → am_G 0 M_Mod_plain 0 0 Q 2 [(0, .ref p0), (1, .int v1)] [] h 0 0 := by
  intro n
  induction n with
  | zero =>
    intro v1 h q hs hf kont
    rw [f_Mod_plain_L2] at hf
    cases hf
  | succ n ih =>
    intro v1 h q hs hf kont
    rw [f_Mod_plain_L2] at hf
    refine g_iload_n (i := 1) (by decide +kernel) rfl ?_
    refine g_sipush (z := 1137) (v := 1137) (by decide +kernel) rfl ?_
    refine x_icmp_ge (off := 13) (tgt := 19) hf (by decide +kernel) (by decide) (fun c1 hf => ?_) (fun c1 hf => ?_)
    · cases hf
      exact am_G.forget (am_subp [0, 1] rfl) (kont hs)
    · refine g_aload_n (i := 0) (by decide +kernel) rfl ?_
      refine g_iload_n (i := 1) (by decide +kernel) rfl ?_
      refine g_iconst (z := 0) (v := 0) (by decide +kernel) rfl ?_
      refine x_iast hf hs (hs.k hp0) (by decide +kernel) (fun h2 hf hs => ?_)
      refine g_iinc (i := 1) (z := 1) (v := (v1 + (1 : Int32))) (by decide +kernel) rfl rfl rfl (by decide) (ls1 := [(0, .ref p0), (1, .int (v1 + (1 : Int32)))]) rfl ?_
      refine g_goto (off := (-14)) (tgt := 2) (by decide +kernel) (by decide) ?_
      exact am_G.forget (am_subp [0, 1] rfl) (ih _ _ _ hs hf kont)
def f_Mod_plain_L29 (p0 : Nat) (p0L : Nat) : Nat → Int32 → am_H → Option (Int32 × am_H)
  | 0, _, _ => none
  | n + 1, v1, h =>
    (if (5 : Int32) ≤ v1 then
      some (v1, h)
    else
      (am_wr h p0 p0L ((16 : Int32) + v1) (-1 : Int32)).bind fun h7 =>
      (am_wr h7 p0 p0L ((21 : Int32) + v1) (-1 : Int32)).bind fun h8 =>
      f_Mod_plain_L29 p0 p0L n (v1 + (1 : Int32)) h8)
set_option maxRecDepth 100000 in
set_option maxHeartbeats 4000000 in
theorem t_Mod_plain_L29 {p0 : Nat} {p0L : Nat} (hp0 : am_K0[p0]? = some (.inr (.int, p0L))) {Q : Option Value → am_H → Prop} : ∀ (n : Nat) (v1 : Int32) (h : am_H) (q : Int32 × am_H), am_Sh h → f_Mod_plain_L29 p0 p0L n v1 h = some q → (am_Sh q.2 → am_G 0 M_Mod_plain 0 0 Q 54 [(0, .ref p0), (1, .int q.1)] [] q.2 0 0) → am_G 0 M_Mod_plain 0 0 Q 29 [(0, .ref p0), (1, .int v1)] [] h 0 0 := by
  intro n
  induction n with
  | zero =>
    intro v1 h q hs hf kont
    rw [f_Mod_plain_L29] at hf
    cases hf
  | succ n ih =>
    intro v1 h q hs hf kont
    rw [f_Mod_plain_L29] at hf
    refine g_iload_n (i := 1) (by decide +kernel) rfl ?_
    refine g_iconst (z := 5) (v := 5) (by decide +kernel) rfl ?_
    refine x_icmp_ge (off := 23) (tgt := 54) hf (by decide +kernel) (by decide) (fun c6 hf => ?_) (fun c6 hf => ?_)
    · cases hf
      exact am_G.forget (am_subp [0, 1] rfl) (kont hs)
    · refine g_aload_n (i := 0) (by decide +kernel) rfl ?_
      refine g_bipush (z := 16) (v := 16) (by decide +kernel) rfl ?_
      refine g_iload_n (i := 1) (by decide +kernel) rfl ?_
      refine g_iadd (by decide +kernel) ?_
      refine g_iconst (z := (-1)) (v := (-1)) (by decide +kernel) rfl ?_
      refine x_iast hf hs (hs.k hp0) (by decide +kernel) (fun h7 hf hs => ?_)
      refine g_aload_n (i := 0) (by decide +kernel) rfl ?_
      refine g_bipush (z := 21) (v := 21) (by decide +kernel) rfl ?_
      refine g_iload_n (i := 1) (by decide +kernel) rfl ?_
      refine g_iadd (by decide +kernel) ?_
      refine g_iconst (z := (-1)) (v := (-1)) (by decide +kernel) rfl ?_
      refine x_iast hf hs (hs.k hp0) (by decide +kernel) (fun h8 hf hs => ?_)
      refine g_iinc (i := 1) (z := 1) (v := (v1 + (1 : Int32))) (by decide +kernel) rfl rfl rfl (by decide) (ls1 := [(0, .ref p0), (1, .int (v1 + (1 : Int32)))]) rfl ?_
      refine g_goto (off := (-22)) (tgt := 29) (by decide +kernel) (by decide) ?_
      exact am_G.forget (am_subp [0, 1] rfl) (ih _ _ _ hs hf kont)
def f_Mod_plain (p0 : Nat) (p0L : Nat) (h : am_H) : Option (am_H) :=
  (f_Mod_plain_L2 p0 p0L am_fu (0 : Int32) h).bind fun q3 =>
  (am_wr q3.2 p0 p0L (1 : Int32) (2 : Int32)).bind fun h4 =>
  (am_wr h4 p0 p0L (2 : Int32) (1 : Int32)).bind fun h5 =>
  (f_Mod_plain_L29 p0 p0L am_fu (0 : Int32) h5).bind fun q9 =>
  some q9.2
set_option maxRecDepth 100000 in
set_option maxHeartbeats 4000000 in
theorem t_Mod_plain {p0 : Nat} {p0L : Nat} {h : am_H} (hs : am_Sh h) (hp0 : am_K0[p0]? = some (.inr (.int, p0L))) {r : am_H} (hf : f_Mod_plain p0 p0L h = some r) : am_Ct 0 M_Mod_plain [.ref p0] h 0 0 (am_qV r) := by
  unfold f_Mod_plain at hf
  refine am_Ct.of (by decide) rfl (Nat.le_of_ble_eq_true rfl) (ls := [(0, .ref p0)]) rfl ?_
  refine g_iconst (z := 0) (v := 0) (by decide +kernel) rfl ?_
  refine g_istore_n (i := 1) (by decide +kernel) rfl (by decide) (ls1 := [(0, .ref p0), (1, .int (0 : Int32))]) rfl ?_
  obtain ⟨q3, hqq3, hf⟩ := Option.bind_eq_some_iff.mp hf
  refine t_Mod_plain_L2 hp0 am_fu _ _ q3 hs hqq3 (fun hs => ?_)
  refine g_aload_n (i := 0) (by decide +kernel) rfl ?_
  refine g_iconst (z := 1) (v := 1) (by decide +kernel) rfl ?_
  refine g_iconst (z := 2) (v := 2) (by decide +kernel) rfl ?_
  refine x_iast hf hs (hs.k hp0) (by decide +kernel) (fun h4 hf hs => ?_)
  refine g_aload_n (i := 0) (by decide +kernel) rfl ?_
  refine g_iconst (z := 2) (v := 2) (by decide +kernel) rfl ?_
  refine g_iconst (z := 1) (v := 1) (by decide +kernel) rfl ?_
  refine x_iast hf hs (hs.k hp0) (by decide +kernel) (fun h5 hf hs => ?_)
  refine g_iconst (z := 0) (v := 0) (by decide +kernel) rfl ?_
  refine g_istore_n (i := 1) (by decide +kernel) rfl (by decide) (ls1 := [(0, .ref p0), (1, .int (0 : Int32))]) rfl ?_
  obtain ⟨q9, hqq9, hf⟩ := Option.bind_eq_some_iff.mp hf
  refine t_Mod_plain_L29 hp0 am_fu _ _ q9 hs hqq9 (fun hs => ?_)
  exact x_vret hf hs (by decide +kernel) rfl
def f_Mod_feed_L24 (p1 : Int32) (p2 : Int32) (p3 : Int32) (p4 : Int32) (p5 : Int32) : Nat → Int32 → am_H → Option (Int32 × am_H)
  | 0, _, _ => none
  | n + 1, v6, h =>
    (if (20 : Int32) ≤ v6 then
      some (v6, h)
    else
      am_let (if (4 : Int32) ≤ v6 then (if (8 : Int32) ≤ v6 then (if (12 : Int32) ≤ v6 then (if (16 : Int32) ≤ v6 then p5 else p4) else p3) else p2) else p1) fun y8 =>
      (am_wr h 139 900 (h.2.1 136 5) ((y8 >>> (((24 : Int32) - ((8 : Int32) * (v6 - v6 / (4 : Int32) * (4 : Int32)))) &&& 31)) &&& (255 : Int32))).bind fun h9 =>
      am_let (am_sI h9 136 5 ((h9.2.1 136 5) + (1 : Int32))) fun h10 =>
      f_Mod_feed_L24 p1 p2 p3 p4 p5 n (v6 + (1 : Int32)) h10)
set_option maxRecDepth 100000 in
set_option maxHeartbeats 4000000 in
theorem t_Mod_feed_L24 {p1 : Int32} {p2 : Int32} {p3 : Int32} {p4 : Int32} {p5 : Int32}  {Q : Option Value → am_H → Prop} : ∀ (n : Nat) (v6 : Int32) (h : am_H) (q : Int32 × am_H), am_Sh h → f_Mod_feed_L24 p1 p2 p3 p4 p5 n v6 h = some q → (am_Sh q.2 → am_G 0 M_Mod_feed 0 0 Q 121 [(0, .ref 136), (1, .int p1), (2, .int p2), (3, .int p3), (4, .int p4), (5, .int p5), (6, .int q.1)] [] q.2 0 0) → am_G 0 M_Mod_feed 0 0 Q 24 [(0, .ref 136), (1, .int p1), (2, .int p2), (3, .int p3), (4, .int p4), (5, .int p5), (6, .int v6)] [] h 0 0 := by
  intro n
  induction n with
  | zero =>
    intro v6 h q hs hf kont
    rw [f_Mod_feed_L24] at hf
    cases hf
  | succ n ih =>
    intro v6 h q hs hf kont
    rw [f_Mod_feed_L24] at hf
    refine g_iload (i := 6) (by decide +kernel) rfl ?_
    refine g_bipush (z := 20) (v := 20) (by decide +kernel) rfl ?_
    refine x_icmp_ge (off := 93) (tgt := 121) hf (by decide +kernel) (by decide) (fun c3 hf => ?_) (fun c3 hf => ?_)
    · cases hf
      exact am_G.forget (am_subp [0, 1, 2, 3, 4, 5, 6] rfl) (kont hs)
    · refine g_iload (i := 6) (by decide +kernel) rfl ?_
      refine g_iconst (z := 4) (v := 4) (by decide +kernel) rfl ?_
      refine am_cut (J := 77) (ls' := [(0, .ref 136), (1, .int p1), (2, .int p2), (3, .int p3), (4, .int p4), (5, .int p5), (6, .int v6)]) (st' := [.int (if (4 : Int32) ≤ v6 then (if (8 : Int32) ≤ v6 then (if (12 : Int32) ≤ v6 then (if (16 : Int32) ≤ v6 then p5 else p4) else p3) else p2) else p1)]) ?_ (fun K77 => ?_)
      · refine x_nmI hf (fun y8 hf => ?_)
        refine g_istore (i := 7) (by decide +kernel) rfl (by decide) (ls1 := [(0, .ref 136), (1, .int p1), (2, .int p2), (3, .int p3), (4, .int p4), (5, .int p5), (6, .int v6), (7, .int y8)]) rfl ?_
        refine g_aload_n (i := 0) (by decide +kernel) rfl ?_
        refine x_getr (hs.k k_136) F_Mod_21 (by decide +kernel) rfl (hs.r r_136_3) ?_
        refine g_aload_n (i := 0) (by decide +kernel) rfl ?_
        refine x_geti (hs.k k_136) F_Mod_95 (by decide +kernel) rfl ?_
        refine g_iload (i := 7) (by decide +kernel) rfl ?_
        refine g_bipush (z := 24) (v := 24) (by decide +kernel) rfl ?_
        refine g_bipush (z := 8) (v := 8) (by decide +kernel) rfl ?_
        refine g_iload (i := 6) (by decide +kernel) rfl ?_
        refine g_iconst (z := 4) (v := 4) (by decide +kernel) rfl ?_
        refine g_irem (by decide +kernel) (by decide) ?_
        refine g_imul (by decide +kernel) ?_
        refine g_isub (by decide +kernel) ?_
        refine g_ishr (by decide +kernel) ?_
        refine g_sipush (z := 255) (v := 255) (by decide +kernel) rfl ?_
        refine g_iand (by decide +kernel) ?_
        refine x_iast hf hs (hs.k k_139) (by decide +kernel) (fun h9 hf hs => ?_)
        refine g_aload_n (i := 0) (by decide +kernel) rfl ?_
        refine g_dup (by decide +kernel) rfl ?_
        refine x_geti (hs.k k_136) F_Mod_95 (by decide +kernel) rfl ?_
        refine g_iconst (z := 1) (v := 1) (by decide +kernel) rfl ?_
        refine g_iadd (by decide +kernel) ?_
        refine x_puti hf hs (hs.k k_136) F_Mod_95 (by decide +kernel) rfl rfl rfl rfl (fun h10 hf hs => ?_)
        refine g_iinc (i := 6) (z := 1) (v := (v6 + (1 : Int32))) (by decide +kernel) rfl rfl rfl (by decide) (ls1 := [(0, .ref 136), (1, .int p1), (2, .int p2), (3, .int p3), (4, .int p4), (5, .int p5), (6, .int (v6 + (1 : Int32))), (7, .int y8)]) rfl ?_
        refine g_goto (off := (-94)) (tgt := 24) (by decide +kernel) (by decide) ?_
        exact am_G.forget (am_subp [0, 1, 2, 3, 4, 5, 6] rfl) (ih _ _ _ hs hf kont)
      refine p_icmp_ge (off := 7) (tgt := 41) (by decide +kernel) (by decide) (fun c4 => ?_) (fun c4 => ?_)
      · refine g_iload (i := 6) (by decide +kernel) rfl ?_
        refine g_bipush (z := 8) (v := 8) (by decide +kernel) rfl ?_
        refine p_icmp_ge (off := 7) (tgt := 52) (by decide +kernel) (by decide) (fun c5 => ?_) (fun c5 => ?_)
        · refine g_iload (i := 6) (by decide +kernel) rfl ?_
          refine g_bipush (z := 12) (v := 12) (by decide +kernel) rfl ?_
          refine p_icmp_ge (off := 7) (tgt := 63) (by decide +kernel) (by decide) (fun c6 => ?_) (fun c6 => ?_)
          · refine g_iload (i := 6) (by decide +kernel) rfl ?_
            refine g_bipush (z := 16) (v := 16) (by decide +kernel) rfl ?_
            refine p_icmp_ge (off := 8) (tgt := 75) (by decide +kernel) (by decide) (fun c7 => ?_) (fun c7 => ?_)
            · refine g_iload (i := 5) (by decide +kernel) rfl ?_
              have K1 := K77
              simp only [if_pos c4, if_pos c5, if_pos c6, if_pos c7] at K1
              exact am_G.forget (am_subp [0, 1, 2, 3, 4, 5, 6] rfl) K1
            · refine g_iload (i := 4) (by decide +kernel) rfl ?_
              refine g_goto (off := 5) (tgt := 77) (by decide +kernel) (by decide) ?_
              have K1 := K77
              simp only [if_pos c4, if_pos c5, if_pos c6, if_neg c7] at K1
              exact am_G.forget (am_subp [0, 1, 2, 3, 4, 5, 6] rfl) K1
          · refine g_iload_n (i := 3) (by decide +kernel) rfl ?_
            refine g_goto (off := 17) (tgt := 77) (by decide +kernel) (by decide) ?_
            have K1 := K77
            simp only [if_pos c4, if_pos c5, if_neg c6] at K1
            exact am_G.forget (am_subp [0, 1, 2, 3, 4, 5, 6] rfl) K1
        · refine g_iload_n (i := 2) (by decide +kernel) rfl ?_
          refine g_goto (off := 28) (tgt := 77) (by decide +kernel) (by decide) ?_
          have K1 := K77
          simp only [if_pos c4, if_neg c5] at K1
          exact am_G.forget (am_subp [0, 1, 2, 3, 4, 5, 6] rfl) K1
      · refine g_iload_n (i := 1) (by decide +kernel) rfl ?_
        refine g_goto (off := 39) (tgt := 77) (by decide +kernel) (by decide) ?_
        have K1 := K77
        simp only [if_neg c4] at K1
        exact am_G.forget (am_subp [0, 1, 2, 3, 4, 5, 6] rfl) K1
def f_Mod_feed (p1 : Int32) (p2 : Int32) (p3 : Int32) (p4 : Int32) (p5 : Int32) (h : am_H) : Option (Int32 × am_H) :=
  am_let (am_sI h 136 0 (0 : Int32)) fun h1 =>
  (if ((h1.2.1 136 5) + (20 : Int32)) ≤ (900 : Int32) then
    (f_Mod_feed_L24 p1 p2 p3 p4 p5 am_fu (0 : Int32) h1).bind fun q11 =>
    some ((q11.2.2.1 136 5), q11.2)
  else
    some ((-5 : Int32), h1))
set_option maxRecDepth 100000 in
set_option maxHeartbeats 4000000 in
theorem t_Mod_feed {p1 : Int32} {p2 : Int32} {p3 : Int32} {p4 : Int32} {p5 : Int32} {h : am_H} (hs : am_Sh h)  {r : Int32 × am_H} (hf : f_Mod_feed p1 p2 p3 p4 p5 h = some r) : am_Ct 0 M_Mod_feed [.ref 136, .int p1, .int p2, .int p3, .int p4, .int p5] h 0 0 (am_qI r) := by
  unfold f_Mod_feed at hf
  refine am_Ct.of (by decide) rfl (Nat.le_of_ble_eq_true rfl) (ls := [(0, .ref 136), (1, .int p1), (2, .int p2), (3, .int p3), (4, .int p4), (5, .int p5)]) rfl ?_
  refine g_aload_n (i := 0) (by decide +kernel) rfl ?_
  refine g_iconst (z := 0) (v := 0) (by decide +kernel) rfl ?_
  refine x_puti hf hs (hs.k k_136) F_Mod_1 (by decide +kernel) rfl rfl rfl rfl (fun h1 hf hs => ?_)
  refine g_aload_n (i := 0) (by decide +kernel) rfl ?_
  refine x_geti (hs.k k_136) F_Mod_95 (by decide +kernel) rfl ?_
  refine g_bipush (z := 20) (v := 20) (by decide +kernel) rfl ?_
  refine g_iadd (by decide +kernel) ?_
  refine g_sipush (z := 900) (v := 900) (by decide +kernel) rfl ?_
  refine x_icmp_le (off := 6) (tgt := 21) hf (by decide +kernel) (by decide) (fun c2 hf => ?_) (fun c2 hf => ?_)
  · refine g_iconst (z := 0) (v := 0) (by decide +kernel) rfl ?_
    refine g_istore (i := 6) (by decide +kernel) rfl (by decide) (ls1 := [(0, .ref 136), (1, .int p1), (2, .int p2), (3, .int p3), (4, .int p4), (5, .int p5), (6, .int (0 : Int32))]) rfl ?_
    obtain ⟨q11, hqq11, hf⟩ := Option.bind_eq_some_iff.mp hf
    refine t_Mod_feed_L24  am_fu _ _ q11 hs hqq11 (fun hs => ?_)
    refine g_aload_n (i := 0) (by decide +kernel) rfl ?_
    refine x_geti (hs.k k_136) F_Mod_95 (by decide +kernel) rfl ?_
    exact x_iret hf hs (by decide +kernel) rfl
  · refine g_bipush (z := (-5)) (v := (-5)) (by decide +kernel) rfl ?_
    exact x_iret hf hs (by decide +kernel) rfl
def f_Mod_see (p1 : Int32) (h : am_H) : Option (Int32) :=
  (if (h.2.1 136 8) ≤ p1 then
    some (-1 : Int32)
  else
    (am_rd (h.2.1 139) 900 p1).bind fun x2 =>
    some x2)
set_option maxRecDepth 100000 in
set_option maxHeartbeats 4000000 in
theorem t_Mod_see {p1 : Int32} {h : am_H} (hs : am_Sh h)  {r : Int32} (hf : f_Mod_see p1 h = some r) : am_Ct 0 M_Mod_see [.ref 136, .int p1] h 0 0 (am_pI h r) := by
  unfold f_Mod_see at hf
  refine am_Ct.of (by decide) rfl (Nat.le_of_ble_eq_true rfl) (ls := [(0, .ref 136), (1, .int p1)]) rfl ?_
  refine g_iload_n (i := 1) (by decide +kernel) rfl ?_
  refine g_aload_n (i := 0) (by decide +kernel) rfl ?_
  refine x_geti (hs.k k_136) F_Mod_98 (by decide +kernel) rfl ?_
  refine x_icmp_ge (off := 12) (tgt := 17) hf (by decide +kernel) (by decide) (fun c1 hf => ?_) (fun c1 hf => ?_)
  · refine g_iconst (z := (-1)) (v := (-1)) (by decide +kernel) rfl ?_
    exact x_iretp hf (by decide +kernel) rfl
  · refine g_aload_n (i := 0) (by decide +kernel) rfl ?_
    refine x_getr (hs.k k_136) F_Mod_21 (by decide +kernel) rfl (hs.r r_136_3) ?_
    refine g_iload_n (i := 1) (by decide +kernel) rfl ?_
    refine x_iald hf (hs.k k_139) (by decide +kernel) (fun x2 hf => ?_)
    refine g_goto (off := 4) (tgt := 18) (by decide +kernel) (by decide) ?_
    exact x_iretp hf (by decide +kernel) rfl
def f_Mod_isSmall (p0 : Int32) (h : am_H) : Option (Bool) :=
  (if p0 < (97 : Int32) then
    some false
  else
    (if (122 : Int32) < p0 then
      some false
    else
      some true))
set_option maxRecDepth 100000 in
set_option maxHeartbeats 4000000 in
theorem t_Mod_isSmall {p0 : Int32} {h : am_H} (hs : am_Sh h)  {r : Bool} (hf : f_Mod_isSmall p0 h = some r) : am_Ct 0 M_Mod_isSmall [.int p0] h 0 0 (am_pB h r) := by
  unfold f_Mod_isSmall at hf
  refine am_Ct.of (by decide) rfl (Nat.le_of_ble_eq_true rfl) (ls := [(0, .int p0)]) rfl ?_
  refine g_iload_n (i := 0) (by decide +kernel) rfl ?_
  refine g_bipush (z := 97) (v := 97) (by decide +kernel) rfl ?_
  refine x_icmp_lt (off := 13) (tgt := 16) hf (by decide +kernel) (by decide) (fun c1 hf => ?_) (fun c1 hf => ?_)
  · refine g_iconst (z := 0) (v := 0) (by decide +kernel) rfl ?_
    exact x_zretp rfl hf (by decide +kernel) rfl
  · refine g_iload_n (i := 0) (by decide +kernel) rfl ?_
    refine g_bipush (z := 122) (v := 122) (by decide +kernel) rfl ?_
    refine x_icmp_gt (off := 7) (tgt := 16) hf (by decide +kernel) (by decide) (fun c2 hf => ?_) (fun c2 hf => ?_)
    · refine g_iconst (z := 0) (v := 0) (by decide +kernel) rfl ?_
      exact x_zretp rfl hf (by decide +kernel) rfl
    · refine g_iconst (z := 1) (v := 1) (by decide +kernel) rfl ?_
      refine g_goto (off := 4) (tgt := 17) (by decide +kernel) (by decide) ?_
      exact x_zretp rfl hf (by decide +kernel) rfl
def f_Mod_isDigit (p0 : Int32) (h : am_H) : Option (Bool) :=
  (if p0 < (48 : Int32) then
    some false
  else
    (if (57 : Int32) < p0 then
      some false
    else
      some true))
set_option maxRecDepth 100000 in
set_option maxHeartbeats 4000000 in
theorem t_Mod_isDigit {p0 : Int32} {h : am_H} (hs : am_Sh h)  {r : Bool} (hf : f_Mod_isDigit p0 h = some r) : am_Ct 0 M_Mod_isDigit [.int p0] h 0 0 (am_pB h r) := by
  unfold f_Mod_isDigit at hf
  refine am_Ct.of (by decide) rfl (Nat.le_of_ble_eq_true rfl) (ls := [(0, .int p0)]) rfl ?_
  refine g_iload_n (i := 0) (by decide +kernel) rfl ?_
  refine g_bipush (z := 48) (v := 48) (by decide +kernel) rfl ?_
  refine x_icmp_lt (off := 13) (tgt := 16) hf (by decide +kernel) (by decide) (fun c1 hf => ?_) (fun c1 hf => ?_)
  · refine g_iconst (z := 0) (v := 0) (by decide +kernel) rfl ?_
    exact x_zretp rfl hf (by decide +kernel) rfl
  · refine g_iload_n (i := 0) (by decide +kernel) rfl ?_
    refine g_bipush (z := 57) (v := 57) (by decide +kernel) rfl ?_
    refine x_icmp_gt (off := 7) (tgt := 16) hf (by decide +kernel) (by decide) (fun c2 hf => ?_) (fun c2 hf => ?_)
    · refine g_iconst (z := 0) (v := 0) (by decide +kernel) rfl ?_
      exact x_zretp rfl hf (by decide +kernel) rfl
    · refine g_iconst (z := 1) (v := 1) (by decide +kernel) rfl ?_
      refine g_goto (off := 4) (tgt := 17) (by decide +kernel) (by decide) ?_
      exact x_zretp rfl hf (by decide +kernel) rfl
def f_Mod_fails (p1 : Int32) (h : am_H) : Option (am_H) :=
  (if (h.2.1 136 11) = 0 then
    am_let (am_sI h 136 11 (if (h.2.1 136 9) = (25 : Int32) then (1 : Int32) else p1)) fun h3 =>
    am_let (am_sI h3 136 12 (h3.2.1 136 6)) fun h4 =>
    some h4
  else
    some h)
set_option maxRecDepth 100000 in
set_option maxHeartbeats 4000000 in
theorem t_Mod_fails {p1 : Int32} {h : am_H} (hs : am_Sh h)  {r : am_H} (hf : f_Mod_fails p1 h = some r) : am_Ct 0 M_Mod_fails [.ref 136, .int p1] h 0 0 (am_qV r) := by
  unfold f_Mod_fails at hf
  refine am_Ct.of (by decide) rfl (Nat.le_of_ble_eq_true rfl) (ls := [(0, .ref 136), (1, .int p1)]) rfl ?_
  refine g_aload_n (i := 0) (by decide +kernel) rfl ?_
  refine x_geti (hs.k k_136) F_Mod_141 (by decide +kernel) rfl ?_
  refine x_if_eq (off := 4) (tgt := 8) hf (by decide +kernel) (by decide) (fun c1 hf => ?_) (fun c1 hf => ?_)
  · refine g_aload_n (i := 0) (by decide +kernel) rfl ?_
    refine g_aload_n (i := 0) (by decide +kernel) rfl ?_
    refine x_geti (hs.k k_136) F_Mod_123 (by decide +kernel) rfl ?_
    refine g_bipush (z := 25) (v := 25) (by decide +kernel) rfl ?_
    refine am_cut (J := 23) (ls' := [(0, .ref 136), (1, .int p1)]) (st' := [.int (if (h.2.1 136 9) = (25 : Int32) then (1 : Int32) else p1), .ref 136]) ?_ (fun K23 => ?_)
    · refine x_puti hf hs (hs.k k_136) F_Mod_141 (by decide +kernel) rfl rfl rfl rfl (fun h3 hf hs => ?_)
      refine g_aload_n (i := 0) (by decide +kernel) rfl ?_
      refine g_aload_n (i := 0) (by decide +kernel) rfl ?_
      refine x_geti (hs.k k_136) F_Mod_113 (by decide +kernel) rfl ?_
      refine x_puti hf hs (hs.k k_136) F_Mod_144 (by decide +kernel) rfl rfl rfl rfl (fun h4 hf hs => ?_)
      exact x_vret hf hs (by decide +kernel) rfl
    refine p_icmp_ne (off := 7) (tgt := 22) (by decide +kernel) (by decide) (fun c2 => ?_) (fun c2 => ?_)
    · refine g_iload_n (i := 1) (by decide +kernel) rfl ?_
      have K1 := K23
      simp only [if_neg c2] at K1
      exact am_G.forget (am_subp [0, 1] rfl) K1
    · refine g_iconst (z := 1) (v := 1) (by decide +kernel) rfl ?_
      refine g_goto (off := 4) (tgt := 23) (by decide +kernel) (by decide) ?_
      have K1 := K23
      simp only [if_pos c2] at K1
      exact am_G.forget (am_subp [0, 1] rfl) K1
  · exact x_vret hf hs (by decide +kernel) rfl
def f_Mod_is (p1 : Int32) (h : am_H) : Option (Bool) :=
  (if (h.2.1 136 11) = 0 then
    (if (h.2.1 136 9) = p1 then
      some true
    else
      some false)
  else
    some false)
set_option maxRecDepth 100000 in
set_option maxHeartbeats 4000000 in
theorem t_Mod_is {p1 : Int32} {h : am_H} (hs : am_Sh h)  {r : Bool} (hf : f_Mod_is p1 h = some r) : am_Ct 0 M_Mod_is [.ref 136, .int p1] h 0 0 (am_pB h r) := by
  unfold f_Mod_is at hf
  refine am_Ct.of (by decide) rfl (Nat.le_of_ble_eq_true rfl) (ls := [(0, .ref 136), (1, .int p1)]) rfl ?_
  refine g_aload_n (i := 0) (by decide +kernel) rfl ?_
  refine x_geti (hs.k k_136) F_Mod_141 (by decide +kernel) rfl ?_
  refine x_if_ne (off := 15) (tgt := 19) hf (by decide +kernel) (by decide) (fun c1 hf => ?_) (fun c1 hf => ?_)
  · refine g_iconst (z := 0) (v := 0) (by decide +kernel) rfl ?_
    exact x_zretp rfl hf (by decide +kernel) rfl
  · refine g_aload_n (i := 0) (by decide +kernel) rfl ?_
    refine x_geti (hs.k k_136) F_Mod_123 (by decide +kernel) rfl ?_
    refine g_iload_n (i := 1) (by decide +kernel) rfl ?_
    refine x_icmp_ne (off := 7) (tgt := 19) hf (by decide +kernel) (by decide) (fun c2 hf => ?_) (fun c2 hf => ?_)
    · refine g_iconst (z := 0) (v := 0) (by decide +kernel) rfl ?_
      exact x_zretp rfl hf (by decide +kernel) rfl
    · refine g_iconst (z := 1) (v := 1) (by decide +kernel) rfl ?_
      refine g_goto (off := 4) (tgt := 20) (by decide +kernel) (by decide) ?_
      exact x_zretp rfl hf (by decide +kernel) rfl
def f_Mod_isIn (p0 : Int64) (p2 : Int32) (h : am_H) : Option (Bool) :=
  (if (lg_cmp ((p0 >>> ((p2).toInt64 &&& 63)) &&& (1 : Int64)) (1 : Int64)) = 0 then
    some true
  else
    some false)
set_option maxRecDepth 100000 in
set_option maxHeartbeats 4000000 in
theorem t_Mod_isIn {p0 : Int64} {p2 : Int32} {h : am_H} (hs : am_Sh h)  {r : Bool} (hf : f_Mod_isIn p0 p2 h = some r) : am_Ct 0 M_Mod_isIn [.long p0, .int p2] h 0 0 (am_pB h r) := by
  unfold f_Mod_isIn at hf
  refine am_Ct.of (by decide) rfl (Nat.le_of_ble_eq_true rfl) (ls := [(0, .long p0), (2, .int p2)]) rfl ?_
  refine g_lload_n (i := 0) (by decide +kernel) rfl ?_
  refine g_iload_n (i := 2) (by decide +kernel) rfl ?_
  refine g_lshr (by decide +kernel) ?_
  refine g_lconst (z := 1) (v := 1) (by decide +kernel) rfl ?_
  refine g_land (by decide +kernel) ?_
  refine g_lconst (z := 1) (v := 1) (by decide +kernel) rfl ?_
  refine g_lcmp (by decide +kernel) ?_
  refine x_if_ne (off := 7) (tgt := 14) hf (by decide +kernel) (by decide) (fun c1 hf => ?_) (fun c1 hf => ?_)
  · refine g_iconst (z := 0) (v := 0) (by decide +kernel) rfl ?_
    exact x_zretp rfl hf (by decide +kernel) rfl
  · refine g_iconst (z := 1) (v := 1) (by decide +kernel) rfl ?_
    refine g_goto (off := 4) (tgt := 15) (by decide +kernel) (by decide) ?_
    exact x_zretp rfl hf (by decide +kernel) rfl
def f_Mod_wordOf (p1 : Int32) (h : am_H) : Option (Int32) :=
  (if p1 = (8 : Int32) then
    some (3 : Int32)
  else if p1 = (9 : Int32) then
    some (-1 : Int32)
  else if p1 = (10 : Int32) then
    some (-1 : Int32)
  else if p1 = (11 : Int32) then
    some (-1 : Int32)
  else if p1 = (12 : Int32) then
    some (-1 : Int32)
  else if p1 = (13 : Int32) then
    some (-1 : Int32)
  else if p1 = (14 : Int32) then
    some (1 : Int32)
  else if p1 = (15 : Int32) then
    some (0 : Int32)
  else if p1 = (16 : Int32) then
    some (2 : Int32)
  else if p1 = (17 : Int32) then
    some (4 : Int32)
  else if p1 = (18 : Int32) then
    (if (h.2.1 136 15) = 0 then
      some (5 : Int32)
    else
      some (-1 : Int32))
  else 
    some (-1 : Int32))
set_option maxRecDepth 100000 in
set_option maxHeartbeats 4000000 in
theorem t_Mod_wordOf {p1 : Int32} {h : am_H} (hs : am_Sh h)  {r : Int32} (hf : f_Mod_wordOf p1 h = some r) : am_Ct 0 M_Mod_wordOf [.ref 136, .int p1] h 0 0 (am_pI h r) := by
  unfold f_Mod_wordOf at hf
  refine am_Ct.of (by decide) rfl (Nat.le_of_ble_eq_true rfl) (ls := [(0, .ref 136), (1, .int p1)]) rfl ?_
  refine g_iload_n (i := 1) (by decide +kernel) rfl ?_
  by_cases e0 : p1 = (8 : Int32)
  · rw [if_pos e0] at hf
    have ex : Int32.toInt p1 = 8 := by rw [e0]; rfl
    refine x_tabIn (dflt := 82) (lo := 8) (hi := 18) (offs := #[65, 82, 82, 82, 82, 82, 61, 59, 63, 67, 69]) (len := 59) (off := 65) (tgt := 66) (by decide +kernel) (by rw [ex]; decide) (by rw [ex]; decide) (by rw [ex]; rfl) (by decide) ?_
    refine g_iconst (z := 3) (v := 3) (by decide +kernel) rfl ?_
    exact x_iretp hf (by decide +kernel) rfl
  · rw [if_neg e0] at hf
    by_cases e1 : p1 = (9 : Int32)
    · rw [if_pos e1] at hf
      have ex : Int32.toInt p1 = 9 := by rw [e1]; rfl
      refine x_tabIn (dflt := 82) (lo := 8) (hi := 18) (offs := #[65, 82, 82, 82, 82, 82, 61, 59, 63, 67, 69]) (len := 59) (off := 82) (tgt := 83) (by decide +kernel) (by rw [ex]; decide) (by rw [ex]; decide) (by rw [ex]; rfl) (by decide) ?_
      refine g_iconst (z := (-1)) (v := (-1)) (by decide +kernel) rfl ?_
      exact x_iretp hf (by decide +kernel) rfl
    · rw [if_neg e1] at hf
      by_cases e2 : p1 = (10 : Int32)
      · rw [if_pos e2] at hf
        have ex : Int32.toInt p1 = 10 := by rw [e2]; rfl
        refine x_tabIn (dflt := 82) (lo := 8) (hi := 18) (offs := #[65, 82, 82, 82, 82, 82, 61, 59, 63, 67, 69]) (len := 59) (off := 82) (tgt := 83) (by decide +kernel) (by rw [ex]; decide) (by rw [ex]; decide) (by rw [ex]; rfl) (by decide) ?_
        refine g_iconst (z := (-1)) (v := (-1)) (by decide +kernel) rfl ?_
        exact x_iretp hf (by decide +kernel) rfl
      · rw [if_neg e2] at hf
        by_cases e3 : p1 = (11 : Int32)
        · rw [if_pos e3] at hf
          have ex : Int32.toInt p1 = 11 := by rw [e3]; rfl
          refine x_tabIn (dflt := 82) (lo := 8) (hi := 18) (offs := #[65, 82, 82, 82, 82, 82, 61, 59, 63, 67, 69]) (len := 59) (off := 82) (tgt := 83) (by decide +kernel) (by rw [ex]; decide) (by rw [ex]; decide) (by rw [ex]; rfl) (by decide) ?_
          refine g_iconst (z := (-1)) (v := (-1)) (by decide +kernel) rfl ?_
          exact x_iretp hf (by decide +kernel) rfl
        · rw [if_neg e3] at hf
          by_cases e4 : p1 = (12 : Int32)
          · rw [if_pos e4] at hf
            have ex : Int32.toInt p1 = 12 := by rw [e4]; rfl
            refine x_tabIn (dflt := 82) (lo := 8) (hi := 18) (offs := #[65, 82, 82, 82, 82, 82, 61, 59, 63, 67, 69]) (len := 59) (off := 82) (tgt := 83) (by decide +kernel) (by rw [ex]; decide) (by rw [ex]; decide) (by rw [ex]; rfl) (by decide) ?_
            refine g_iconst (z := (-1)) (v := (-1)) (by decide +kernel) rfl ?_
            exact x_iretp hf (by decide +kernel) rfl
          · rw [if_neg e4] at hf
            by_cases e5 : p1 = (13 : Int32)
            · rw [if_pos e5] at hf
              have ex : Int32.toInt p1 = 13 := by rw [e5]; rfl
              refine x_tabIn (dflt := 82) (lo := 8) (hi := 18) (offs := #[65, 82, 82, 82, 82, 82, 61, 59, 63, 67, 69]) (len := 59) (off := 82) (tgt := 83) (by decide +kernel) (by rw [ex]; decide) (by rw [ex]; decide) (by rw [ex]; rfl) (by decide) ?_
              refine g_iconst (z := (-1)) (v := (-1)) (by decide +kernel) rfl ?_
              exact x_iretp hf (by decide +kernel) rfl
            · rw [if_neg e5] at hf
              by_cases e6 : p1 = (14 : Int32)
              · rw [if_pos e6] at hf
                have ex : Int32.toInt p1 = 14 := by rw [e6]; rfl
                refine x_tabIn (dflt := 82) (lo := 8) (hi := 18) (offs := #[65, 82, 82, 82, 82, 82, 61, 59, 63, 67, 69]) (len := 59) (off := 61) (tgt := 62) (by decide +kernel) (by rw [ex]; decide) (by rw [ex]; decide) (by rw [ex]; rfl) (by decide) ?_
                refine g_iconst (z := 1) (v := 1) (by decide +kernel) rfl ?_
                exact x_iretp hf (by decide +kernel) rfl
              · rw [if_neg e6] at hf
                by_cases e7 : p1 = (15 : Int32)
                · rw [if_pos e7] at hf
                  have ex : Int32.toInt p1 = 15 := by rw [e7]; rfl
                  refine x_tabIn (dflt := 82) (lo := 8) (hi := 18) (offs := #[65, 82, 82, 82, 82, 82, 61, 59, 63, 67, 69]) (len := 59) (off := 59) (tgt := 60) (by decide +kernel) (by rw [ex]; decide) (by rw [ex]; decide) (by rw [ex]; rfl) (by decide) ?_
                  refine g_iconst (z := 0) (v := 0) (by decide +kernel) rfl ?_
                  exact x_iretp hf (by decide +kernel) rfl
                · rw [if_neg e7] at hf
                  by_cases e8 : p1 = (16 : Int32)
                  · rw [if_pos e8] at hf
                    have ex : Int32.toInt p1 = 16 := by rw [e8]; rfl
                    refine x_tabIn (dflt := 82) (lo := 8) (hi := 18) (offs := #[65, 82, 82, 82, 82, 82, 61, 59, 63, 67, 69]) (len := 59) (off := 63) (tgt := 64) (by decide +kernel) (by rw [ex]; decide) (by rw [ex]; decide) (by rw [ex]; rfl) (by decide) ?_
                    refine g_iconst (z := 2) (v := 2) (by decide +kernel) rfl ?_
                    exact x_iretp hf (by decide +kernel) rfl
                  · rw [if_neg e8] at hf
                    by_cases e9 : p1 = (17 : Int32)
                    · rw [if_pos e9] at hf
                      have ex : Int32.toInt p1 = 17 := by rw [e9]; rfl
                      refine x_tabIn (dflt := 82) (lo := 8) (hi := 18) (offs := #[65, 82, 82, 82, 82, 82, 61, 59, 63, 67, 69]) (len := 59) (off := 67) (tgt := 68) (by decide +kernel) (by rw [ex]; decide) (by rw [ex]; decide) (by rw [ex]; rfl) (by decide) ?_
                      refine g_iconst (z := 4) (v := 4) (by decide +kernel) rfl ?_
                      exact x_iretp hf (by decide +kernel) rfl
                    · rw [if_neg e9] at hf
                      by_cases e10 : p1 = (18 : Int32)
                      · rw [if_pos e10] at hf
                        have ex : Int32.toInt p1 = 18 := by rw [e10]; rfl
                        refine x_tabIn (dflt := 82) (lo := 8) (hi := 18) (offs := #[65, 82, 82, 82, 82, 82, 61, 59, 63, 67, 69]) (len := 59) (off := 69) (tgt := 70) (by decide +kernel) (by rw [ex]; decide) (by rw [ex]; decide) (by rw [ex]; rfl) (by decide) ?_
                        refine g_aload_n (i := 0) (by decide +kernel) rfl ?_
                        refine x_geti (hs.k k_136) F_Mod_161 (by decide +kernel) rfl ?_
                        refine x_if_ne (off := 7) (tgt := 81) hf (by decide +kernel) (by decide) (fun c1 hf => ?_) (fun c1 hf => ?_)
                        · refine g_iconst (z := (-1)) (v := (-1)) (by decide +kernel) rfl ?_
                          exact x_iretp hf (by decide +kernel) rfl
                        · refine g_iconst (z := 5) (v := 5) (by decide +kernel) rfl ?_
                          refine g_goto (off := 4) (tgt := 82) (by decide +kernel) (by decide) ?_
                          exact x_iretp hf (by decide +kernel) rfl
                      · rw [if_neg e10] at hf
                        refine x_tabOut (dflt := 82) (lo := 8) (hi := 18) (offs := #[65, 82, 82, 82, 82, 82, 61, 59, 63, 67, 69]) (len := 59) (tgt := 83) (by decide +kernel) (am_tabNe ⟨by decide, by decide⟩ (fun z hz => ?_)) (by decide) ?_
                        · have hz : z < 11 := hz
                          have : z = 0 ∨ z = 1 ∨ z = 2 ∨ z = 3 ∨ z = 4 ∨ z = 5 ∨ z = 6 ∨ z = 7 ∨ z = 8 ∨ z = 9 ∨ z = 10 := by omega
                          rcases this with rfl | rfl | rfl | rfl | rfl | rfl | rfl | rfl | rfl | rfl | rfl
                          · exact e0
                          · exact e1
                          · exact e2
                          · exact e3
                          · exact e4
                          · exact e5
                          · exact e6
                          · exact e7
                          · exact e8
                          · exact e9
                          · exact e10
                        · refine g_iconst (z := (-1)) (v := (-1)) (by decide +kernel) rfl ?_
                          exact x_iretp hf (by decide +kernel) rfl
def f_Mod_codes (p1 : Int32) (h : am_H) : Option (am_H) :=
  (if (h.2.1 136 11) = 0 then
    (am_rd (h.2.1 140) 1137 (236 : Int32)).bind fun x2 =>
    (am_wr h 140 1137 ((237 : Int32) + x2) p1).bind fun h3 =>
    (am_rd (h3.2.1 140) 1137 (236 : Int32)).bind fun x4 =>
    (am_wr h3 140 1137 (236 : Int32) (x4 + (1 : Int32))).bind fun h5 =>
    some h5
  else
    some h)
set_option maxRecDepth 100000 in
set_option maxHeartbeats 4000000 in
theorem t_Mod_codes {p1 : Int32} {h : am_H} (hs : am_Sh h)  {r : am_H} (hf : f_Mod_codes p1 h = some r) : am_Ct 0 M_Mod_codes [.ref 136, .int p1] h 0 0 (am_qV r) := by
  unfold f_Mod_codes at hf
  refine am_Ct.of (by decide) rfl (Nat.le_of_ble_eq_true rfl) (ls := [(0, .ref 136), (1, .int p1)]) rfl ?_
  refine g_aload_n (i := 0) (by decide +kernel) rfl ?_
  refine x_geti (hs.k k_136) F_Mod_141 (by decide +kernel) rfl ?_
  refine x_if_eq (off := 4) (tgt := 8) hf (by decide +kernel) (by decide) (fun c1 hf => ?_) (fun c1 hf => ?_)
  · refine g_aload_n (i := 0) (by decide +kernel) rfl ?_
    refine x_getr (hs.k k_136) F_Mod_24 (by decide +kernel) rfl (hs.r r_136_4) ?_
    refine g_sipush (z := 237) (v := 237) (by decide +kernel) rfl ?_
    refine g_aload_n (i := 0) (by decide +kernel) rfl ?_
    refine x_getr (hs.k k_136) F_Mod_24 (by decide +kernel) rfl (hs.r r_136_4) ?_
    refine g_sipush (z := 236) (v := 236) (by decide +kernel) rfl ?_
    refine x_iald hf (hs.k k_140) (by decide +kernel) (fun x2 hf => ?_)
    refine g_iadd (by decide +kernel) ?_
    refine g_iload_n (i := 1) (by decide +kernel) rfl ?_
    refine x_iast hf hs (hs.k k_140) (by decide +kernel) (fun h3 hf hs => ?_)
    refine g_aload_n (i := 0) (by decide +kernel) rfl ?_
    refine x_getr (hs.k k_136) F_Mod_24 (by decide +kernel) rfl (hs.r r_136_4) ?_
    refine g_sipush (z := 236) (v := 236) (by decide +kernel) rfl ?_
    refine g_dup2_11 (by decide +kernel) rfl rfl ?_
    refine x_iald hf (hs.k k_140) (by decide +kernel) (fun x4 hf => ?_)
    refine g_iconst (z := 1) (v := 1) (by decide +kernel) rfl ?_
    refine g_iadd (by decide +kernel) ?_
    refine x_iast hf hs (hs.k k_140) (by decide +kernel) (fun h5 hf hs => ?_)
    exact x_vret hf hs (by decide +kernel) rfl
  · exact x_vret hf hs (by decide +kernel) rfl
def f_Mod_doesErrands_L4  : Nat → Int32 → Int32 → am_H → Option (Int32 × Int32 × am_H)
  | 0, _, _, _ => none
  | n + 1, v1, v2, h =>
    (am_rd (h.2.1 137) 3411 (3 : Int32)).bind fun x1 =>
    (if x1 ≤ v2 then
      some (v1, v2, h)
    else
      (am_rd (h.2.1 137) 3411 (28 : Int32)).bind fun x3 =>
      (f_Mod_isIn ((x3).toInt64) v2 h).bind fun q4 =>
      (if q4 = true then
        f_Mod_doesErrands_L4  n v1 (v2 + (1 : Int32)) h
      else
        (am_rd (h.2.1 137) 3411 ((16 : Int32) + v2)).bind fun x6 =>
        (am_rd (h.2.1 137) 3411 ((35 : Int32) + v2)).bind fun x7 =>
        (if x6 = x7 then
          (am_rd (h.2.1 137) 3411 (26 : Int32)).bind fun x9 =>
          (am_rd (h.2.1 137) 3411 ((21 : Int32) + v2)).bind fun x10 =>
          (if x9 ≤ x10 then
            (am_rd (h.2.1 137) 3411 (28 : Int32)).bind fun x12 =>
            (am_wr h 137 3411 (28 : Int32) (x12 ||| ((1 : Int32) <<< (v2 &&& 31)))).bind fun h13 =>
            f_Mod_doesErrands_L4  n (v1 + (1 : Int32)) (v2 + (1 : Int32)) h13
          else
            f_Mod_doesErrands_L4  n v1 (v2 + (1 : Int32)) h)
        else
          f_Mod_doesErrands_L4  n v1 (v2 + (1 : Int32)) h)))
set_option maxRecDepth 100000 in
set_option maxHeartbeats 4000000 in
theorem t_Mod_doesErrands_L4   {Q : Option Value → am_H → Prop} : ∀ (n : Nat) (v1 : Int32) (v2 : Int32) (h : am_H) (q : Int32 × Int32 × am_H), am_Sh h → f_Mod_doesErrands_L4  n v1 v2 h = some q → (am_Sh q.2.2 → am_G 1 M_Mod_doesErrands 0 0 Q 94 [(0, .ref 136), (1, .int q.1), (2, .int q.2.1)] [] q.2.2 0 0) → am_G 1 M_Mod_doesErrands 0 0 Q 4 [(0, .ref 136), (1, .int v1), (2, .int v2)] [] h 0 0 := by
  intro n
  induction n with
  | zero =>
    intro v1 v2 h q hs hf kont
    rw [f_Mod_doesErrands_L4] at hf
    cases hf
  | succ n ih =>
    intro v1 v2 h q hs hf kont
    rw [f_Mod_doesErrands_L4] at hf
    refine g_iload_n (i := 2) (by decide +kernel) rfl ?_
    refine g_aload_n (i := 0) (by decide +kernel) rfl ?_
    refine x_getr (hs.k k_136) F_Mod_13 (by decide +kernel) rfl (hs.r r_136_1) ?_
    refine g_iconst (z := 3) (v := 3) (by decide +kernel) rfl ?_
    refine x_iald hf (hs.k k_137) (by decide +kernel) (fun x1 hf => ?_)
    refine x_icmp_ge (off := 83) (tgt := 94) hf (by decide +kernel) (by decide) (fun c2 hf => ?_) (fun c2 hf => ?_)
    · cases hf
      exact am_G.forget (am_subp [0, 1, 2] rfl) (kont hs)
    · refine g_aload_n (i := 0) (by decide +kernel) rfl ?_
      refine x_getr (hs.k k_136) F_Mod_13 (by decide +kernel) rfl (hs.r r_136_1) ?_
      refine g_bipush (z := 28) (v := 28) (by decide +kernel) rfl ?_
      refine x_iald hf (hs.k k_137) (by decide +kernel) (fun x3 hf => ?_)
      refine g_i2l (by decide +kernel) ?_
      refine g_iload_n (i := 2) (by decide +kernel) rfl ?_
      refine x_callSBp (as := [.long ((x3).toInt64), .int v2]) St_Mod_isIn hf (fun q hq => t_Mod_isIn hs  hq) Y_Mod_isIn L_Mod_260 (by decide +kernel) rfl rfl (Nat.le_of_ble_eq_true rfl) (by decide) (fun q4 hf => ?_)
      refine x_ifb_ne (off := 62) (tgt := 88) hf (by decide +kernel) (by decide) (fun c5 hf => ?_) (fun c5 hf => ?_)
      · refine g_iinc (i := 2) (z := 1) (v := (v2 + (1 : Int32))) (by decide +kernel) rfl rfl rfl (by decide) (ls1 := [(0, .ref 136), (1, .int v1), (2, .int (v2 + (1 : Int32)))]) rfl ?_
        refine g_goto (off := (-87)) (tgt := 4) (by decide +kernel) (by decide) ?_
        exact am_G.forget (am_subp [0, 1, 2] rfl) (ih _ _ _ _ hs hf kont)
      · refine g_aload_n (i := 0) (by decide +kernel) rfl ?_
        refine x_getr (hs.k k_136) F_Mod_13 (by decide +kernel) rfl (hs.r r_136_1) ?_
        refine g_bipush (z := 16) (v := 16) (by decide +kernel) rfl ?_
        refine g_iload_n (i := 2) (by decide +kernel) rfl ?_
        refine g_iadd (by decide +kernel) ?_
        refine x_iald hf (hs.k k_137) (by decide +kernel) (fun x6 hf => ?_)
        refine g_aload_n (i := 0) (by decide +kernel) rfl ?_
        refine x_getr (hs.k k_136) F_Mod_13 (by decide +kernel) rfl (hs.r r_136_1) ?_
        refine g_bipush (z := 35) (v := 35) (by decide +kernel) rfl ?_
        refine g_iload_n (i := 2) (by decide +kernel) rfl ?_
        refine g_iadd (by decide +kernel) ?_
        refine x_iald hf (hs.k k_137) (by decide +kernel) (fun x7 hf => ?_)
        refine x_icmp_ne (off := 41) (tgt := 88) hf (by decide +kernel) (by decide) (fun c8 hf => ?_) (fun c8 hf => ?_)
        · refine g_iinc (i := 2) (z := 1) (v := (v2 + (1 : Int32))) (by decide +kernel) rfl rfl rfl (by decide) (ls1 := [(0, .ref 136), (1, .int v1), (2, .int (v2 + (1 : Int32)))]) rfl ?_
          refine g_goto (off := (-87)) (tgt := 4) (by decide +kernel) (by decide) ?_
          exact am_G.forget (am_subp [0, 1, 2] rfl) (ih _ _ _ _ hs hf kont)
        · refine g_aload_n (i := 0) (by decide +kernel) rfl ?_
          refine x_getr (hs.k k_136) F_Mod_13 (by decide +kernel) rfl (hs.r r_136_1) ?_
          refine g_bipush (z := 26) (v := 26) (by decide +kernel) rfl ?_
          refine x_iald hf (hs.k k_137) (by decide +kernel) (fun x9 hf => ?_)
          refine g_aload_n (i := 0) (by decide +kernel) rfl ?_
          refine x_getr (hs.k k_136) F_Mod_13 (by decide +kernel) rfl (hs.r r_136_1) ?_
          refine g_bipush (z := 21) (v := 21) (by decide +kernel) rfl ?_
          refine g_iload_n (i := 2) (by decide +kernel) rfl ?_
          refine g_iadd (by decide +kernel) ?_
          refine x_iald hf (hs.k k_137) (by decide +kernel) (fun x10 hf => ?_)
          refine x_icmp_le (off := 6) (tgt := 72) hf (by decide +kernel) (by decide) (fun c11 hf => ?_) (fun c11 hf => ?_)
          · refine g_aload_n (i := 0) (by decide +kernel) rfl ?_
            refine x_getr (hs.k k_136) F_Mod_13 (by decide +kernel) rfl (hs.r r_136_1) ?_
            refine g_bipush (z := 28) (v := 28) (by decide +kernel) rfl ?_
            refine g_dup2_11 (by decide +kernel) rfl rfl ?_
            refine x_iald hf (hs.k k_137) (by decide +kernel) (fun x12 hf => ?_)
            refine g_iconst (z := 1) (v := 1) (by decide +kernel) rfl ?_
            refine g_iload_n (i := 2) (by decide +kernel) rfl ?_
            refine g_ishl (by decide +kernel) ?_
            refine g_ior (by decide +kernel) ?_
            refine x_iast hf hs (hs.k k_137) (by decide +kernel) (fun h13 hf hs => ?_)
            refine g_iinc (i := 1) (z := 1) (v := (v1 + (1 : Int32))) (by decide +kernel) rfl rfl rfl (by decide) (ls1 := [(0, .ref 136), (1, .int (v1 + (1 : Int32))), (2, .int v2)]) rfl ?_
            refine g_iinc (i := 2) (z := 1) (v := (v2 + (1 : Int32))) (by decide +kernel) rfl rfl rfl (by decide) (ls1 := [(0, .ref 136), (1, .int (v1 + (1 : Int32))), (2, .int (v2 + (1 : Int32)))]) rfl ?_
            refine g_goto (off := (-87)) (tgt := 4) (by decide +kernel) (by decide) ?_
            exact am_G.forget (am_subp [0, 1, 2] rfl) (ih _ _ _ _ hs hf kont)
          · refine g_goto (off := 19) (tgt := 88) (by decide +kernel) (by decide) ?_
            refine g_iinc (i := 2) (z := 1) (v := (v2 + (1 : Int32))) (by decide +kernel) rfl rfl rfl (by decide) (ls1 := [(0, .ref 136), (1, .int v1), (2, .int (v2 + (1 : Int32)))]) rfl ?_
            refine g_goto (off := (-87)) (tgt := 4) (by decide +kernel) (by decide) ?_
            exact am_G.forget (am_subp [0, 1, 2] rfl) (ih _ _ _ _ hs hf kont)
def f_Mod_doesErrands  (h : am_H) : Option (Int32 × am_H) :=
  (f_Mod_doesErrands_L4  am_fu (0 : Int32) (0 : Int32) h).bind fun q14 =>
  some (q14.1, q14.2.2)
set_option maxRecDepth 100000 in
set_option maxHeartbeats 4000000 in
theorem t_Mod_doesErrands  {h : am_H} (hs : am_Sh h)  {r : Int32 × am_H} (hf : f_Mod_doesErrands  h = some r) : am_Ct 1 M_Mod_doesErrands [.ref 136] h 0 0 (am_qI r) := by
  unfold f_Mod_doesErrands at hf
  refine am_Ct.of (by decide) rfl (Nat.le_of_ble_eq_true rfl) (ls := [(0, .ref 136)]) rfl ?_
  refine g_iconst (z := 0) (v := 0) (by decide +kernel) rfl ?_
  refine g_istore_n (i := 1) (by decide +kernel) rfl (by decide) (ls1 := [(0, .ref 136), (1, .int (0 : Int32))]) rfl ?_
  refine g_iconst (z := 0) (v := 0) (by decide +kernel) rfl ?_
  refine g_istore_n (i := 2) (by decide +kernel) rfl (by decide) (ls1 := [(0, .ref 136), (1, .int (0 : Int32)), (2, .int (0 : Int32))]) rfl ?_
  obtain ⟨q14, hqq14, hf⟩ := Option.bind_eq_some_iff.mp hf
  refine t_Mod_doesErrands_L4  am_fu _ _ _ q14 hs hqq14 (fun hs => ?_)
  refine g_iload_n (i := 1) (by decide +kernel) rfl ?_
  exact x_iret hf hs (by decide +kernel) rfl
def f_Mod_fault (p1 : Int32) (h : am_H) : Option (Int32 × am_H) :=
  am_let (am_sI h 136 0 (0 : Int32)) fun h1 =>
  (if p1 = 0 then
    some ((h1.2.1 136 13), h1)
  else
    (if p1 = (1 : Int32) then
      some ((h1.2.1 136 14), h1)
    else
      some ((-1 : Int32), h1)))
set_option maxRecDepth 100000 in
set_option maxHeartbeats 4000000 in
theorem t_Mod_fault {p1 : Int32} {h : am_H} (hs : am_Sh h)  {r : Int32 × am_H} (hf : f_Mod_fault p1 h = some r) : am_Ct 0 M_Mod_fault [.ref 136, .int p1] h 0 0 (am_qI r) := by
  unfold f_Mod_fault at hf
  refine am_Ct.of (by decide) rfl (Nat.le_of_ble_eq_true rfl) (ls := [(0, .ref 136), (1, .int p1)]) rfl ?_
  refine g_aload_n (i := 0) (by decide +kernel) rfl ?_
  refine g_iconst (z := 0) (v := 0) (by decide +kernel) rfl ?_
  refine x_puti hf hs (hs.k k_136) F_Mod_1 (by decide +kernel) rfl rfl rfl rfl (fun h1 hf hs => ?_)
  refine g_iload_n (i := 1) (by decide +kernel) rfl ?_
  refine x_if_ne (off := 10) (tgt := 16) hf (by decide +kernel) (by decide) (fun c2 hf => ?_) (fun c2 hf => ?_)
  · refine g_iload_n (i := 1) (by decide +kernel) rfl ?_
    refine g_iconst (z := 1) (v := 1) (by decide +kernel) rfl ?_
    refine x_icmp_ne (off := 10) (tgt := 28) hf (by decide +kernel) (by decide) (fun c3 hf => ?_) (fun c3 hf => ?_)
    · refine g_iconst (z := (-1)) (v := (-1)) (by decide +kernel) rfl ?_
      exact x_iret hf hs (by decide +kernel) rfl
    · refine g_aload_n (i := 0) (by decide +kernel) rfl ?_
      refine x_geti (hs.k k_136) F_Mod_27 (by decide +kernel) rfl ?_
      refine g_goto (off := 4) (tgt := 29) (by decide +kernel) (by decide) ?_
      exact x_iret hf hs (by decide +kernel) rfl
  · refine g_aload_n (i := 0) (by decide +kernel) rfl ?_
    refine x_geti (hs.k k_136) F_Mod_219 (by decide +kernel) rfl ?_
    refine g_goto (off := 16) (tgt := 29) (by decide +kernel) (by decide) ?_
    exact x_iret hf hs (by decide +kernel) rfl
def f_Mod_isPerson (p1 : Int64) (h : am_H) : Option (Bool) :=
  (am_rd (h.2.1 137) 3411 (3 : Int32)).bind fun x1 =>
  (f_Mod_within p1 (0 : Int64) (((x1 - (1 : Int32))).toInt64) h).bind fun q2 =>
  some q2
set_option maxRecDepth 100000 in
set_option maxHeartbeats 4000000 in
theorem t_Mod_isPerson {p1 : Int64} {h : am_H} (hs : am_Sh h)  {r : Bool} (hf : f_Mod_isPerson p1 h = some r) : am_Ct 1 M_Mod_isPerson [.ref 136, .long p1] h 0 0 (am_pB h r) := by
  unfold f_Mod_isPerson at hf
  refine am_Ct.of (by decide) rfl (Nat.le_of_ble_eq_true rfl) (ls := [(0, .ref 136), (1, .long p1)]) rfl ?_
  refine g_lload_n (i := 1) (by decide +kernel) rfl ?_
  refine g_lconst (z := 0) (v := 0) (by decide +kernel) rfl ?_
  refine g_aload_n (i := 0) (by decide +kernel) rfl ?_
  refine x_getr (hs.k k_136) F_Mod_13 (by decide +kernel) rfl (hs.r r_136_1) ?_
  refine g_iconst (z := 3) (v := 3) (by decide +kernel) rfl ?_
  refine x_iald hf (hs.k k_137) (by decide +kernel) (fun x1 hf => ?_)
  refine g_iconst (z := 1) (v := 1) (by decide +kernel) rfl ?_
  refine g_isub (by decide +kernel) ?_
  refine g_i2l (by decide +kernel) ?_
  refine x_callSBp (as := [.long p1, .long (0 : Int64), .long (((x1 - (1 : Int32))).toInt64)]) St_Mod_within hf (fun q hq => t_Mod_within hs  hq) Y_Mod_within L_Mod_157 (by decide +kernel) rfl rfl (Nat.le_of_ble_eq_true rfl) (by decide) (fun q2 hf => ?_)
  exact x_zretp rfl hf (by decide +kernel) rfl
def f_Mod_isSpot (p1 : Int64) (h : am_H) : Option (Bool) :=
  (if (lg_cmp p1 (8 : Int64)) = 0 then
    some true
  else
    (am_rd (h.2.1 137) 3411 (1 : Int32)).bind fun x2 =>
    (f_Mod_within p1 (0 : Int64) (((((2 : Int32) * x2) - (1 : Int32))).toInt64) h).bind fun q3 =>
    (if q3 = true then
      some true
    else
      some false))
set_option maxRecDepth 100000 in
set_option maxHeartbeats 4000000 in
theorem t_Mod_isSpot {p1 : Int64} {h : am_H} (hs : am_Sh h)  {r : Bool} (hf : f_Mod_isSpot p1 h = some r) : am_Ct 1 M_Mod_isSpot [.ref 136, .long p1] h 0 0 (am_pB h r) := by
  unfold f_Mod_isSpot at hf
  refine am_Ct.of (by decide) rfl (Nat.le_of_ble_eq_true rfl) (ls := [(0, .ref 136), (1, .long p1)]) rfl ?_
  refine g_lload_n (i := 1) (by decide +kernel) rfl ?_
  refine g_ldc2 (by decide +kernel) C_Mod_225 ?_
  refine g_lcmp (by decide +kernel) ?_
  refine x_if_eq (off := 22) (tgt := 27) hf (by decide +kernel) (by decide) (fun c1 hf => ?_) (fun c1 hf => ?_)
  · refine g_iconst (z := 1) (v := 1) (by decide +kernel) rfl ?_
    refine g_goto (off := 4) (tgt := 32) (by decide +kernel) (by decide) ?_
    exact x_zretp rfl hf (by decide +kernel) rfl
  · refine g_lload_n (i := 1) (by decide +kernel) rfl ?_
    refine g_lconst (z := 0) (v := 0) (by decide +kernel) rfl ?_
    refine g_iconst (z := 2) (v := 2) (by decide +kernel) rfl ?_
    refine g_aload_n (i := 0) (by decide +kernel) rfl ?_
    refine x_getr (hs.k k_136) F_Mod_13 (by decide +kernel) rfl (hs.r r_136_1) ?_
    refine g_iconst (z := 1) (v := 1) (by decide +kernel) rfl ?_
    refine x_iald hf (hs.k k_137) (by decide +kernel) (fun x2 hf => ?_)
    refine g_imul (by decide +kernel) ?_
    refine g_iconst (z := 1) (v := 1) (by decide +kernel) rfl ?_
    refine g_isub (by decide +kernel) ?_
    refine g_i2l (by decide +kernel) ?_
    refine x_callSBp (as := [.long p1, .long (0 : Int64), .long (((((2 : Int32) * x2) - (1 : Int32))).toInt64)]) St_Mod_within hf (fun q hq => t_Mod_within hs  hq) Y_Mod_within L_Mod_157 (by decide +kernel) rfl rfl (Nat.le_of_ble_eq_true rfl) (by decide) (fun q3 hf => ?_)
    refine x_ifb_eq (off := 7) (tgt := 31) hf (by decide +kernel) (by decide) (fun c4 hf => ?_) (fun c4 hf => ?_)
    · refine g_iconst (z := 0) (v := 0) (by decide +kernel) rfl ?_
      exact x_zretp rfl hf (by decide +kernel) rfl
    · refine g_iconst (z := 1) (v := 1) (by decide +kernel) rfl ?_
      refine g_goto (off := 4) (tgt := 32) (by decide +kernel) (by decide) ?_
      exact x_zretp rfl hf (by decide +kernel) rfl
def f_Mod_bitsOf_L4 (p0 : Int32) : Nat → Int32 → Int32 → am_H → Option (Int32 × Int32)
  | 0, _, _, _ => none
  | n + 1, v1, v2, h =>
    (if (9 : Int32) ≤ v2 then
      some (v1, v2)
    else
      f_Mod_bitsOf_L4 p0 n (v1 + ((p0 >>> (v2 &&& 31)) &&& (1 : Int32))) (v2 + (1 : Int32)) h)
set_option maxRecDepth 100000 in
set_option maxHeartbeats 4000000 in
theorem t_Mod_bitsOf_L4 {p0 : Int32}  {Q : Option Value → am_H → Prop} : ∀ (n : Nat) (v1 : Int32) (v2 : Int32) (h : am_H) (q : Int32 × Int32), am_Sh h → f_Mod_bitsOf_L4 p0 n v1 v2 h = some q → (am_G 0 M_Mod_bitsOf 0 0 Q 24 [(0, .int p0), (1, .int q.1), (2, .int q.2)] [] h 0 0) → am_G 0 M_Mod_bitsOf 0 0 Q 4 [(0, .int p0), (1, .int v1), (2, .int v2)] [] h 0 0 := by
  intro n
  induction n with
  | zero =>
    intro v1 v2 h q hs hf kont
    rw [f_Mod_bitsOf_L4] at hf
    cases hf
  | succ n ih =>
    intro v1 v2 h q hs hf kont
    rw [f_Mod_bitsOf_L4] at hf
    refine g_iload_n (i := 2) (by decide +kernel) rfl ?_
    refine g_bipush (z := 9) (v := 9) (by decide +kernel) rfl ?_
    refine x_icmp_ge (off := 17) (tgt := 24) hf (by decide +kernel) (by decide) (fun c1 hf => ?_) (fun c1 hf => ?_)
    · cases hf
      exact am_G.forget (am_subp [0, 1, 2] rfl) kont
    · refine g_iload_n (i := 1) (by decide +kernel) rfl ?_
      refine g_iload_n (i := 0) (by decide +kernel) rfl ?_
      refine g_iload_n (i := 2) (by decide +kernel) rfl ?_
      refine g_ishr (by decide +kernel) ?_
      refine g_iconst (z := 1) (v := 1) (by decide +kernel) rfl ?_
      refine g_iand (by decide +kernel) ?_
      refine g_iadd (by decide +kernel) ?_
      refine g_istore_n (i := 1) (by decide +kernel) rfl (by decide) (ls1 := [(0, .int p0), (1, .int (v1 + ((p0 >>> (v2 &&& 31)) &&& (1 : Int32)))), (2, .int v2)]) rfl ?_
      refine g_iinc (i := 2) (z := 1) (v := (v2 + (1 : Int32))) (by decide +kernel) rfl rfl rfl (by decide) (ls1 := [(0, .int p0), (1, .int (v1 + ((p0 >>> (v2 &&& 31)) &&& (1 : Int32)))), (2, .int (v2 + (1 : Int32)))]) rfl ?_
      refine g_goto (off := (-17)) (tgt := 4) (by decide +kernel) (by decide) ?_
      exact am_G.forget (am_subp [0, 1, 2] rfl) (ih _ _ _ _ hs hf kont)
def f_Mod_bitsOf (p0 : Int32) (h : am_H) : Option (Int32) :=
  (f_Mod_bitsOf_L4 p0 am_fu (0 : Int32) (0 : Int32) h).bind fun q2 =>
  some q2.1
set_option maxRecDepth 100000 in
set_option maxHeartbeats 4000000 in
theorem t_Mod_bitsOf {p0 : Int32} {h : am_H} (hs : am_Sh h)  {r : Int32} (hf : f_Mod_bitsOf p0 h = some r) : am_Ct 0 M_Mod_bitsOf [.int p0] h 0 0 (am_pI h r) := by
  unfold f_Mod_bitsOf at hf
  refine am_Ct.of (by decide) rfl (Nat.le_of_ble_eq_true rfl) (ls := [(0, .int p0)]) rfl ?_
  refine g_iconst (z := 0) (v := 0) (by decide +kernel) rfl ?_
  refine g_istore_n (i := 1) (by decide +kernel) rfl (by decide) (ls1 := [(0, .int p0), (1, .int (0 : Int32))]) rfl ?_
  refine g_iconst (z := 0) (v := 0) (by decide +kernel) rfl ?_
  refine g_istore_n (i := 2) (by decide +kernel) rfl (by decide) (ls1 := [(0, .int p0), (1, .int (0 : Int32)), (2, .int (0 : Int32))]) rfl ?_
  obtain ⟨q2, hqq2, hf⟩ := Option.bind_eq_some_iff.mp hf
  refine t_Mod_bitsOf_L4  am_fu _ _ _ q2 hs hqq2 ?_
  refine g_iload_n (i := 1) (by decide +kernel) rfl ?_
  exact x_iretp hf (by decide +kernel) rfl
def f_Mod_spanIn (p1 : Int32) (h : am_H) : Option (Int32) :=
  (am_rd (h.2.1 137) 3411 (2 : Int32)).bind fun x1 =>
  (am_md p1 x1).bind fun x2 =>
  (am_rd (h.2.1 137) 3411 ((29 : Int32) + x2)).bind fun x3 =>
  some x3
set_option maxRecDepth 100000 in
set_option maxHeartbeats 4000000 in
theorem t_Mod_spanIn {p1 : Int32} {h : am_H} (hs : am_Sh h)  {r : Int32} (hf : f_Mod_spanIn p1 h = some r) : am_Ct 0 M_Mod_spanIn [.ref 136, .int p1] h 0 0 (am_pI h r) := by
  unfold f_Mod_spanIn at hf
  refine am_Ct.of (by decide) rfl (Nat.le_of_ble_eq_true rfl) (ls := [(0, .ref 136), (1, .int p1)]) rfl ?_
  refine g_aload_n (i := 0) (by decide +kernel) rfl ?_
  refine x_getr (hs.k k_136) F_Mod_13 (by decide +kernel) rfl (hs.r r_136_1) ?_
  refine g_bipush (z := 29) (v := 29) (by decide +kernel) rfl ?_
  refine g_iload_n (i := 1) (by decide +kernel) rfl ?_
  refine g_aload_n (i := 0) (by decide +kernel) rfl ?_
  refine x_getr (hs.k k_136) F_Mod_13 (by decide +kernel) rfl (hs.r r_136_1) ?_
  refine g_iconst (z := 2) (v := 2) (by decide +kernel) rfl ?_
  refine x_iald hf (hs.k k_137) (by decide +kernel) (fun x1 hf => ?_)
  refine x_irem hf (by decide +kernel) (fun x2 hf => ?_)
  refine g_iadd (by decide +kernel) ?_
  refine x_iald hf (hs.k k_137) (by decide +kernel) (fun x3 hf => ?_)
  exact x_iretp hf (by decide +kernel) rfl
def f_Mod_fogIn (p1 : Int32) (h : am_H) : Option (Int32) :=
  (am_rd (h.2.1 137) 3411 (27 : Int32)).bind fun x1 =>
  (if x1 ≤ p1 then
    some (0 : Int32)
  else
    some (1 : Int32))
set_option maxRecDepth 100000 in
set_option maxHeartbeats 4000000 in
theorem t_Mod_fogIn {p1 : Int32} {h : am_H} (hs : am_Sh h)  {r : Int32} (hf : f_Mod_fogIn p1 h = some r) : am_Ct 0 M_Mod_fogIn [.ref 136, .int p1] h 0 0 (am_pI h r) := by
  unfold f_Mod_fogIn at hf
  refine am_Ct.of (by decide) rfl (Nat.le_of_ble_eq_true rfl) (ls := [(0, .ref 136), (1, .int p1)]) rfl ?_
  refine g_iload_n (i := 1) (by decide +kernel) rfl ?_
  refine g_aload_n (i := 0) (by decide +kernel) rfl ?_
  refine x_getr (hs.k k_136) F_Mod_13 (by decide +kernel) rfl (hs.r r_136_1) ?_
  refine g_bipush (z := 27) (v := 27) (by decide +kernel) rfl ?_
  refine x_iald hf (hs.k k_137) (by decide +kernel) (fun x1 hf => ?_)
  refine x_icmp_ge (off := 7) (tgt := 15) hf (by decide +kernel) (by decide) (fun c2 hf => ?_) (fun c2 hf => ?_)
  · refine g_iconst (z := 0) (v := 0) (by decide +kernel) rfl ?_
    exact x_iretp hf (by decide +kernel) rfl
  · refine g_iconst (z := 1) (v := 1) (by decide +kernel) rfl ?_
    refine g_goto (off := 4) (tgt := 16) (by decide +kernel) (by decide) ?_
    exact x_iretp hf (by decide +kernel) rfl
def f_Mod_between (p0 : Int32) (p1 : Int32) (p2 : Int32) (h : am_H) : Option (Int32) :=
  (if p0 = (3003 : Int32) then
    (if p1 = p2 then
      some (1 : Int32)
    else
      some (0 : Int32))
  else if p0 = (3004 : Int32) then
    (if p2 ≤ p1 then
      some (0 : Int32)
    else
      some (1 : Int32))
  else if p0 = (3005 : Int32) then
    (if p1 ≤ p2 then
      some (0 : Int32)
    else
      some (1 : Int32))
  else if p0 = (3006 : Int32) then
    ((if p0 = (3000 : Int32) then
        some (((p1).toInt64) + ((p2).toInt64))
      else
        (if p0 = (3001 : Int32) then
          some (((p1).toInt64) - ((p2).toInt64))
        else
          some (((p1).toInt64) * ((p2).toInt64)))) : Option (Int64)).bind fun m6 =>
    (if (lg_cmp m6 (1000000 : Int64)) ≤ 0 then
      (if 0 ≤ (lg_cmp m6 (-1000000 : Int64)) then
        some ((m6).toInt32)
      else
        some (((-1000000 : Int64)).toInt32))
    else
      some (((1000000 : Int64)).toInt32))
  else if p0 = (3007 : Int32) then
    some (p1 &&& p2)
  else if p0 = (3008 : Int32) then
    some (p1 ||| p2)
  else 
    ((if p0 = (3000 : Int32) then
        some (((p1).toInt64) + ((p2).toInt64))
      else
        (if p0 = (3001 : Int32) then
          some (((p1).toInt64) - ((p2).toInt64))
        else
          some (((p1).toInt64) * ((p2).toInt64)))) : Option (Int64)).bind fun m11 =>
    (if (lg_cmp m11 (1000000 : Int64)) ≤ 0 then
      (if 0 ≤ (lg_cmp m11 (-1000000 : Int64)) then
        some ((m11).toInt32)
      else
        some (((-1000000 : Int64)).toInt32))
    else
      some (((1000000 : Int64)).toInt32)))
set_option maxRecDepth 100000 in
set_option maxHeartbeats 4000000 in
theorem t_Mod_between {p0 : Int32} {p1 : Int32} {p2 : Int32} {h : am_H} (hs : am_Sh h)  {r : Int32} (hf : f_Mod_between p0 p1 p2 h = some r) : am_Ct 0 M_Mod_between [.int p0, .int p1, .int p2] h 0 0 (am_pI h r) := by
  unfold f_Mod_between at hf
  refine am_Ct.of (by decide) rfl (Nat.le_of_ble_eq_true rfl) (ls := [(0, .int p0), (1, .int p1), (2, .int p2)]) rfl ?_
  refine g_iload_n (i := 0) (by decide +kernel) rfl ?_
  by_cases e0 : p0 = (3003 : Int32)
  · rw [if_pos e0] at hf
    have ex : Int32.toInt p0 = 3003 := by rw [e0]; rfl
    refine x_tabIn (dflt := 80) (lo := 3003) (hi := 3008) (offs := #[39, 50, 61, 80, 72, 76]) (len := 39) (off := 39) (tgt := 40) (by decide +kernel) (by rw [ex]; decide) (by rw [ex]; decide) (by rw [ex]; rfl) (by decide) ?_
    refine g_iload_n (i := 1) (by decide +kernel) rfl ?_
    refine g_iload_n (i := 2) (by decide +kernel) rfl ?_
    refine x_icmp_ne (off := 7) (tgt := 49) hf (by decide +kernel) (by decide) (fun c1 hf => ?_) (fun c1 hf => ?_)
    · refine g_iconst (z := 0) (v := 0) (by decide +kernel) rfl ?_
      exact x_iretp hf (by decide +kernel) rfl
    · refine g_iconst (z := 1) (v := 1) (by decide +kernel) rfl ?_
      refine g_goto (off := 4) (tgt := 50) (by decide +kernel) (by decide) ?_
      exact x_iretp hf (by decide +kernel) rfl
  · rw [if_neg e0] at hf
    by_cases e1 : p0 = (3004 : Int32)
    · rw [if_pos e1] at hf
      have ex : Int32.toInt p0 = 3004 := by rw [e1]; rfl
      refine x_tabIn (dflt := 80) (lo := 3003) (hi := 3008) (offs := #[39, 50, 61, 80, 72, 76]) (len := 39) (off := 50) (tgt := 51) (by decide +kernel) (by rw [ex]; decide) (by rw [ex]; decide) (by rw [ex]; rfl) (by decide) ?_
      refine g_iload_n (i := 1) (by decide +kernel) rfl ?_
      refine g_iload_n (i := 2) (by decide +kernel) rfl ?_
      refine x_icmp_ge (off := 7) (tgt := 60) hf (by decide +kernel) (by decide) (fun c2 hf => ?_) (fun c2 hf => ?_)
      · refine g_iconst (z := 0) (v := 0) (by decide +kernel) rfl ?_
        exact x_iretp hf (by decide +kernel) rfl
      · refine g_iconst (z := 1) (v := 1) (by decide +kernel) rfl ?_
        refine g_goto (off := 4) (tgt := 61) (by decide +kernel) (by decide) ?_
        exact x_iretp hf (by decide +kernel) rfl
    · rw [if_neg e1] at hf
      by_cases e2 : p0 = (3005 : Int32)
      · rw [if_pos e2] at hf
        have ex : Int32.toInt p0 = 3005 := by rw [e2]; rfl
        refine x_tabIn (dflt := 80) (lo := 3003) (hi := 3008) (offs := #[39, 50, 61, 80, 72, 76]) (len := 39) (off := 61) (tgt := 62) (by decide +kernel) (by rw [ex]; decide) (by rw [ex]; decide) (by rw [ex]; rfl) (by decide) ?_
        refine g_iload_n (i := 1) (by decide +kernel) rfl ?_
        refine g_iload_n (i := 2) (by decide +kernel) rfl ?_
        refine x_icmp_le (off := 7) (tgt := 71) hf (by decide +kernel) (by decide) (fun c3 hf => ?_) (fun c3 hf => ?_)
        · refine g_iconst (z := 0) (v := 0) (by decide +kernel) rfl ?_
          exact x_iretp hf (by decide +kernel) rfl
        · refine g_iconst (z := 1) (v := 1) (by decide +kernel) rfl ?_
          refine g_goto (off := 4) (tgt := 72) (by decide +kernel) (by decide) ?_
          exact x_iretp hf (by decide +kernel) rfl
      · rw [if_neg e2] at hf
        by_cases e3 : p0 = (3006 : Int32)
        · rw [if_pos e3] at hf
          have ex : Int32.toInt p0 = 3006 := by rw [e3]; rfl
          refine x_tabIn (dflt := 80) (lo := 3003) (hi := 3008) (offs := #[39, 50, 61, 80, 72, 76]) (len := 39) (off := 80) (tgt := 81) (by decide +kernel) (by rw [ex]; decide) (by rw [ex]; decide) (by rw [ex]; rfl) (by decide) ?_
          refine g_iload_n (i := 0) (by decide +kernel) rfl ?_
          refine g_sipush (z := 3000) (v := 3000) (by decide +kernel) rfl ?_
          obtain ⟨m6, hm116, hf⟩ := Option.bind_eq_some_iff.mp hf
          refine am_cut (J := 116) (ls' := [(0, .int p0), (1, .int p1), (2, .int p2)]) (st' := [.long m6]) ?_ (fun K116 => ?_)
          · refine g_lstore_n (i := 3) (by decide +kernel) rfl (by decide) (ls1 := [(0, .int p0), (1, .int p1), (2, .int p2), (3, .long m6)]) rfl ?_
            refine g_lload_n (i := 3) (by decide +kernel) rfl ?_
            refine g_ldc2 (by decide +kernel) C_Mod_227 ?_
            refine g_lcmp (by decide +kernel) ?_
            refine x_if_le (off := 9) (tgt := 131) hf (by decide +kernel) (by decide) (fun c7 hf => ?_) (fun c7 hf => ?_)
            · refine g_lload_n (i := 3) (by decide +kernel) rfl ?_
              refine g_ldc2 (by decide +kernel) C_Mod_229 ?_
              refine g_lcmp (by decide +kernel) ?_
              refine x_if_ge (off := 9) (tgt := 145) hf (by decide +kernel) (by decide) (fun c8 hf => ?_) (fun c8 hf => ?_)
              · refine g_lload_n (i := 3) (by decide +kernel) rfl ?_
                refine g_l2i (by decide +kernel) ?_
                exact x_iretp hf (by decide +kernel) rfl
              · refine g_ldc2 (by decide +kernel) C_Mod_229 ?_
                refine g_goto (off := 4) (tgt := 146) (by decide +kernel) (by decide) ?_
                refine g_l2i (by decide +kernel) ?_
                exact x_iretp hf (by decide +kernel) rfl
            · refine g_ldc2 (by decide +kernel) C_Mod_227 ?_
              refine g_goto (off := 18) (tgt := 146) (by decide +kernel) (by decide) ?_
              refine g_l2i (by decide +kernel) ?_
              exact x_iretp hf (by decide +kernel) rfl
          refine x_icmp_ne (off := 11) (tgt := 96) hm116 (by decide +kernel) (by decide) (fun c4 hm116 => ?_) (fun c4 hm116 => ?_)
          · refine g_iload_n (i := 0) (by decide +kernel) rfl ?_
            refine g_sipush (z := 3001) (v := 3001) (by decide +kernel) rfl ?_
            refine x_icmp_ne (off := 11) (tgt := 111) hm116 (by decide +kernel) (by decide) (fun c5 hm116 => ?_) (fun c5 hm116 => ?_)
            · refine g_iload_n (i := 1) (by decide +kernel) rfl ?_
              refine g_i2l (by decide +kernel) ?_
              refine g_iload_n (i := 2) (by decide +kernel) rfl ?_
              refine g_i2l (by decide +kernel) ?_
              refine g_lmul (by decide +kernel) ?_
              cases hm116
              exact am_G.forget (am_subp [0, 1, 2] rfl) K116
            · refine g_iload_n (i := 1) (by decide +kernel) rfl ?_
              refine g_i2l (by decide +kernel) ?_
              refine g_iload_n (i := 2) (by decide +kernel) rfl ?_
              refine g_i2l (by decide +kernel) ?_
              refine g_lsub (by decide +kernel) ?_
              refine g_goto (off := 8) (tgt := 116) (by decide +kernel) (by decide) ?_
              cases hm116
              exact am_G.forget (am_subp [0, 1, 2] rfl) K116
          · refine g_iload_n (i := 1) (by decide +kernel) rfl ?_
            refine g_i2l (by decide +kernel) ?_
            refine g_iload_n (i := 2) (by decide +kernel) rfl ?_
            refine g_i2l (by decide +kernel) ?_
            refine g_ladd (by decide +kernel) ?_
            refine g_goto (off := 23) (tgt := 116) (by decide +kernel) (by decide) ?_
            cases hm116
            exact am_G.forget (am_subp [0, 1, 2] rfl) K116
        · rw [if_neg e3] at hf
          by_cases e4 : p0 = (3007 : Int32)
          · rw [if_pos e4] at hf
            have ex : Int32.toInt p0 = 3007 := by rw [e4]; rfl
            refine x_tabIn (dflt := 80) (lo := 3003) (hi := 3008) (offs := #[39, 50, 61, 80, 72, 76]) (len := 39) (off := 72) (tgt := 73) (by decide +kernel) (by rw [ex]; decide) (by rw [ex]; decide) (by rw [ex]; rfl) (by decide) ?_
            refine g_iload_n (i := 1) (by decide +kernel) rfl ?_
            refine g_iload_n (i := 2) (by decide +kernel) rfl ?_
            refine g_iand (by decide +kernel) ?_
            exact x_iretp hf (by decide +kernel) rfl
          · rw [if_neg e4] at hf
            by_cases e5 : p0 = (3008 : Int32)
            · rw [if_pos e5] at hf
              have ex : Int32.toInt p0 = 3008 := by rw [e5]; rfl
              refine x_tabIn (dflt := 80) (lo := 3003) (hi := 3008) (offs := #[39, 50, 61, 80, 72, 76]) (len := 39) (off := 76) (tgt := 77) (by decide +kernel) (by rw [ex]; decide) (by rw [ex]; decide) (by rw [ex]; rfl) (by decide) ?_
              refine g_iload_n (i := 1) (by decide +kernel) rfl ?_
              refine g_iload_n (i := 2) (by decide +kernel) rfl ?_
              refine g_ior (by decide +kernel) ?_
              exact x_iretp hf (by decide +kernel) rfl
            · rw [if_neg e5] at hf
              refine x_tabOut (dflt := 80) (lo := 3003) (hi := 3008) (offs := #[39, 50, 61, 80, 72, 76]) (len := 39) (tgt := 81) (by decide +kernel) (am_tabNe ⟨by decide, by decide⟩ (fun z hz => ?_)) (by decide) ?_
              · have hz : z < 6 := hz
                have : z = 0 ∨ z = 1 ∨ z = 2 ∨ z = 3 ∨ z = 4 ∨ z = 5 := by omega
                rcases this with rfl | rfl | rfl | rfl | rfl | rfl
                · exact e0
                · exact e1
                · exact e2
                · exact e3
                · exact e4
                · exact e5
              · refine g_iload_n (i := 0) (by decide +kernel) rfl ?_
                refine g_sipush (z := 3000) (v := 3000) (by decide +kernel) rfl ?_
                obtain ⟨m11, hm116, hf⟩ := Option.bind_eq_some_iff.mp hf
                refine am_cut (J := 116) (ls' := [(0, .int p0), (1, .int p1), (2, .int p2)]) (st' := [.long m11]) ?_ (fun K116 => ?_)
                · refine g_lstore_n (i := 3) (by decide +kernel) rfl (by decide) (ls1 := [(0, .int p0), (1, .int p1), (2, .int p2), (3, .long m11)]) rfl ?_
                  refine g_lload_n (i := 3) (by decide +kernel) rfl ?_
                  refine g_ldc2 (by decide +kernel) C_Mod_227 ?_
                  refine g_lcmp (by decide +kernel) ?_
                  refine x_if_le (off := 9) (tgt := 131) hf (by decide +kernel) (by decide) (fun c12 hf => ?_) (fun c12 hf => ?_)
                  · refine g_lload_n (i := 3) (by decide +kernel) rfl ?_
                    refine g_ldc2 (by decide +kernel) C_Mod_229 ?_
                    refine g_lcmp (by decide +kernel) ?_
                    refine x_if_ge (off := 9) (tgt := 145) hf (by decide +kernel) (by decide) (fun c13 hf => ?_) (fun c13 hf => ?_)
                    · refine g_lload_n (i := 3) (by decide +kernel) rfl ?_
                      refine g_l2i (by decide +kernel) ?_
                      exact x_iretp hf (by decide +kernel) rfl
                    · refine g_ldc2 (by decide +kernel) C_Mod_229 ?_
                      refine g_goto (off := 4) (tgt := 146) (by decide +kernel) (by decide) ?_
                      refine g_l2i (by decide +kernel) ?_
                      exact x_iretp hf (by decide +kernel) rfl
                  · refine g_ldc2 (by decide +kernel) C_Mod_227 ?_
                    refine g_goto (off := 18) (tgt := 146) (by decide +kernel) (by decide) ?_
                    refine g_l2i (by decide +kernel) ?_
                    exact x_iretp hf (by decide +kernel) rfl
                refine x_icmp_ne (off := 11) (tgt := 96) hm116 (by decide +kernel) (by decide) (fun c9 hm116 => ?_) (fun c9 hm116 => ?_)
                · refine g_iload_n (i := 0) (by decide +kernel) rfl ?_
                  refine g_sipush (z := 3001) (v := 3001) (by decide +kernel) rfl ?_
                  refine x_icmp_ne (off := 11) (tgt := 111) hm116 (by decide +kernel) (by decide) (fun c10 hm116 => ?_) (fun c10 hm116 => ?_)
                  · refine g_iload_n (i := 1) (by decide +kernel) rfl ?_
                    refine g_i2l (by decide +kernel) ?_
                    refine g_iload_n (i := 2) (by decide +kernel) rfl ?_
                    refine g_i2l (by decide +kernel) ?_
                    refine g_lmul (by decide +kernel) ?_
                    cases hm116
                    exact am_G.forget (am_subp [0, 1, 2] rfl) K116
                  · refine g_iload_n (i := 1) (by decide +kernel) rfl ?_
                    refine g_i2l (by decide +kernel) ?_
                    refine g_iload_n (i := 2) (by decide +kernel) rfl ?_
                    refine g_i2l (by decide +kernel) ?_
                    refine g_lsub (by decide +kernel) ?_
                    refine g_goto (off := 8) (tgt := 116) (by decide +kernel) (by decide) ?_
                    cases hm116
                    exact am_G.forget (am_subp [0, 1, 2] rfl) K116
                · refine g_iload_n (i := 1) (by decide +kernel) rfl ?_
                  refine g_i2l (by decide +kernel) ?_
                  refine g_iload_n (i := 2) (by decide +kernel) rfl ?_
                  refine g_i2l (by decide +kernel) ?_
                  refine g_ladd (by decide +kernel) ?_
                  refine g_goto (off := 23) (tgt := 116) (by decide +kernel) (by decide) ?_
                  cases hm116
                  exact am_G.forget (am_subp [0, 1, 2] rfl) K116
def f_Mod_lets_L85 (p1 : Int32) (p2 : Int32) (p3 : Int32) (p4 : Int32) (p5 : Int32) (p6 : Int32) : Nat → Int32 → Int32 → am_H → Option (Int32 × Int32 × am_H)
  | 0, _, _, _ => none
  | n + 1, v7, v8, h =>
    (am_rd (h.2.1 137) 3411 ((9 : Int32) + p1)).bind fun x10 =>
    (if x10 ≤ v8 then
      some (v7, v8, h)
    else
      (am_rd (h.2.1 137) 3411 ((7 : Int32) + p1)).bind fun x12 =>
      (am_rd (h.2.1 137) 3411 (((237 : Int32) + x12) + v8)).bind fun x13 =>
      (if (3000 : Int32) ≤ x13 then
        (if x13 = (3006 : Int32) then
          (am_rd (h.2.1 141) 900 (v7 - (1 : Int32))).bind fun x20 =>
          (am_wr h 141 900 (v7 - (1 : Int32)) ((1 : Int32) - x20)).bind fun h21 =>
          f_Mod_lets_L85 p1 p2 p3 p4 p5 p6 n v7 (v8 + (1 : Int32)) h21
        else
          (am_rd (h.2.1 141) 900 ((v7 + (-1 : Int32)) - (1 : Int32))).bind fun x16 =>
          (am_rd (h.2.1 141) 900 (v7 + (-1 : Int32))).bind fun x17 =>
          (f_Mod_between x13 x16 x17 h).bind fun q18 =>
          (am_wr h 141 900 ((v7 + (-1 : Int32)) - (1 : Int32)) q18).bind fun h19 =>
          f_Mod_lets_L85 p1 p2 p3 p4 p5 p6 n (v7 + (-1 : Int32)) (v8 + (1 : Int32)) h19)
      else
        ((if (1000 : Int32) ≤ x13 then
            (am_rd (h.2.1 142) 6 (x13 - (1000 : Int32))).bind fun x23 =>
            some x23
          else
            some x13) : Option (Int32)).bind fun m24 =>
        (am_wr h 141 900 v7 m24).bind fun h25 =>
        f_Mod_lets_L85 p1 p2 p3 p4 p5 p6 n (v7 + (1 : Int32)) (v8 + (1 : Int32)) h25))
set_option maxRecDepth 100000 in
set_option maxHeartbeats 4000000 in
theorem t_Mod_lets_L85 {p1 : Int32} {p2 : Int32} {p3 : Int32} {p4 : Int32} {p5 : Int32} {p6 : Int32}  {Q : Option Value → am_H → Prop} : ∀ (n : Nat) (v7 : Int32) (v8 : Int32) (h : am_H) (q : Int32 × Int32 × am_H), am_Sh h → f_Mod_lets_L85 p1 p2 p3 p4 p5 p6 n v7 v8 h = some q → (am_Sh q.2.2 → am_G 1 M_Mod_lets 0 0 Q 237 [(0, .ref 136), (1, .int p1), (2, .int p2), (3, .int p3), (4, .int p4), (5, .int p5), (6, .int p6), (7, .int q.1), (8, .int q.2.1)] [] q.2.2 0 0) → am_G 1 M_Mod_lets 0 0 Q 85 [(0, .ref 136), (1, .int p1), (2, .int p2), (3, .int p3), (4, .int p4), (5, .int p5), (6, .int p6), (7, .int v7), (8, .int v8)] [] h 0 0 := by
  intro n
  induction n with
  | zero =>
    intro v7 v8 h q hs hf kont
    rw [f_Mod_lets_L85] at hf
    cases hf
  | succ n ih =>
    intro v7 v8 h q hs hf kont
    rw [f_Mod_lets_L85] at hf
    refine g_iload (i := 8) (by decide +kernel) rfl ?_
    refine g_aload_n (i := 0) (by decide +kernel) rfl ?_
    refine x_getr (hs.k k_136) F_Mod_13 (by decide +kernel) rfl (hs.r r_136_1) ?_
    refine g_bipush (z := 9) (v := 9) (by decide +kernel) rfl ?_
    refine g_iload_n (i := 1) (by decide +kernel) rfl ?_
    refine g_iadd (by decide +kernel) ?_
    refine x_iald hf (hs.k k_137) (by decide +kernel) (fun x10 hf => ?_)
    refine x_icmp_ge (off := 141) (tgt := 237) hf (by decide +kernel) (by decide) (fun c11 hf => ?_) (fun c11 hf => ?_)
    · cases hf
      exact am_G.forget (am_subp [0, 1, 2, 3, 4, 5, 6, 7, 8] rfl) (kont hs)
    · refine g_aload_n (i := 0) (by decide +kernel) rfl ?_
      refine x_getr (hs.k k_136) F_Mod_13 (by decide +kernel) rfl (hs.r r_136_1) ?_
      refine g_sipush (z := 237) (v := 237) (by decide +kernel) rfl ?_
      refine g_aload_n (i := 0) (by decide +kernel) rfl ?_
      refine x_getr (hs.k k_136) F_Mod_13 (by decide +kernel) rfl (hs.r r_136_1) ?_
      refine g_bipush (z := 7) (v := 7) (by decide +kernel) rfl ?_
      refine g_iload_n (i := 1) (by decide +kernel) rfl ?_
      refine g_iadd (by decide +kernel) ?_
      refine x_iald hf (hs.k k_137) (by decide +kernel) (fun x12 hf => ?_)
      refine g_iadd (by decide +kernel) ?_
      refine g_iload (i := 8) (by decide +kernel) rfl ?_
      refine g_iadd (by decide +kernel) ?_
      refine x_iald hf (hs.k k_137) (by decide +kernel) (fun x13 hf => ?_)
      refine g_istore (i := 9) (by decide +kernel) rfl (by decide) (ls1 := [(0, .ref 136), (1, .int p1), (2, .int p2), (3, .int p3), (4, .int p4), (5, .int p5), (6, .int p6), (7, .int v7), (8, .int v8), (9, .int x13)]) rfl ?_
      refine g_iload (i := 9) (by decide +kernel) rfl ?_
      refine g_sipush (z := 3000) (v := 3000) (by decide +kernel) rfl ?_
      refine x_icmp_ge (off := 40) (tgt := 167) hf (by decide +kernel) (by decide) (fun c14 hf => ?_) (fun c14 hf => ?_)
      · refine g_iload (i := 9) (by decide +kernel) rfl ?_
        refine g_sipush (z := 3006) (v := 3006) (by decide +kernel) rfl ?_
        refine x_icmp_ne (off := 26) (tgt := 198) hf (by decide +kernel) (by decide) (fun c15 hf => ?_) (fun c15 hf => ?_)
        · refine g_iinc (i := 7) (z := (-1)) (v := (v7 + (-1 : Int32))) (by decide +kernel) rfl rfl rfl (by decide) (ls1 := [(0, .ref 136), (1, .int p1), (2, .int p2), (3, .int p3), (4, .int p4), (5, .int p5), (6, .int p6), (7, .int (v7 + (-1 : Int32))), (8, .int v8), (9, .int x13)]) rfl ?_
          refine g_aload_n (i := 0) (by decide +kernel) rfl ?_
          refine x_getr (hs.k k_136) F_Mod_30 (by decide +kernel) rfl (hs.r r_136_16) ?_
          refine g_iload (i := 7) (by decide +kernel) rfl ?_
          refine g_iconst (z := 1) (v := 1) (by decide +kernel) rfl ?_
          refine g_isub (by decide +kernel) ?_
          refine g_iload (i := 9) (by decide +kernel) rfl ?_
          refine g_aload_n (i := 0) (by decide +kernel) rfl ?_
          refine x_getr (hs.k k_136) F_Mod_30 (by decide +kernel) rfl (hs.r r_136_16) ?_
          refine g_iload (i := 7) (by decide +kernel) rfl ?_
          refine g_iconst (z := 1) (v := 1) (by decide +kernel) rfl ?_
          refine g_isub (by decide +kernel) ?_
          refine x_iald hf (hs.k k_141) (by decide +kernel) (fun x16 hf => ?_)
          refine g_aload_n (i := 0) (by decide +kernel) rfl ?_
          refine x_getr (hs.k k_136) F_Mod_30 (by decide +kernel) rfl (hs.r r_136_16) ?_
          refine g_iload (i := 7) (by decide +kernel) rfl ?_
          refine x_iald hf (hs.k k_141) (by decide +kernel) (fun x17 hf => ?_)
          refine x_callSIp (as := [.int x13, .int x16, .int x17]) St_Mod_between hf (fun q hq => t_Mod_between hs  hq) Y_Mod_between L_Mod_231 (by decide +kernel) rfl rfl (Nat.le_of_ble_eq_true rfl) (by decide) (fun q18 hf => ?_)
          refine x_iast hf hs (hs.k k_141) (by decide +kernel) (fun h19 hf hs => ?_)
          refine g_iinc (i := 8) (z := 1) (v := (v8 + (1 : Int32))) (by decide +kernel) rfl rfl rfl (by decide) (ls1 := [(0, .ref 136), (1, .int p1), (2, .int p2), (3, .int p3), (4, .int p4), (5, .int p5), (6, .int p6), (7, .int (v7 + (-1 : Int32))), (8, .int (v8 + (1 : Int32))), (9, .int x13)]) rfl ?_
          refine g_goto (off := (-149)) (tgt := 85) (by decide +kernel) (by decide) ?_
          exact am_G.forget (am_subp [0, 1, 2, 3, 4, 5, 6, 7, 8] rfl) (ih _ _ _ _ hs hf kont)
        · refine g_aload_n (i := 0) (by decide +kernel) rfl ?_
          refine x_getr (hs.k k_136) F_Mod_30 (by decide +kernel) rfl (hs.r r_136_16) ?_
          refine g_iload (i := 7) (by decide +kernel) rfl ?_
          refine g_iconst (z := 1) (v := 1) (by decide +kernel) rfl ?_
          refine g_isub (by decide +kernel) ?_
          refine g_iconst (z := 1) (v := 1) (by decide +kernel) rfl ?_
          refine g_aload_n (i := 0) (by decide +kernel) rfl ?_
          refine x_getr (hs.k k_136) F_Mod_30 (by decide +kernel) rfl (hs.r r_136_16) ?_
          refine g_iload (i := 7) (by decide +kernel) rfl ?_
          refine g_iconst (z := 1) (v := 1) (by decide +kernel) rfl ?_
          refine g_isub (by decide +kernel) ?_
          refine x_iald hf (hs.k k_141) (by decide +kernel) (fun x20 hf => ?_)
          refine g_isub (by decide +kernel) ?_
          refine x_iast hf hs (hs.k k_141) (by decide +kernel) (fun h21 hf hs => ?_)
          refine g_goto (off := 36) (tgt := 231) (by decide +kernel) (by decide) ?_
          refine g_iinc (i := 8) (z := 1) (v := (v8 + (1 : Int32))) (by decide +kernel) rfl rfl rfl (by decide) (ls1 := [(0, .ref 136), (1, .int p1), (2, .int p2), (3, .int p3), (4, .int p4), (5, .int p5), (6, .int p6), (7, .int v7), (8, .int (v8 + (1 : Int32))), (9, .int x13)]) rfl ?_
          refine g_goto (off := (-149)) (tgt := 85) (by decide +kernel) (by decide) ?_
          exact am_G.forget (am_subp [0, 1, 2, 3, 4, 5, 6, 7, 8] rfl) (ih _ _ _ _ hs hf kont)
      · refine g_aload_n (i := 0) (by decide +kernel) rfl ?_
        refine x_getr (hs.k k_136) F_Mod_30 (by decide +kernel) rfl (hs.r r_136_16) ?_
        refine g_iload (i := 7) (by decide +kernel) rfl ?_
        refine g_iload (i := 9) (by decide +kernel) rfl ?_
        refine g_sipush (z := 1000) (v := 1000) (by decide +kernel) rfl ?_
        obtain ⟨m24, hm160, hf⟩ := Option.bind_eq_some_iff.mp hf
        refine am_cut (J := 160) (ls' := [(0, .ref 136), (1, .int p1), (2, .int p2), (3, .int p3), (4, .int p4), (5, .int p5), (6, .int p6), (7, .int v7), (8, .int v8), (9, .int x13)]) (st' := [.int m24, .int v7, .ref 141]) ?_ (fun K160 => ?_)
        · refine x_iast hf hs (hs.k k_141) (by decide +kernel) (fun h25 hf hs => ?_)
          refine g_iinc (i := 7) (z := 1) (v := (v7 + (1 : Int32))) (by decide +kernel) rfl rfl rfl (by decide) (ls1 := [(0, .ref 136), (1, .int p1), (2, .int p2), (3, .int p3), (4, .int p4), (5, .int p5), (6, .int p6), (7, .int (v7 + (1 : Int32))), (8, .int v8), (9, .int x13)]) rfl ?_
          refine g_goto (off := 67) (tgt := 231) (by decide +kernel) (by decide) ?_
          refine g_iinc (i := 8) (z := 1) (v := (v8 + (1 : Int32))) (by decide +kernel) rfl rfl rfl (by decide) (ls1 := [(0, .ref 136), (1, .int p1), (2, .int p2), (3, .int p3), (4, .int p4), (5, .int p5), (6, .int p6), (7, .int (v7 + (1 : Int32))), (8, .int (v8 + (1 : Int32))), (9, .int x13)]) rfl ?_
          refine g_goto (off := (-149)) (tgt := 85) (by decide +kernel) (by decide) ?_
          exact am_G.forget (am_subp [0, 1, 2, 3, 4, 5, 6, 7, 8] rfl) (ih _ _ _ _ hs hf kont)
        refine x_icmp_ge (off := 8) (tgt := 149) hm160 (by decide +kernel) (by decide) (fun c22 hm160 => ?_) (fun c22 hm160 => ?_)
        · refine g_aload_n (i := 0) (by decide +kernel) rfl ?_
          refine x_getr (hs.k k_136) F_Mod_33 (by decide +kernel) rfl (hs.r r_136_17) ?_
          refine g_iload (i := 9) (by decide +kernel) rfl ?_
          refine g_sipush (z := 1000) (v := 1000) (by decide +kernel) rfl ?_
          refine g_isub (by decide +kernel) ?_
          refine x_iald hm160 (hs.k k_142) (by decide +kernel) (fun x23 hm160 => ?_)
          cases hm160
          exact am_G.forget (am_subp [0, 1, 2, 3, 4, 5, 6, 7, 8, 9] rfl) K160
        · refine g_iload (i := 9) (by decide +kernel) rfl ?_
          refine g_goto (off := 14) (tgt := 160) (by decide +kernel) (by decide) ?_
          cases hm160
          exact am_G.forget (am_subp [0, 1, 2, 3, 4, 5, 6, 7, 8, 9] rfl) K160
def f_Mod_lets (p1 : Int32) (p2 : Int32) (p3 : Int32) (p4 : Int32) (p5 : Int32) (p6 : Int32) (h : am_H) : Option (Bool × am_H) :=
  (am_rd (h.2.1 137) 3411 ((5 : Int32) + p1)).bind fun x1 =>
  (if x1 = 0 then
    (if p1 = 0 then
      some (true, h)
    else
      (if p5 = 0 then
        some (true, h)
      else
        some (false, h)))
  else
    (am_wr h 142 6 (0 : Int32) p3).bind fun h3 =>
    (am_wr h3 142 6 (1 : Int32) p4).bind fun h4 =>
    (am_wr h4 142 6 (2 : Int32) p2).bind fun h5 =>
    (am_rd (h5.2.1 137) 3411 ((11 : Int32) + p2)).bind fun x6 =>
    (am_wr h5 142 6 (3 : Int32) x6).bind fun h7 =>
    (am_wr h7 142 6 (4 : Int32) p5).bind fun h8 =>
    (am_wr h8 142 6 (5 : Int32) p6).bind fun h9 =>
    (f_Mod_lets_L85 p1 p2 p3 p4 p5 p6 am_fu (0 : Int32) (0 : Int32) h9).bind fun q26 =>
    (am_rd (q26.2.2.2.1 141) 900 (0 : Int32)).bind fun x27 =>
    (if x27 = (1 : Int32) then
      some (true, q26.2.2)
    else
      some (false, q26.2.2)))
set_option maxRecDepth 100000 in
set_option maxHeartbeats 4000000 in
theorem t_Mod_lets {p1 : Int32} {p2 : Int32} {p3 : Int32} {p4 : Int32} {p5 : Int32} {p6 : Int32} {h : am_H} (hs : am_Sh h)  {r : Bool × am_H} (hf : f_Mod_lets p1 p2 p3 p4 p5 p6 h = some r) : am_Ct 1 M_Mod_lets [.ref 136, .int p1, .int p2, .int p3, .int p4, .int p5, .int p6] h 0 0 (am_qB r) := by
  unfold f_Mod_lets at hf
  refine am_Ct.of (by decide) rfl (Nat.le_of_ble_eq_true rfl) (ls := [(0, .ref 136), (1, .int p1), (2, .int p2), (3, .int p3), (4, .int p4), (5, .int p5), (6, .int p6)]) rfl ?_
  refine g_aload_n (i := 0) (by decide +kernel) rfl ?_
  refine x_getr (hs.k k_136) F_Mod_13 (by decide +kernel) rfl (hs.r r_136_1) ?_
  refine g_iconst (z := 5) (v := 5) (by decide +kernel) rfl ?_
  refine g_iload_n (i := 1) (by decide +kernel) rfl ?_
  refine g_iadd (by decide +kernel) ?_
  refine x_iald hf (hs.k k_137) (by decide +kernel) (fun x1 hf => ?_)
  refine x_if_ne (off := 18) (tgt := 26) hf (by decide +kernel) (by decide) (fun c2 hf => ?_) (fun c2 hf => ?_)
  · refine g_aload_n (i := 0) (by decide +kernel) rfl ?_
    refine x_getr (hs.k k_136) F_Mod_33 (by decide +kernel) rfl (hs.r r_136_17) ?_
    refine g_iconst (z := 0) (v := 0) (by decide +kernel) rfl ?_
    refine g_iload_n (i := 3) (by decide +kernel) rfl ?_
    refine x_iast hf hs (hs.k k_142) (by decide +kernel) (fun h3 hf hs => ?_)
    refine g_aload_n (i := 0) (by decide +kernel) rfl ?_
    refine x_getr (hs.k k_136) F_Mod_33 (by decide +kernel) rfl (hs.r r_136_17) ?_
    refine g_iconst (z := 1) (v := 1) (by decide +kernel) rfl ?_
    refine g_iload (i := 4) (by decide +kernel) rfl ?_
    refine x_iast hf hs (hs.k k_142) (by decide +kernel) (fun h4 hf hs => ?_)
    refine g_aload_n (i := 0) (by decide +kernel) rfl ?_
    refine x_getr (hs.k k_136) F_Mod_33 (by decide +kernel) rfl (hs.r r_136_17) ?_
    refine g_iconst (z := 2) (v := 2) (by decide +kernel) rfl ?_
    refine g_iload_n (i := 2) (by decide +kernel) rfl ?_
    refine x_iast hf hs (hs.k k_142) (by decide +kernel) (fun h5 hf hs => ?_)
    refine g_aload_n (i := 0) (by decide +kernel) rfl ?_
    refine x_getr (hs.k k_136) F_Mod_33 (by decide +kernel) rfl (hs.r r_136_17) ?_
    refine g_iconst (z := 3) (v := 3) (by decide +kernel) rfl ?_
    refine g_aload_n (i := 0) (by decide +kernel) rfl ?_
    refine x_getr (hs.k k_136) F_Mod_13 (by decide +kernel) rfl (hs.r r_136_1) ?_
    refine g_bipush (z := 11) (v := 11) (by decide +kernel) rfl ?_
    refine g_iload_n (i := 2) (by decide +kernel) rfl ?_
    refine g_iadd (by decide +kernel) ?_
    refine x_iald hf (hs.k k_137) (by decide +kernel) (fun x6 hf => ?_)
    refine x_iast hf hs (hs.k k_142) (by decide +kernel) (fun h7 hf hs => ?_)
    refine g_aload_n (i := 0) (by decide +kernel) rfl ?_
    refine x_getr (hs.k k_136) F_Mod_33 (by decide +kernel) rfl (hs.r r_136_17) ?_
    refine g_iconst (z := 4) (v := 4) (by decide +kernel) rfl ?_
    refine g_iload (i := 5) (by decide +kernel) rfl ?_
    refine x_iast hf hs (hs.k k_142) (by decide +kernel) (fun h8 hf hs => ?_)
    refine g_aload_n (i := 0) (by decide +kernel) rfl ?_
    refine x_getr (hs.k k_136) F_Mod_33 (by decide +kernel) rfl (hs.r r_136_17) ?_
    refine g_iconst (z := 5) (v := 5) (by decide +kernel) rfl ?_
    refine g_iload (i := 6) (by decide +kernel) rfl ?_
    refine x_iast hf hs (hs.k k_142) (by decide +kernel) (fun h9 hf hs => ?_)
    refine g_iconst (z := 0) (v := 0) (by decide +kernel) rfl ?_
    refine g_istore (i := 7) (by decide +kernel) rfl (by decide) (ls1 := [(0, .ref 136), (1, .int p1), (2, .int p2), (3, .int p3), (4, .int p4), (5, .int p5), (6, .int p6), (7, .int (0 : Int32))]) rfl ?_
    refine g_iconst (z := 0) (v := 0) (by decide +kernel) rfl ?_
    refine g_istore (i := 8) (by decide +kernel) rfl (by decide) (ls1 := [(0, .ref 136), (1, .int p1), (2, .int p2), (3, .int p3), (4, .int p4), (5, .int p5), (6, .int p6), (7, .int (0 : Int32)), (8, .int (0 : Int32))]) rfl ?_
    obtain ⟨q26, hqq26, hf⟩ := Option.bind_eq_some_iff.mp hf
    refine t_Mod_lets_L85  am_fu _ _ _ q26 hs hqq26 (fun hs => ?_)
    refine g_aload_n (i := 0) (by decide +kernel) rfl ?_
    refine x_getr (hs.k k_136) F_Mod_30 (by decide +kernel) rfl (hs.r r_136_16) ?_
    refine g_iconst (z := 0) (v := 0) (by decide +kernel) rfl ?_
    refine x_iald hf (hs.k k_141) (by decide +kernel) (fun x27 hf => ?_)
    refine g_iconst (z := 1) (v := 1) (by decide +kernel) rfl ?_
    refine x_icmp_ne (off := 7) (tgt := 251) hf (by decide +kernel) (by decide) (fun c28 hf => ?_) (fun c28 hf => ?_)
    · refine g_iconst (z := 0) (v := 0) (by decide +kernel) rfl ?_
      exact x_zret rfl hf hs (by decide +kernel) rfl
    · refine g_iconst (z := 1) (v := 1) (by decide +kernel) rfl ?_
      refine g_goto (off := 4) (tgt := 252) (by decide +kernel) (by decide) ?_
      exact x_zret rfl hf hs (by decide +kernel) rfl
  · refine g_iload_n (i := 1) (by decide +kernel) rfl ?_
    refine x_if_eq (off := 8) (tgt := 20) hf (by decide +kernel) (by decide) (fun c29 hf => ?_) (fun c29 hf => ?_)
    · refine g_iconst (z := 1) (v := 1) (by decide +kernel) rfl ?_
      refine g_goto (off := 4) (tgt := 25) (by decide +kernel) (by decide) ?_
      exact x_zret rfl hf hs (by decide +kernel) rfl
    · refine g_iload (i := 5) (by decide +kernel) rfl ?_
      refine x_if_ne (off := 7) (tgt := 24) hf (by decide +kernel) (by decide) (fun c30 hf => ?_) (fun c30 hf => ?_)
      · refine g_iconst (z := 0) (v := 0) (by decide +kernel) rfl ?_
        exact x_zret rfl hf hs (by decide +kernel) rfl
      · refine g_iconst (z := 1) (v := 1) (by decide +kernel) rfl ?_
        refine g_goto (off := 4) (tgt := 25) (by decide +kernel) (by decide) ?_
        exact x_zret rfl hf hs (by decide +kernel) rfl
