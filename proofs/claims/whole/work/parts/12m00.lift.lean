def f_Mod_within (p0 : Int64) (p2 : Int64) (p4 : Int64) (h : am_H) : Option (Bool) :=
  (if (lg_cmp p0 p2) < 0 then
    some false
  else
    (if 0 < (lg_cmp p0 p4) then
      some false
    else
      some true))
set_option maxRecDepth 100000 in
set_option maxHeartbeats 4000000 in
theorem t_Mod_within {p0 : Int64} {p2 : Int64} {p4 : Int64} {h : am_H} (hs : am_Sh h)  {r : Bool} (hf : f_Mod_within p0 p2 p4 h = some r) : am_Ct 0 M_Mod_within [.long p0, .long p2, .long p4] h 0 0 (am_pB h r) := by
  unfold f_Mod_within at hf
  refine am_Ct.of (by decide) rfl (Nat.le_of_ble_eq_true rfl) (ls := [(0, .long p0), (2, .long p2), (4, .long p4)]) rfl ?_
  refine g_lload_n (i := 0) (by decide +kernel) rfl ?_
  refine g_lload_n (i := 2) (by decide +kernel) rfl ?_
  refine g_lcmp (by decide +kernel) ?_
  refine x_if_lt (off := 14) (tgt := 17) hf (by decide +kernel) (by decide) (fun c1 hf => ?_) (fun c1 hf => ?_)
  · refine g_iconst (z := 0) (v := 0) (by decide +kernel) rfl ?_
    exact x_zretp rfl hf (by decide +kernel) rfl (Nat.le_refl _) (Nat.le_refl _)
  · refine g_lload_n (i := 0) (by decide +kernel) rfl ?_
    refine g_lload (i := 4) (by decide +kernel) rfl ?_
    refine g_lcmp (by decide +kernel) ?_
    refine x_if_gt (off := 7) (tgt := 17) hf (by decide +kernel) (by decide) (fun c2 hf => ?_) (fun c2 hf => ?_)
    · refine g_iconst (z := 0) (v := 0) (by decide +kernel) rfl ?_
      exact x_zretp rfl hf (by decide +kernel) rfl (Nat.le_refl _) (Nat.le_refl _)
    · refine g_iconst (z := 1) (v := 1) (by decide +kernel) rfl ?_
      refine g_goto (off := 4) (tgt := 18) (by decide +kernel) (by decide) ?_
      exact x_zretp rfl hf (by decide +kernel) rfl (Nat.le_refl _) (Nat.le_refl _)
def f_Mod_plain_L2 (p0 : Nat) (p0L : Nat) : Nat → Int32 → am_H → Option (Int32 × am_H)
  | 0, _, _ => none
  | n + 1, v1, h =>
    (if (1137 : Int32) ≤ v1 then
      some (v1, h)
    else
      (am_wr h p0 p0L v1 (0 : Int32)).bind fun h2 =>
      f_Mod_plain_L2 p0 p0L n (v1 + (1 : Int32)) h2)
set_option maxRecDepth 100000 in
set_option maxHeartbeats 4000000 in
theorem t_Mod_plain_L2 {p0 : Nat} {p0L : Nat} (hp0 : am_K0[p0]? = some (.inr (.int, p0L))) {Q : Option Value → am_H → Prop} : ∀ (n : Nat) (v1 : Int32) (h : am_H) (q : Int32 × am_H), am_Sh h → f_Mod_plain_L2 p0 p0L n v1 h = some q → (am_Sh q.2 → am_G 0 M_Mod_plain 0 0 Q 19 [(0, .ref p0), (1, .int q.1)] [] q.2 0 0) → am_G 0 M_Mod_plain 0 0 Q 2 [(0, .ref p0), (1, .int v1)] [] h 0 0 := by
  intro n
  induction n with
  | zero =>
    intro v1 h q hs hf kont
    rw [f_Mod_plain_L2] at hf
    cases hf
  | succ n ih =>
    intro v1 h q hs hf kont
    rw [f_Mod_plain_L2] at hf
    refine g_iload_n (i := 1) (by decide +kernel) rfl ?_
    refine g_sipush (z := 1137) (v := 1137) (by decide +kernel) rfl ?_
    refine x_icmp_ge (off := 13) (tgt := 19) hf (by decide +kernel) (by decide) (fun c1 hf => ?_) (fun c1 hf => ?_)
    · cases hf
      exact am_G.forget (am_subp [0, 1] rfl) (kont hs)
    · refine g_aload_n (i := 0) (by decide +kernel) rfl ?_
      refine g_iload_n (i := 1) (by decide +kernel) rfl ?_
      refine g_iconst (z := 0) (v := 0) (by decide +kernel) rfl ?_
      refine x_iast hf hs (hs.k hp0) (by decide +kernel) (fun h2 hf hs => ?_)
      refine g_iinc (i := 1) (z := 1) (v := (v1 + (1 : Int32))) (by decide +kernel) rfl rfl rfl (by decide) (ls1 := [(0, .ref p0), (1, .int (v1 + (1 : Int32)))]) rfl ?_
      refine g_goto (off := (-14)) (tgt := 2) (by decide +kernel) (by decide) ?_
      exact am_G.forget (am_subp [0, 1] rfl) (ih _ _ _ hs hf kont)
def f_Mod_plain_L29 (p0 : Nat) (p0L : Nat) : Nat → Int32 → am_H → Option (Int32 × am_H)
  | 0, _, _ => none
  | n + 1, v1, h =>
    (if (5 : Int32) ≤ v1 then
      some (v1, h)
    else
      (am_wr h p0 p0L ((16 : Int32) + v1) (-1 : Int32)).bind fun h7 =>
      (am_wr h7 p0 p0L ((21 : Int32) + v1) (-1 : Int32)).bind fun h8 =>
      f_Mod_plain_L29 p0 p0L n (v1 + (1 : Int32)) h8)
set_option maxRecDepth 100000 in
set_option maxHeartbeats 4000000 in
theorem t_Mod_plain_L29 {p0 : Nat} {p0L : Nat} (hp0 : am_K0[p0]? = some (.inr (.int, p0L))) {Q : Option Value → am_H → Prop} : ∀ (n : Nat) (v1 : Int32) (h : am_H) (q : Int32 × am_H), am_Sh h → f_Mod_plain_L29 p0 p0L n v1 h = some q → (am_Sh q.2 → am_G 0 M_Mod_plain 0 0 Q 54 [(0, .ref p0), (1, .int q.1)] [] q.2 0 0) → am_G 0 M_Mod_plain 0 0 Q 29 [(0, .ref p0), (1, .int v1)] [] h 0 0 := by
  intro n
  induction n with
  | zero =>
    intro v1 h q hs hf kont
    rw [f_Mod_plain_L29] at hf
    cases hf
  | succ n ih =>
    intro v1 h q hs hf kont
    rw [f_Mod_plain_L29] at hf
    refine g_iload_n (i := 1) (by decide +kernel) rfl ?_
    refine g_iconst (z := 5) (v := 5) (by decide +kernel) rfl ?_
    refine x_icmp_ge (off := 23) (tgt := 54) hf (by decide +kernel) (by decide) (fun c6 hf => ?_) (fun c6 hf => ?_)
    · cases hf
      exact am_G.forget (am_subp [0, 1] rfl) (kont hs)
    · refine g_aload_n (i := 0) (by decide +kernel) rfl ?_
      refine g_bipush (z := 16) (v := 16) (by decide +kernel) rfl ?_
      refine g_iload_n (i := 1) (by decide +kernel) rfl ?_
      refine g_iadd (by decide +kernel) ?_
      refine g_iconst (z := (-1)) (v := (-1)) (by decide +kernel) rfl ?_
      refine x_iast hf hs (hs.k hp0) (by decide +kernel) (fun h7 hf hs => ?_)
      refine g_aload_n (i := 0) (by decide +kernel) rfl ?_
      refine g_bipush (z := 21) (v := 21) (by decide +kernel) rfl ?_
      refine g_iload_n (i := 1) (by decide +kernel) rfl ?_
      refine g_iadd (by decide +kernel) ?_
      refine g_iconst (z := (-1)) (v := (-1)) (by decide +kernel) rfl ?_
      refine x_iast hf hs (hs.k hp0) (by decide +kernel) (fun h8 hf hs => ?_)
      refine g_iinc (i := 1) (z := 1) (v := (v1 + (1 : Int32))) (by decide +kernel) rfl rfl rfl (by decide) (ls1 := [(0, .ref p0), (1, .int (v1 + (1 : Int32)))]) rfl ?_
      refine g_goto (off := (-22)) (tgt := 29) (by decide +kernel) (by decide) ?_
      exact am_G.forget (am_subp [0, 1] rfl) (ih _ _ _ hs hf kont)
def f_Mod_plain (p0 : Nat) (p0L : Nat) (h : am_H) : Option (am_H) :=
  (f_Mod_plain_L2 p0 p0L am_fu (0 : Int32) h).bind fun q3 =>
  (am_wr q3.2 p0 p0L (1 : Int32) (2 : Int32)).bind fun h4 =>
  (am_wr h4 p0 p0L (2 : Int32) (1 : Int32)).bind fun h5 =>
  (f_Mod_plain_L29 p0 p0L am_fu (0 : Int32) h5).bind fun q9 =>
  some q9.2
set_option maxRecDepth 100000 in
set_option maxHeartbeats 4000000 in
theorem t_Mod_plain {p0 : Nat} {p0L : Nat} {h : am_H} (hs : am_Sh h) (hp0 : am_K0[p0]? = some (.inr (.int, p0L))) {r : am_H} (hf : f_Mod_plain p0 p0L h = some r) : am_Ct 0 M_Mod_plain [.ref p0] h 0 0 (am_qV r) := by
  unfold f_Mod_plain at hf
  refine am_Ct.of (by decide) rfl (Nat.le_of_ble_eq_true rfl) (ls := [(0, .ref p0)]) rfl ?_
  refine g_iconst (z := 0) (v := 0) (by decide +kernel) rfl ?_
  refine g_istore_n (i := 1) (by decide +kernel) rfl (by decide) (ls1 := [(0, .ref p0), (1, .int (0 : Int32))]) rfl ?_
  obtain ⟨q3, hqq3, hf⟩ := Option.bind_eq_some_iff.mp hf
  refine am_G.forget (am_subp [0, 1] rfl) (t_Mod_plain_L2 hp0 am_fu _ _ q3 hs hqq3 (fun hs => ?_))
  refine g_aload_n (i := 0) (by decide +kernel) rfl ?_
  refine g_iconst (z := 1) (v := 1) (by decide +kernel) rfl ?_
  refine g_iconst (z := 2) (v := 2) (by decide +kernel) rfl ?_
  refine x_iast hf hs (hs.k hp0) (by decide +kernel) (fun h4 hf hs => ?_)
  refine g_aload_n (i := 0) (by decide +kernel) rfl ?_
  refine g_iconst (z := 2) (v := 2) (by decide +kernel) rfl ?_
  refine g_iconst (z := 1) (v := 1) (by decide +kernel) rfl ?_
  refine x_iast hf hs (hs.k hp0) (by decide +kernel) (fun h5 hf hs => ?_)
  refine g_iconst (z := 0) (v := 0) (by decide +kernel) rfl ?_
  refine g_istore_n (i := 1) (by decide +kernel) rfl (by decide) (ls1 := [(0, .ref p0), (1, .int (0 : Int32))]) rfl ?_
  obtain ⟨q9, hqq9, hf⟩ := Option.bind_eq_some_iff.mp hf
  refine am_G.forget (am_subp [0, 1] rfl) (t_Mod_plain_L29 hp0 am_fu _ _ q9 hs hqq9 (fun hs => ?_))
  exact x_vret hf hs (by decide +kernel) rfl (Nat.le_refl _) (Nat.le_refl _)
def f_Mod_feed_L24 (p1 : Int32) (p2 : Int32) (p3 : Int32) (p4 : Int32) (p5 : Int32) : Nat → Int32 → am_H → Option (Int32 × am_H)
  | 0, _, _ => none
  | n + 1, v6, h =>
    (if (20 : Int32) ≤ v6 then
      some (v6, h)
    else
      am_let (if (4 : Int32) ≤ v6 then (if (8 : Int32) ≤ v6 then (if (12 : Int32) ≤ v6 then (if (16 : Int32) ≤ v6 then p5 else p4) else p3) else p2) else p1) fun y8 =>
      (am_wr h 139 900 (h.2.1 136 5) ((y8 >>> (((24 : Int32) - ((8 : Int32) * (v6 - v6 / (4 : Int32) * (4 : Int32)))) &&& 31)) &&& (255 : Int32))).bind fun h9 =>
      am_let (am_sI h9 136 5 ((h9.2.1 136 5) + (1 : Int32))) fun h10 =>
      f_Mod_feed_L24 p1 p2 p3 p4 p5 n (v6 + (1 : Int32)) h10)
set_option maxRecDepth 100000 in
set_option maxHeartbeats 4000000 in
theorem t_Mod_feed_L24 {p1 : Int32} {p2 : Int32} {p3 : Int32} {p4 : Int32} {p5 : Int32}  {Q : Option Value → am_H → Prop} : ∀ (n : Nat) (v6 : Int32) (h : am_H) (q : Int32 × am_H), am_Sh h → f_Mod_feed_L24 p1 p2 p3 p4 p5 n v6 h = some q → (am_Sh q.2 → am_G 0 M_Mod_feed 0 0 Q 121 [(0, .ref 136), (1, .int p1), (2, .int p2), (3, .int p3), (4, .int p4), (5, .int p5), (6, .int q.1)] [] q.2 0 0) → am_G 0 M_Mod_feed 0 0 Q 24 [(0, .ref 136), (1, .int p1), (2, .int p2), (3, .int p3), (4, .int p4), (5, .int p5), (6, .int v6)] [] h 0 0 := by
  intro n
  induction n with
  | zero =>
    intro v6 h q hs hf kont
    rw [f_Mod_feed_L24] at hf
    cases hf
  | succ n ih =>
    intro v6 h q hs hf kont
    rw [f_Mod_feed_L24] at hf
    refine g_iload (i := 6) (by decide +kernel) rfl ?_
    refine g_bipush (z := 20) (v := 20) (by decide +kernel) rfl ?_
    refine x_icmp_ge (off := 93) (tgt := 121) hf (by decide +kernel) (by decide) (fun c3 hf => ?_) (fun c3 hf => ?_)
    · cases hf
      exact am_G.forget (am_subp [0, 1, 2, 3, 4, 5, 6] rfl) (kont hs)
    · refine g_iload (i := 6) (by decide +kernel) rfl ?_
      refine g_iconst (z := 4) (v := 4) (by decide +kernel) rfl ?_
      refine am_cut (J := 77) (ls' := [(0, .ref 136), (1, .int p1), (2, .int p2), (3, .int p3), (4, .int p4), (5, .int p5), (6, .int v6)]) (st' := [.int (if (4 : Int32) ≤ v6 then (if (8 : Int32) ≤ v6 then (if (12 : Int32) ≤ v6 then (if (16 : Int32) ≤ v6 then p5 else p4) else p3) else p2) else p1)]) ?_ (fun K77 => ?_)
      · refine x_nmI hf (fun y8 hf => ?_)
        refine g_istore (i := 7) (by decide +kernel) rfl (by decide) (ls1 := [(0, .ref 136), (1, .int p1), (2, .int p2), (3, .int p3), (4, .int p4), (5, .int p5), (6, .int v6), (7, .int y8)]) rfl ?_
        refine g_aload_n (i := 0) (by decide +kernel) rfl ?_
        refine x_getr (hs.k k_136) F_Mod_21 (by decide +kernel) rfl (hs.r r_136_3) ?_
        refine g_aload_n (i := 0) (by decide +kernel) rfl ?_
        refine x_geti (hs.k k_136) F_Mod_95 (by decide +kernel) rfl ?_
        refine g_iload (i := 7) (by decide +kernel) rfl ?_
        refine g_bipush (z := 24) (v := 24) (by decide +kernel) rfl ?_
        refine g_bipush (z := 8) (v := 8) (by decide +kernel) rfl ?_
        refine g_iload (i := 6) (by decide +kernel) rfl ?_
        refine g_iconst (z := 4) (v := 4) (by decide +kernel) rfl ?_
        refine g_irem (by decide +kernel) (by decide) ?_
        refine g_imul (by decide +kernel) ?_
        refine g_isub (by decide +kernel) ?_
        refine g_ishr (by decide +kernel) ?_
        refine g_sipush (z := 255) (v := 255) (by decide +kernel) rfl ?_
        refine g_iand (by decide +kernel) ?_
        refine x_iast hf hs (hs.k k_139) (by decide +kernel) (fun h9 hf hs => ?_)
        refine g_aload_n (i := 0) (by decide +kernel) rfl ?_
        refine g_dup (by decide +kernel) rfl ?_
        refine x_geti (hs.k k_136) F_Mod_95 (by decide +kernel) rfl ?_
        refine g_iconst (z := 1) (v := 1) (by decide +kernel) rfl ?_
        refine g_iadd (by decide +kernel) ?_
        refine x_puti hf hs (hs.k k_136) F_Mod_95 (by decide +kernel) rfl rfl rfl rfl (fun h10 hf hs => ?_)
        refine g_iinc (i := 6) (z := 1) (v := (v6 + (1 : Int32))) (by decide +kernel) rfl rfl rfl (by decide) (ls1 := [(0, .ref 136), (1, .int p1), (2, .int p2), (3, .int p3), (4, .int p4), (5, .int p5), (6, .int (v6 + (1 : Int32))), (7, .int y8)]) rfl ?_
        refine g_goto (off := (-94)) (tgt := 24) (by decide +kernel) (by decide) ?_
        exact am_G.forget (am_subp [0, 1, 2, 3, 4, 5, 6] rfl) (ih _ _ _ hs hf kont)
      refine p_icmp_ge (off := 7) (tgt := 41) (by decide +kernel) (by decide) (fun c4 => ?_) (fun c4 => ?_)
      · refine g_iload (i := 6) (by decide +kernel) rfl ?_
        refine g_bipush (z := 8) (v := 8) (by decide +kernel) rfl ?_
        refine p_icmp_ge (off := 7) (tgt := 52) (by decide +kernel) (by decide) (fun c5 => ?_) (fun c5 => ?_)
        · refine g_iload (i := 6) (by decide +kernel) rfl ?_
          refine g_bipush (z := 12) (v := 12) (by decide +kernel) rfl ?_
          refine p_icmp_ge (off := 7) (tgt := 63) (by decide +kernel) (by decide) (fun c6 => ?_) (fun c6 => ?_)
          · refine g_iload (i := 6) (by decide +kernel) rfl ?_
            refine g_bipush (z := 16) (v := 16) (by decide +kernel) rfl ?_
            refine p_icmp_ge (off := 8) (tgt := 75) (by decide +kernel) (by decide) (fun c7 => ?_) (fun c7 => ?_)
            · refine g_iload (i := 5) (by decide +kernel) rfl ?_
              have K1 := K77
              simp only [if_pos c4, if_pos c5, if_pos c6, if_pos c7] at K1
              exact am_G.forget (am_subp [0, 1, 2, 3, 4, 5, 6] rfl) K1
            · refine g_iload (i := 4) (by decide +kernel) rfl ?_
              refine g_goto (off := 5) (tgt := 77) (by decide +kernel) (by decide) ?_
              have K1 := K77
              simp only [if_pos c4, if_pos c5, if_pos c6, if_neg c7] at K1
              exact am_G.forget (am_subp [0, 1, 2, 3, 4, 5, 6] rfl) K1
          · refine g_iload_n (i := 3) (by decide +kernel) rfl ?_
            refine g_goto (off := 17) (tgt := 77) (by decide +kernel) (by decide) ?_
            have K1 := K77
            simp only [if_pos c4, if_pos c5, if_neg c6] at K1
            exact am_G.forget (am_subp [0, 1, 2, 3, 4, 5, 6] rfl) K1
        · refine g_iload_n (i := 2) (by decide +kernel) rfl ?_
          refine g_goto (off := 28) (tgt := 77) (by decide +kernel) (by decide) ?_
          have K1 := K77
          simp only [if_pos c4, if_neg c5] at K1
          exact am_G.forget (am_subp [0, 1, 2, 3, 4, 5, 6] rfl) K1
      · refine g_iload_n (i := 1) (by decide +kernel) rfl ?_
        refine g_goto (off := 39) (tgt := 77) (by decide +kernel) (by decide) ?_
        have K1 := K77
        simp only [if_neg c4] at K1
        exact am_G.forget (am_subp [0, 1, 2, 3, 4, 5, 6] rfl) K1
def f_Mod_feed (p1 : Int32) (p2 : Int32) (p3 : Int32) (p4 : Int32) (p5 : Int32) (h : am_H) : Option (Int32 × am_H) :=
  am_let (am_sI h 136 0 (0 : Int32)) fun h1 =>
  (if ((h1.2.1 136 5) + (20 : Int32)) ≤ (900 : Int32) then
    (f_Mod_feed_L24 p1 p2 p3 p4 p5 am_fu (0 : Int32) h1).bind fun q11 =>
    some ((q11.2.2.1 136 5), q11.2)
  else
    some ((-5 : Int32), h1))
set_option maxRecDepth 100000 in
set_option maxHeartbeats 4000000 in
theorem t_Mod_feed {p1 : Int32} {p2 : Int32} {p3 : Int32} {p4 : Int32} {p5 : Int32} {h : am_H} (hs : am_Sh h)  {r : Int32 × am_H} (hf : f_Mod_feed p1 p2 p3 p4 p5 h = some r) : am_Ct 0 M_Mod_feed [.ref 136, .int p1, .int p2, .int p3, .int p4, .int p5] h 0 0 (am_qI r) := by
  unfold f_Mod_feed at hf
  refine am_Ct.of (by decide) rfl (Nat.le_of_ble_eq_true rfl) (ls := [(0, .ref 136), (1, .int p1), (2, .int p2), (3, .int p3), (4, .int p4), (5, .int p5)]) rfl ?_
  refine g_aload_n (i := 0) (by decide +kernel) rfl ?_
  refine g_iconst (z := 0) (v := 0) (by decide +kernel) rfl ?_
  refine x_puti hf hs (hs.k k_136) F_Mod_1 (by decide +kernel) rfl rfl rfl rfl (fun h1 hf hs => ?_)
  refine g_aload_n (i := 0) (by decide +kernel) rfl ?_
  refine x_geti (hs.k k_136) F_Mod_95 (by decide +kernel) rfl ?_
  refine g_bipush (z := 20) (v := 20) (by decide +kernel) rfl ?_
  refine g_iadd (by decide +kernel) ?_
  refine g_sipush (z := 900) (v := 900) (by decide +kernel) rfl ?_
  refine x_icmp_le (off := 6) (tgt := 21) hf (by decide +kernel) (by decide) (fun c2 hf => ?_) (fun c2 hf => ?_)
  · refine g_iconst (z := 0) (v := 0) (by decide +kernel) rfl ?_
    refine g_istore (i := 6) (by decide +kernel) rfl (by decide) (ls1 := [(0, .ref 136), (1, .int p1), (2, .int p2), (3, .int p3), (4, .int p4), (5, .int p5), (6, .int (0 : Int32))]) rfl ?_
    obtain ⟨q11, hqq11, hf⟩ := Option.bind_eq_some_iff.mp hf
    refine am_G.forget (am_subp [0, 1, 2, 3, 4, 5, 6] rfl) (t_Mod_feed_L24  am_fu _ _ q11 hs hqq11 (fun hs => ?_))
    refine g_aload_n (i := 0) (by decide +kernel) rfl ?_
    refine x_geti (hs.k k_136) F_Mod_95 (by decide +kernel) rfl ?_
    exact x_iret hf hs (by decide +kernel) rfl (Nat.le_refl _) (Nat.le_refl _)
  · refine g_bipush (z := (-5)) (v := (-5)) (by decide +kernel) rfl ?_
    exact x_iret hf hs (by decide +kernel) rfl (Nat.le_refl _) (Nat.le_refl _)
def f_Mod_see (p1 : Int32) (h : am_H) : Option (Int32) :=
  (if (h.2.1 136 8) ≤ p1 then
    some (-1 : Int32)
  else
    (am_rd (h.2.1 139) 900 p1).bind fun x2 =>
    some x2)
set_option maxRecDepth 100000 in
set_option maxHeartbeats 4000000 in
theorem t_Mod_see {p1 : Int32} {h : am_H} (hs : am_Sh h)  {r : Int32} (hf : f_Mod_see p1 h = some r) : am_Ct 0 M_Mod_see [.ref 136, .int p1] h 0 0 (am_pI h r) := by
  unfold f_Mod_see at hf
  refine am_Ct.of (by decide) rfl (Nat.le_of_ble_eq_true rfl) (ls := [(0, .ref 136), (1, .int p1)]) rfl ?_
  refine g_iload_n (i := 1) (by decide +kernel) rfl ?_
  refine g_aload_n (i := 0) (by decide +kernel) rfl ?_
  refine x_geti (hs.k k_136) F_Mod_98 (by decide +kernel) rfl ?_
  refine x_icmp_ge (off := 12) (tgt := 17) hf (by decide +kernel) (by decide) (fun c1 hf => ?_) (fun c1 hf => ?_)
  · refine g_iconst (z := (-1)) (v := (-1)) (by decide +kernel) rfl ?_
    exact x_iretp hf (by decide +kernel) rfl (Nat.le_refl _) (Nat.le_refl _)
  · refine g_aload_n (i := 0) (by decide +kernel) rfl ?_
    refine x_getr (hs.k k_136) F_Mod_21 (by decide +kernel) rfl (hs.r r_136_3) ?_
    refine g_iload_n (i := 1) (by decide +kernel) rfl ?_
    refine x_iald hf (hs.k k_139) (by decide +kernel) (fun x2 hf => ?_)
    refine g_goto (off := 4) (tgt := 18) (by decide +kernel) (by decide) ?_
    exact x_iretp hf (by decide +kernel) rfl (Nat.le_refl _) (Nat.le_refl _)
def f_Mod_isSmall (p0 : Int32) (h : am_H) : Option (Bool) :=
  (if p0 < (97 : Int32) then
    some false
  else
    (if (122 : Int32) < p0 then
      some false
    else
      some true))
set_option maxRecDepth 100000 in
set_option maxHeartbeats 4000000 in
theorem t_Mod_isSmall {p0 : Int32} {h : am_H} (hs : am_Sh h)  {r : Bool} (hf : f_Mod_isSmall p0 h = some r) : am_Ct 0 M_Mod_isSmall [.int p0] h 0 0 (am_pB h r) := by
  unfold f_Mod_isSmall at hf
  refine am_Ct.of (by decide) rfl (Nat.le_of_ble_eq_true rfl) (ls := [(0, .int p0)]) rfl ?_
  refine g_iload_n (i := 0) (by decide +kernel) rfl ?_
  refine g_bipush (z := 97) (v := 97) (by decide +kernel) rfl ?_
  refine x_icmp_lt (off := 13) (tgt := 16) hf (by decide +kernel) (by decide) (fun c1 hf => ?_) (fun c1 hf => ?_)
  · refine g_iconst (z := 0) (v := 0) (by decide +kernel) rfl ?_
    exact x_zretp rfl hf (by decide +kernel) rfl (Nat.le_refl _) (Nat.le_refl _)
  · refine g_iload_n (i := 0) (by decide +kernel) rfl ?_
    refine g_bipush (z := 122) (v := 122) (by decide +kernel) rfl ?_
    refine x_icmp_gt (off := 7) (tgt := 16) hf (by decide +kernel) (by decide) (fun c2 hf => ?_) (fun c2 hf => ?_)
    · refine g_iconst (z := 0) (v := 0) (by decide +kernel) rfl ?_
      exact x_zretp rfl hf (by decide +kernel) rfl (Nat.le_refl _) (Nat.le_refl _)
    · refine g_iconst (z := 1) (v := 1) (by decide +kernel) rfl ?_
      refine g_goto (off := 4) (tgt := 17) (by decide +kernel) (by decide) ?_
      exact x_zretp rfl hf (by decide +kernel) rfl (Nat.le_refl _) (Nat.le_refl _)
def f_Mod_isDigit (p0 : Int32) (h : am_H) : Option (Bool) :=
  (if p0 < (48 : Int32) then
    some false
  else
    (if (57 : Int32) < p0 then
      some false
    else
      some true))
set_option maxRecDepth 100000 in
set_option maxHeartbeats 4000000 in
theorem t_Mod_isDigit {p0 : Int32} {h : am_H} (hs : am_Sh h)  {r : Bool} (hf : f_Mod_isDigit p0 h = some r) : am_Ct 0 M_Mod_isDigit [.int p0] h 0 0 (am_pB h r) := by
  unfold f_Mod_isDigit at hf
  refine am_Ct.of (by decide) rfl (Nat.le_of_ble_eq_true rfl) (ls := [(0, .int p0)]) rfl ?_
  refine g_iload_n (i := 0) (by decide +kernel) rfl ?_
  refine g_bipush (z := 48) (v := 48) (by decide +kernel) rfl ?_
  refine x_icmp_lt (off := 13) (tgt := 16) hf (by decide +kernel) (by decide) (fun c1 hf => ?_) (fun c1 hf => ?_)
  · refine g_iconst (z := 0) (v := 0) (by decide +kernel) rfl ?_
    exact x_zretp rfl hf (by decide +kernel) rfl (Nat.le_refl _) (Nat.le_refl _)
  · refine g_iload_n (i := 0) (by decide +kernel) rfl ?_
    refine g_bipush (z := 57) (v := 57) (by decide +kernel) rfl ?_
    refine x_icmp_gt (off := 7) (tgt := 16) hf (by decide +kernel) (by decide) (fun c2 hf => ?_) (fun c2 hf => ?_)
    · refine g_iconst (z := 0) (v := 0) (by decide +kernel) rfl ?_
      exact x_zretp rfl hf (by decide +kernel) rfl (Nat.le_refl _) (Nat.le_refl _)
    · refine g_iconst (z := 1) (v := 1) (by decide +kernel) rfl ?_
      refine g_goto (off := 4) (tgt := 17) (by decide +kernel) (by decide) ?_
      exact x_zretp rfl hf (by decide +kernel) rfl (Nat.le_refl _) (Nat.le_refl _)
def f_Mod_keyAt_L15  : Nat → Int32 → Int32 → Int32 → am_H → Option (Int32)
  | 0, _, _, _, _ => none
  | n + 1, v1, v2, v3, h =>
    (f_String_charAt 2 (v2 + v3) h).bind fun q3 =>
    (if q3 = (32 : Int32) then
      some v3
    else
      (if (h.2.1 136 7) ≤ ((h.2.1 136 6) + v3) then
        some v3
      else
        (am_rd (h.2.1 139) 900 ((h.2.1 136 6) + v3)).bind fun x6 =>
        (f_String_charAt 2 (v2 + v3) h).bind fun q7 =>
        (if x6 = q7 then
          f_Mod_keyAt_L15  n v1 v2 (v3 + (1 : Int32)) h
        else
          some v3)))
set_option maxRecDepth 100000 in
set_option maxHeartbeats 4000000 in
theorem t_Mod_keyAt_L15   {Q : Option Value → am_H → Prop} : ∀ (n : Nat) (v1 : Int32) (v2 : Int32) (v3 : Int32) (h : am_H) (q : Int32), am_Sh h → f_Mod_keyAt_L15  n v1 v2 v3 h = some q → (am_G 4 M_Mod_keyAt 0 0 Q 69 [(0, .ref 136), (1, .int v1), (2, .int v2), (3, .int q)] [] h 0 0) → am_G 4 M_Mod_keyAt 0 0 Q 15 [(0, .ref 136), (1, .int v1), (2, .int v2), (3, .int v3)] [] h 0 0 := by
  intro n
  induction n with
  | zero =>
    intro v1 v2 v3 h q hs hf kont
    rw [f_Mod_keyAt_L15] at hf
    cases hf
  | succ n ih =>
    intro v1 v2 v3 h q hs hf kont
    rw [f_Mod_keyAt_L15] at hf
    refine g_ldcS sS_2 (by decide +kernel) ?_
    refine g_iload_n (i := 2) (by decide +kernel) rfl ?_
    refine g_iload_n (i := 3) (by decide +kernel) rfl ?_
    refine g_iadd (by decide +kernel) ?_
    refine x_callVsIp (as := [.int (v2 + v3)]) Vi_String_charAt Vs_String_charAt (by decide) rfl hf (fun q hq => t_String_charAt hs (by decide) hq) Y_String_charAt L_Mod_109 (by decide +kernel) rfl rfl (Nat.le_of_ble_eq_true rfl) (by decide) (Nat.le_refl _) (Nat.le_refl _) (fun q3 hf => ?_)
    refine g_bipush (z := 32) (v := 32) (by decide +kernel) rfl ?_
    refine x_icmp_eq (off := 44) (tgt := 69) hf (by decide +kernel) (by decide) (fun c4 hf => ?_) (fun c4 hf => ?_)
    · cases hf
      exact am_G.forget (am_subp [0, 1, 2, 3] rfl) kont
    · refine g_aload_n (i := 0) (by decide +kernel) rfl ?_
      refine x_geti (hs.k k_136) F_Mod_113 (by decide +kernel) rfl ?_
      refine g_iload_n (i := 3) (by decide +kernel) rfl ?_
      refine g_iadd (by decide +kernel) ?_
      refine g_aload_n (i := 0) (by decide +kernel) rfl ?_
      refine x_geti (hs.k k_136) F_Mod_116 (by decide +kernel) rfl ?_
      refine x_icmp_ge (off := 31) (tgt := 69) hf (by decide +kernel) (by decide) (fun c5 hf => ?_) (fun c5 hf => ?_)
      · cases hf
        exact am_G.forget (am_subp [0, 1, 2, 3] rfl) kont
      · refine g_aload_n (i := 0) (by decide +kernel) rfl ?_
        refine x_getr (hs.k k_136) F_Mod_21 (by decide +kernel) rfl (hs.r r_136_3) ?_
        refine g_aload_n (i := 0) (by decide +kernel) rfl ?_
        refine x_geti (hs.k k_136) F_Mod_113 (by decide +kernel) rfl ?_
        refine g_iload_n (i := 3) (by decide +kernel) rfl ?_
        refine g_iadd (by decide +kernel) ?_
        refine x_iald hf (hs.k k_139) (by decide +kernel) (fun x6 hf => ?_)
        refine g_ldcS sS_2 (by decide +kernel) ?_
        refine g_iload_n (i := 2) (by decide +kernel) rfl ?_
        refine g_iload_n (i := 3) (by decide +kernel) rfl ?_
        refine g_iadd (by decide +kernel) ?_
        refine x_callVsIp (as := [.int (v2 + v3)]) Vi_String_charAt Vs_String_charAt (by decide) rfl hf (fun q hq => t_String_charAt hs (by decide) hq) Y_String_charAt L_Mod_109 (by decide +kernel) rfl rfl (Nat.le_of_ble_eq_true rfl) (by decide) (Nat.le_refl _) (Nat.le_refl _) (fun q7 hf => ?_)
        refine x_icmp_ne (off := 9) (tgt := 69) hf (by decide +kernel) (by decide) (fun c8 hf => ?_) (fun c8 hf => ?_)
        · cases hf
          exact am_G.forget (am_subp [0, 1, 2, 3] rfl) kont
        · refine g_iinc (i := 3) (z := 1) (v := (v3 + (1 : Int32))) (by decide +kernel) rfl rfl rfl (by decide) (ls1 := [(0, .ref 136), (1, .int v1), (2, .int v2), (3, .int (v3 + (1 : Int32)))]) rfl ?_
          refine g_goto (off := (-51)) (tgt := 15) (by decide +kernel) (by decide) ?_
          exact am_G.forget (am_subp [0, 1, 2, 3] rfl) (ih _ _ _ _ _ hs hf kont)
def f_Mod_keyAt_L97  : Nat → Int32 → Int32 → Int32 → am_H → Option (Int32)
  | 0, _, _, _, _ => none
  | n + 1, v1, v2, v3, h =>
    (f_String_charAt 2 v2 h).bind fun q12 =>
    (if q12 = (32 : Int32) then
      some v2
    else
      f_Mod_keyAt_L97  n v1 (v2 + (1 : Int32)) v3 h)
set_option maxRecDepth 100000 in
set_option maxHeartbeats 4000000 in
theorem t_Mod_keyAt_L97   {Q : Option Value → am_H → Prop} : ∀ (n : Nat) (v1 : Int32) (v2 : Int32) (v3 : Int32) (h : am_H) (q : Int32), am_Sh h → f_Mod_keyAt_L97  n v1 v2 v3 h = some q → (am_G 4 M_Mod_keyAt 0 0 Q 114 [(0, .ref 136), (1, .int v1), (2, .int q), (3, .int v3)] [] h 0 0) → am_G 4 M_Mod_keyAt 0 0 Q 97 [(0, .ref 136), (1, .int v1), (2, .int v2), (3, .int v3)] [] h 0 0 := by
  intro n
  induction n with
  | zero =>
    intro v1 v2 v3 h q hs hf kont
    rw [f_Mod_keyAt_L97] at hf
    cases hf
  | succ n ih =>
    intro v1 v2 v3 h q hs hf kont
    rw [f_Mod_keyAt_L97] at hf
    refine g_ldcS sS_2 (by decide +kernel) ?_
    refine g_iload_n (i := 2) (by decide +kernel) rfl ?_
    refine x_callVsIp (as := [.int v2]) Vi_String_charAt Vs_String_charAt (by decide) rfl hf (fun q hq => t_String_charAt hs (by decide) hq) Y_String_charAt L_Mod_109 (by decide +kernel) rfl rfl (Nat.le_of_ble_eq_true rfl) (by decide) (Nat.le_refl _) (Nat.le_refl _) (fun q12 hf => ?_)
    refine g_bipush (z := 32) (v := 32) (by decide +kernel) rfl ?_
    refine x_icmp_eq (off := 9) (tgt := 114) hf (by decide +kernel) (by decide) (fun c13 hf => ?_) (fun c13 hf => ?_)
    · cases hf
      exact am_G.forget (am_subp [0, 1, 2, 3] rfl) kont
    · refine g_iinc (i := 2) (z := 1) (v := (v2 + (1 : Int32))) (by decide +kernel) rfl rfl rfl (by decide) (ls1 := [(0, .ref 136), (1, .int v1), (2, .int (v2 + (1 : Int32))), (3, .int v3)]) rfl ?_
      refine g_goto (off := (-14)) (tgt := 97) (by decide +kernel) (by decide) ?_
      exact am_G.forget (am_subp [0, 1, 2, 3] rfl) (ih _ _ _ _ _ hs hf kont)
def f_Mod_keyAt_L4  : Nat → Int32 → Int32 → am_H → Option (Int32)
  | 0, _, _, _ => none
  | n + 1, v1, v2, h =>
    (f_String_length 2 h).bind fun q1 =>
    (if q1 ≤ v2 then
      some (22 : Int32)
    else
      (f_Mod_keyAt_L15  am_fu v1 v2 (0 : Int32) h).bind fun q9 =>
      (f_String_charAt 2 (v2 + q9) h).bind fun q10 =>
      (if q10 = (32 : Int32) then
        (if ((h.2.1 136 6) + q9) = (h.2.1 136 7) then
          some v1
        else
          (f_Mod_keyAt_L97  am_fu v1 v2 q9 h).bind fun q16 =>
          f_Mod_keyAt_L4  n (v1 + (1 : Int32)) (q16 + (1 : Int32)) h)
      else
        (f_Mod_keyAt_L97  am_fu v1 v2 q9 h).bind fun q14 =>
        f_Mod_keyAt_L4  n (v1 + (1 : Int32)) (q14 + (1 : Int32)) h))
set_option maxRecDepth 100000 in
set_option maxHeartbeats 4000000 in
theorem t_Mod_keyAt_L4   : ∀ (n : Nat) (v1 : Int32) (v2 : Int32) (h : am_H) (r : Int32), am_Sh h → f_Mod_keyAt_L4  n v1 v2 h = some r → am_G 4 M_Mod_keyAt 0 0 (am_pI h r) 4 [(0, .ref 136), (1, .int v1), (2, .int v2)] [] h 0 0 := by
  intro n
  induction n with
  | zero =>
    intro v1 v2 h r hs hf
    rw [f_Mod_keyAt_L4] at hf
    cases hf
  | succ n ih =>
    intro v1 v2 h r hs hf
    rw [f_Mod_keyAt_L4] at hf
    refine g_iload_n (i := 2) (by decide +kernel) rfl ?_
    refine g_ldcS sS_2 (by decide +kernel) ?_
    refine x_callVsIp (as := []) Vi_String_length Vs_String_length (by decide) rfl hf (fun q hq => t_String_length hs (by decide) hq) Y_String_length L_Mod_103 (by decide +kernel) rfl rfl (Nat.le_of_ble_eq_true rfl) (by decide) (Nat.le_refl _) (Nat.le_refl _) (fun q1 hf => ?_)
    refine x_icmp_ge (off := 113) (tgt := 123) hf (by decide +kernel) (by decide) (fun c2 hf => ?_) (fun c2 hf => ?_)
    · refine g_bipush (z := 22) (v := 22) (by decide +kernel) rfl ?_
      exact x_iretp hf (by decide +kernel) rfl (Nat.le_refl _) (Nat.le_refl _)
    · refine g_iconst (z := 0) (v := 0) (by decide +kernel) rfl ?_
      refine g_istore_n (i := 3) (by decide +kernel) rfl (by decide) (ls1 := [(0, .ref 136), (1, .int v1), (2, .int v2), (3, .int (0 : Int32))]) rfl ?_
      obtain ⟨q9, hqq9, hf⟩ := Option.bind_eq_some_iff.mp hf
      refine am_G.forget (am_subp [0, 1, 2, 3] rfl) (t_Mod_keyAt_L15  am_fu _ _ _ _ q9 hs hqq9 ?_)
      refine g_ldcS sS_2 (by decide +kernel) ?_
      refine g_iload_n (i := 2) (by decide +kernel) rfl ?_
      refine g_iload_n (i := 3) (by decide +kernel) rfl ?_
      refine g_iadd (by decide +kernel) ?_
      refine x_callVsIp (as := [.int (v2 + q9)]) Vi_String_charAt Vs_String_charAt (by decide) rfl hf (fun q hq => t_String_charAt hs (by decide) hq) Y_String_charAt L_Mod_109 (by decide +kernel) rfl rfl (Nat.le_of_ble_eq_true rfl) (by decide) (Nat.le_refl _) (Nat.le_refl _) (fun q10 hf => ?_)
      refine g_bipush (z := 32) (v := 32) (by decide +kernel) rfl ?_
      refine x_icmp_ne (off := 18) (tgt := 97) hf (by decide +kernel) (by decide) (fun c11 hf => ?_) (fun c11 hf => ?_)
      · obtain ⟨q14, hqq14, hf⟩ := Option.bind_eq_some_iff.mp hf
        refine am_G.forget (am_subp [0, 1, 2, 3] rfl) (t_Mod_keyAt_L97  am_fu _ _ _ _ q14 hs hqq14 ?_)
        refine g_iinc (i := 2) (z := 1) (v := (q14 + (1 : Int32))) (by decide +kernel) rfl rfl rfl (by decide) (ls1 := [(0, .ref 136), (1, .int v1), (2, .int (q14 + (1 : Int32))), (3, .int q9)]) rfl ?_
        refine g_iinc (i := 1) (z := 1) (v := (v1 + (1 : Int32))) (by decide +kernel) rfl rfl rfl (by decide) (ls1 := [(0, .ref 136), (1, .int (v1 + (1 : Int32))), (2, .int (q14 + (1 : Int32))), (3, .int q9)]) rfl ?_
        refine g_goto (off := (-116)) (tgt := 4) (by decide +kernel) (by decide) ?_
        exact am_G.forget (am_subp [0, 1, 2] rfl) (ih _ _ _ _ hs hf)
      · refine g_aload_n (i := 0) (by decide +kernel) rfl ?_
        refine x_geti (hs.k k_136) F_Mod_113 (by decide +kernel) rfl ?_
        refine g_iload_n (i := 3) (by decide +kernel) rfl ?_
        refine g_iadd (by decide +kernel) ?_
        refine g_aload_n (i := 0) (by decide +kernel) rfl ?_
        refine x_geti (hs.k k_136) F_Mod_116 (by decide +kernel) rfl ?_
        refine x_icmp_ne (off := 5) (tgt := 97) hf (by decide +kernel) (by decide) (fun c15 hf => ?_) (fun c15 hf => ?_)
        · obtain ⟨q16, hqq16, hf⟩ := Option.bind_eq_some_iff.mp hf
          refine am_G.forget (am_subp [0, 1, 2, 3] rfl) (t_Mod_keyAt_L97  am_fu _ _ _ _ q16 hs hqq16 ?_)
          refine g_iinc (i := 2) (z := 1) (v := (q16 + (1 : Int32))) (by decide +kernel) rfl rfl rfl (by decide) (ls1 := [(0, .ref 136), (1, .int v1), (2, .int (q16 + (1 : Int32))), (3, .int q9)]) rfl ?_
          refine g_iinc (i := 1) (z := 1) (v := (v1 + (1 : Int32))) (by decide +kernel) rfl rfl rfl (by decide) (ls1 := [(0, .ref 136), (1, .int (v1 + (1 : Int32))), (2, .int (q16 + (1 : Int32))), (3, .int q9)]) rfl ?_
          refine g_goto (off := (-116)) (tgt := 4) (by decide +kernel) (by decide) ?_
          exact am_G.forget (am_subp [0, 1, 2] rfl) (ih _ _ _ _ hs hf)
        · refine g_iload_n (i := 1) (by decide +kernel) rfl ?_
          exact x_iretp hf (by decide +kernel) rfl (Nat.le_refl _) (Nat.le_refl _)
def f_Mod_keyAt  (h : am_H) : Option (Int32) :=
  f_Mod_keyAt_L4  am_fu (0 : Int32) (1 : Int32) h
set_option maxRecDepth 100000 in
set_option maxHeartbeats 4000000 in
theorem t_Mod_keyAt  {h : am_H} (hs : am_Sh h)  {r : Int32} (hf : f_Mod_keyAt  h = some r) : am_Ct 4 M_Mod_keyAt [.ref 136] h 0 0 (am_pI h r) := by
  unfold f_Mod_keyAt at hf
  refine am_Ct.of (by decide) rfl (Nat.le_of_ble_eq_true rfl) (ls := [(0, .ref 136)]) rfl ?_
  refine g_iconst (z := 0) (v := 0) (by decide +kernel) rfl ?_
  refine g_istore_n (i := 1) (by decide +kernel) rfl (by decide) (ls1 := [(0, .ref 136), (1, .int (0 : Int32))]) rfl ?_
  refine g_iconst (z := 1) (v := 1) (by decide +kernel) rfl ?_
  refine g_istore_n (i := 2) (by decide +kernel) rfl (by decide) (ls1 := [(0, .ref 136), (1, .int (0 : Int32)), (2, .int (1 : Int32))]) rfl ?_
  exact am_G.forget (am_subp [0, 1, 2] rfl) (t_Mod_keyAt_L4  am_fu _ _ _ _ hs hf)
def f_Mod_next_L8  : Nat → am_H → Option (am_H)
  | 0, _ => none
  | n + 1, h =>
    (f_Mod_see (h.2.1 136 6) h).bind fun q2 =>
    (if q2 = (10 : Int32) then
      am_let (am_sI h 136 6 ((h.2.1 136 6) + (1 : Int32))) fun h5 =>
      f_Mod_next_L8  n  h5
    else
      (f_Mod_see (h.2.1 136 6) h).bind fun q6 =>
      (if q6 = (32 : Int32) then
        am_let (am_sI h 136 6 ((h.2.1 136 6) + (1 : Int32))) fun h8 =>
        f_Mod_next_L8  n  h8
      else
        some h))
set_option maxRecDepth 100000 in
set_option maxHeartbeats 4000000 in
theorem t_Mod_next_L8   {Q : Option Value → am_H → Prop} : ∀ (n : Nat)  (h : am_H) (q : am_H), am_Sh h → f_Mod_next_L8  n  h = some q → (am_Sh q → am_G 5 M_Mod_next 0 0 Q 47 [(0, .ref 136)] [] q 0 0) → am_G 5 M_Mod_next 0 0 Q 8 [(0, .ref 136)] [] h 0 0 := by
  intro n
  induction n with
  | zero =>
    intro  h q hs hf kont
    rw [f_Mod_next_L8] at hf
    cases hf
  | succ n ih =>
    intro  h q hs hf kont
    rw [f_Mod_next_L8] at hf
    refine g_aload_n (i := 0) (by decide +kernel) rfl ?_
    refine g_aload_n (i := 0) (by decide +kernel) rfl ?_
    refine x_geti (hs.k k_136) F_Mod_113 (by decide +kernel) rfl ?_
    refine x_callVIp (as := [.int (h.2.1 136 6)]) Vi_Mod_see Vs_Mod_see (hs.k k_136) rfl hf (fun q hq => t_Mod_see hs  hq) Y_Mod_see L_Mod_119 (by decide +kernel) rfl rfl (Nat.le_of_ble_eq_true rfl) (by decide) (Nat.le_refl _) (Nat.le_refl _) (fun q2 hf => ?_)
    refine g_bipush (z := 10) (v := 10) (by decide +kernel) rfl ?_
    refine x_icmp_eq (off := 16) (tgt := 34) hf (by decide +kernel) (by decide) (fun c3 hf => ?_) (fun c3 hf => ?_)
    · refine g_aload_n (i := 0) (by decide +kernel) rfl ?_
      refine g_dup (by decide +kernel) rfl ?_
      refine x_geti (hs.k k_136) F_Mod_113 (by decide +kernel) rfl ?_
      refine g_iconst (z := 1) (v := 1) (by decide +kernel) rfl ?_
      refine g_iadd (by decide +kernel) ?_
      refine x_puti hf hs (hs.k k_136) F_Mod_113 (by decide +kernel) rfl rfl rfl rfl (fun h5 hf hs => ?_)
      refine g_goto (off := (-36)) (tgt := 8) (by decide +kernel) (by decide) ?_
      exact am_G.forget (am_subp [0] rfl) (ih  _ _ hs hf kont)
    · refine g_aload_n (i := 0) (by decide +kernel) rfl ?_
      refine g_aload_n (i := 0) (by decide +kernel) rfl ?_
      refine x_geti (hs.k k_136) F_Mod_113 (by decide +kernel) rfl ?_
      refine x_callVIp (as := [.int (h.2.1 136 6)]) Vi_Mod_see Vs_Mod_see (hs.k k_136) rfl hf (fun q hq => t_Mod_see hs  hq) Y_Mod_see L_Mod_119 (by decide +kernel) rfl rfl (Nat.le_of_ble_eq_true rfl) (by decide) (Nat.le_refl _) (Nat.le_refl _) (fun q6 hf => ?_)
      refine g_bipush (z := 32) (v := 32) (by decide +kernel) rfl ?_
      refine x_icmp_ne (off := 16) (tgt := 47) hf (by decide +kernel) (by decide) (fun c7 hf => ?_) (fun c7 hf => ?_)
      · cases hf
        exact am_G.forget (am_subp [0] rfl) (kont hs)
      · refine g_aload_n (i := 0) (by decide +kernel) rfl ?_
        refine g_dup (by decide +kernel) rfl ?_
        refine x_geti (hs.k k_136) F_Mod_113 (by decide +kernel) rfl ?_
        refine g_iconst (z := 1) (v := 1) (by decide +kernel) rfl ?_
        refine g_iadd (by decide +kernel) ?_
        refine x_puti hf hs (hs.k k_136) F_Mod_113 (by decide +kernel) rfl rfl rfl rfl (fun h8 hf hs => ?_)
        refine g_goto (off := (-36)) (tgt := 8) (by decide +kernel) (by decide) ?_
        exact am_G.forget (am_subp [0] rfl) (ih  _ _ hs hf kont)
def f_Mod_next_L254  : Nat → Int32 → am_H → Option (Int32 × am_H)
  | 0, _, _ => none
  | n + 1, v1, h =>
    (f_String_length 3 h).bind fun q20 =>
    (if q20 ≤ v1 then
      some (v1, h)
    else
      (f_Mod_see (h.2.1 136 6) h).bind fun q22 =>
      (f_String_charAt 3 v1 h).bind fun q23 =>
      (if q22 = q23 then
        am_let (am_sI h 136 9 ((30 : Int32) + v1)) fun h25 =>
        f_Mod_next_L254  n (v1 + (1 : Int32)) h25
      else
        f_Mod_next_L254  n (v1 + (1 : Int32)) h))
set_option maxRecDepth 100000 in
set_option maxHeartbeats 4000000 in
theorem t_Mod_next_L254   {Q : Option Value → am_H → Prop} : ∀ (n : Nat) (v1 : Int32) (h : am_H) (q : Int32 × am_H), am_Sh h → f_Mod_next_L254  n v1 h = some q → (am_Sh q.2 → am_G 5 M_Mod_next 0 0 Q 294 [(0, .ref 136), (1, .int q.1)] [] q.2 0 0) → am_G 5 M_Mod_next 0 0 Q 254 [(0, .ref 136), (1, .int v1)] [] h 0 0 := by
  intro n
  induction n with
  | zero =>
    intro v1 h q hs hf kont
    rw [f_Mod_next_L254] at hf
    cases hf
  | succ n ih =>
    intro v1 h q hs hf kont
    rw [f_Mod_next_L254] at hf
    refine g_iload_n (i := 1) (by decide +kernel) rfl ?_
    refine g_ldcS sS_3 (by decide +kernel) ?_
    refine x_callVsIp (as := []) Vi_String_length Vs_String_length (by decide) rfl hf (fun q hq => t_String_length hs (by decide) hq) Y_String_length L_Mod_103 (by decide +kernel) rfl rfl (Nat.le_of_ble_eq_true rfl) (by decide) (Nat.le_refl _) (Nat.le_refl _) (fun q20 hf => ?_)
    refine x_icmp_ge (off := 34) (tgt := 294) hf (by decide +kernel) (by decide) (fun c21 hf => ?_) (fun c21 hf => ?_)
    · cases hf
      exact am_G.forget (am_subp [0, 1] rfl) (kont hs)
    · refine g_aload_n (i := 0) (by decide +kernel) rfl ?_
      refine g_aload_n (i := 0) (by decide +kernel) rfl ?_
      refine x_geti (hs.k k_136) F_Mod_113 (by decide +kernel) rfl ?_
      refine x_callVIp (as := [.int (h.2.1 136 6)]) Vi_Mod_see Vs_Mod_see (hs.k k_136) rfl hf (fun q hq => t_Mod_see hs  hq) Y_Mod_see L_Mod_119 (by decide +kernel) rfl rfl (Nat.le_of_ble_eq_true rfl) (by decide) (Nat.le_refl _) (Nat.le_refl _) (fun q22 hf => ?_)
      refine g_ldcS sS_3 (by decide +kernel) ?_
      refine g_iload_n (i := 1) (by decide +kernel) rfl ?_
      refine x_callVsIp (as := [.int v1]) Vi_String_charAt Vs_String_charAt (by decide) rfl hf (fun q hq => t_String_charAt hs (by decide) hq) Y_String_charAt L_Mod_109 (by decide +kernel) rfl rfl (Nat.le_of_ble_eq_true rfl) (by decide) (Nat.le_refl _) (Nat.le_refl _) (fun q23 hf => ?_)
      refine x_icmp_ne (off := 11) (tgt := 288) hf (by decide +kernel) (by decide) (fun c24 hf => ?_) (fun c24 hf => ?_)
      · refine g_iinc (i := 1) (z := 1) (v := (v1 + (1 : Int32))) (by decide +kernel) rfl rfl rfl (by decide) (ls1 := [(0, .ref 136), (1, .int (v1 + (1 : Int32)))]) rfl ?_
        refine g_goto (off := (-37)) (tgt := 254) (by decide +kernel) (by decide) ?_
        exact am_G.forget (am_subp [0, 1] rfl) (ih _ _ _ hs hf kont)
      · refine g_aload_n (i := 0) (by decide +kernel) rfl ?_
        refine g_bipush (z := 30) (v := 30) (by decide +kernel) rfl ?_
        refine g_iload_n (i := 1) (by decide +kernel) rfl ?_
        refine g_iadd (by decide +kernel) ?_
        refine x_puti hf hs (hs.k k_136) F_Mod_123 (by decide +kernel) rfl rfl rfl rfl (fun h25 hf hs => ?_)
        refine g_iinc (i := 1) (z := 1) (v := (v1 + (1 : Int32))) (by decide +kernel) rfl rfl rfl (by decide) (ls1 := [(0, .ref 136), (1, .int (v1 + (1 : Int32)))]) rfl ?_
        refine g_goto (off := (-37)) (tgt := 254) (by decide +kernel) (by decide) ?_
        exact am_G.forget (am_subp [0, 1] rfl) (ih _ _ _ hs hf kont)
def f_Mod_next_L146  : Nat → am_H → Option (am_H)
  | 0, _ => none
  | n + 1, h =>
    (f_Mod_see (h.2.1 136 7) h).bind fun q28 =>
    (f_Mod_isDigit q28 h).bind fun q29 =>
    (if q29 = true then
      ((if (3 : Int32) ≤ ((h.2.1 136 7) - (h.2.1 136 6)) then
          some h
        else
          (f_Mod_see (h.2.1 136 7) h).bind fun q32 =>
          am_let (am_sI h 136 10 ((((10 : Int32) * (h.2.1 136 10)) + q32) - (48 : Int32))) fun h33 =>
          some h33) : Option (am_H)).bind fun m34 =>
      am_let (am_sI m34 136 7 ((m34.2.1 136 7) + (1 : Int32))) fun h35 =>
      f_Mod_next_L146  n  h35
    else
      some h)
set_option maxRecDepth 100000 in
set_option maxHeartbeats 4000000 in
theorem t_Mod_next_L146   {Q : Option Value → am_H → Prop} : ∀ (n : Nat)  (h : am_H) (q : am_H), am_Sh h → f_Mod_next_L146  n  h = some q → (am_Sh q → am_G 5 M_Mod_next 0 0 Q 209 [(0, .ref 136)] [] q 0 0) → am_G 5 M_Mod_next 0 0 Q 146 [(0, .ref 136)] [] h 0 0 := by
  intro n
  induction n with
  | zero =>
    intro  h q hs hf kont
    rw [f_Mod_next_L146] at hf
    cases hf
  | succ n ih =>
    intro  h q hs hf kont
    rw [f_Mod_next_L146] at hf
    refine g_aload_n (i := 0) (by decide +kernel) rfl ?_
    refine g_aload_n (i := 0) (by decide +kernel) rfl ?_
    refine x_geti (hs.k k_136) F_Mod_116 (by decide +kernel) rfl ?_
    refine x_callVIp (as := [.int (h.2.1 136 7)]) Vi_Mod_see Vs_Mod_see (hs.k k_136) rfl hf (fun q hq => t_Mod_see hs  hq) Y_Mod_see L_Mod_119 (by decide +kernel) rfl rfl (Nat.le_of_ble_eq_true rfl) (by decide) (Nat.le_refl _) (Nat.le_refl _) (fun q28 hf => ?_)
    refine x_callSBp (as := [.int q28]) St_Mod_isDigit hf (fun q hq => t_Mod_isDigit hs  hq) Y_Mod_isDigit L_Mod_133 (by decide +kernel) rfl rfl (Nat.le_of_ble_eq_true rfl) (by decide) (Nat.le_refl _) (Nat.le_refl _) (fun q29 hf => ?_)
    refine x_ifb_eq (off := 52) (tgt := 209) hf (by decide +kernel) (by decide) (fun c30 hf => ?_) (fun c30 hf => ?_)
    · cases hf
      exact am_G.forget (am_subp [0] rfl) (kont hs)
    · refine g_aload_n (i := 0) (by decide +kernel) rfl ?_
      refine x_geti (hs.k k_136) F_Mod_116 (by decide +kernel) rfl ?_
      refine g_aload_n (i := 0) (by decide +kernel) rfl ?_
      refine x_geti (hs.k k_136) F_Mod_113 (by decide +kernel) rfl ?_
      refine g_isub (by decide +kernel) ?_
      refine g_iconst (z := 3) (v := 3) (by decide +kernel) rfl ?_
      obtain ⟨m34, hm196, hf⟩ := Option.bind_eq_some_iff.mp hf
      refine am_cutS (J := 196) (ls' := [(0, .ref 136)]) (st' := []) (h' := m34) (fun hs => ?_) (fun K196 => ?_)
      · refine g_aload_n (i := 0) (by decide +kernel) rfl ?_
        refine g_dup (by decide +kernel) rfl ?_
        refine x_geti (hs.k k_136) F_Mod_116 (by decide +kernel) rfl ?_
        refine g_iconst (z := 1) (v := 1) (by decide +kernel) rfl ?_
        refine g_iadd (by decide +kernel) ?_
        refine x_puti hf hs (hs.k k_136) F_Mod_116 (by decide +kernel) rfl rfl rfl rfl (fun h35 hf hs => ?_)
        refine g_goto (off := (-60)) (tgt := 146) (by decide +kernel) (by decide) ?_
        exact am_G.forget (am_subp [0] rfl) (ih  _ _ hs hf kont)
      refine x_icmp_ge (off := 26) (tgt := 196) hm196 (by decide +kernel) (by decide) (fun c31 hm196 => ?_) (fun c31 hm196 => ?_)
      · cases hm196
        exact am_G.forget (am_subp [0] rfl) (K196 hs)
      · refine g_aload_n (i := 0) (by decide +kernel) rfl ?_
        refine g_bipush (z := 10) (v := 10) (by decide +kernel) rfl ?_
        refine g_aload_n (i := 0) (by decide +kernel) rfl ?_
        refine x_geti (hs.k k_136) F_Mod_136 (by decide +kernel) rfl ?_
        refine g_imul (by decide +kernel) ?_
        refine g_aload_n (i := 0) (by decide +kernel) rfl ?_
        refine g_aload_n (i := 0) (by decide +kernel) rfl ?_
        refine x_geti (hs.k k_136) F_Mod_116 (by decide +kernel) rfl ?_
        refine x_callVIp (as := [.int (h.2.1 136 7)]) Vi_Mod_see Vs_Mod_see (hs.k k_136) rfl hm196 (fun q hq => t_Mod_see hs  hq) Y_Mod_see L_Mod_119 (by decide +kernel) rfl rfl (Nat.le_of_ble_eq_true rfl) (by decide) (Nat.le_refl _) (Nat.le_refl _) (fun q32 hm196 => ?_)
        refine g_iadd (by decide +kernel) ?_
        refine g_bipush (z := 48) (v := 48) (by decide +kernel) rfl ?_
        refine g_isub (by decide +kernel) ?_
        refine x_puti hm196 hs (hs.k k_136) F_Mod_136 (by decide +kernel) rfl rfl rfl rfl (fun h33 hm196 hs => ?_)
        cases hm196
        exact am_G.forget (am_subp [0] rfl) (K196 hs)
def f_Mod_next_L89  : Nat → am_H → Option (am_H)
  | 0, _ => none
  | n + 1, h =>
    (f_Mod_see (h.2.1 136 7) h).bind fun q39 =>
    (f_Mod_isSmall q39 h).bind fun q40 =>
    (if q40 = true then
      am_let (am_sI h 136 7 ((h.2.1 136 7) + (1 : Int32))) fun h42 =>
      f_Mod_next_L89  n  h42
    else
      some h)
set_option maxRecDepth 100000 in
set_option maxHeartbeats 4000000 in
theorem t_Mod_next_L89   {Q : Option Value → am_H → Prop} : ∀ (n : Nat)  (h : am_H) (q : am_H), am_Sh h → f_Mod_next_L89  n  h = some q → (am_Sh q → am_G 5 M_Mod_next 0 0 Q 116 [(0, .ref 136)] [] q 0 0) → am_G 5 M_Mod_next 0 0 Q 89 [(0, .ref 136)] [] h 0 0 := by
  intro n
  induction n with
  | zero =>
    intro  h q hs hf kont
    rw [f_Mod_next_L89] at hf
    cases hf
  | succ n ih =>
    intro  h q hs hf kont
    rw [f_Mod_next_L89] at hf
    refine g_aload_n (i := 0) (by decide +kernel) rfl ?_
    refine g_aload_n (i := 0) (by decide +kernel) rfl ?_
    refine x_geti (hs.k k_136) F_Mod_116 (by decide +kernel) rfl ?_
    refine x_callVIp (as := [.int (h.2.1 136 7)]) Vi_Mod_see Vs_Mod_see (hs.k k_136) rfl hf (fun q hq => t_Mod_see hs  hq) Y_Mod_see L_Mod_119 (by decide +kernel) rfl rfl (Nat.le_of_ble_eq_true rfl) (by decide) (Nat.le_refl _) (Nat.le_refl _) (fun q39 hf => ?_)
    refine x_callSBp (as := [.int q39]) St_Mod_isSmall hf (fun q hq => t_Mod_isSmall hs  hq) Y_Mod_isSmall L_Mod_126 (by decide +kernel) rfl rfl (Nat.le_of_ble_eq_true rfl) (by decide) (Nat.le_refl _) (Nat.le_refl _) (fun q40 hf => ?_)
    refine x_ifb_eq (off := 16) (tgt := 116) hf (by decide +kernel) (by decide) (fun c41 hf => ?_) (fun c41 hf => ?_)
    · cases hf
      exact am_G.forget (am_subp [0] rfl) (kont hs)
    · refine g_aload_n (i := 0) (by decide +kernel) rfl ?_
      refine g_dup (by decide +kernel) rfl ?_
      refine x_geti (hs.k k_136) F_Mod_116 (by decide +kernel) rfl ?_
      refine g_iconst (z := 1) (v := 1) (by decide +kernel) rfl ?_
      refine g_iadd (by decide +kernel) ?_
      refine x_puti hf hs (hs.k k_136) F_Mod_116 (by decide +kernel) rfl rfl rfl rfl (fun h42 hf hs => ?_)
      refine g_goto (off := (-24)) (tgt := 89) (by decide +kernel) (by decide) ?_
      exact am_G.forget (am_subp [0] rfl) (ih  _ _ hs hf kont)
def f_Mod_next  (h : am_H) : Option (am_H) :=
  am_let (am_sI h 136 6 (h.2.1 136 7)) fun h1 =>
  (f_Mod_next_L8  am_fu  h1).bind fun q9 =>
  am_let (am_sI q9 136 7 (q9.2.1 136 6)) fun h10 =>
  (if (h10.2.1 136 6) < (h10.2.1 136 8) then
    (f_Mod_see (h10.2.1 136 6) h10).bind fun q12 =>
    (f_Mod_isSmall q12 h10).bind fun q13 =>
    (if q13 = true then
      (f_Mod_next_L89  am_fu  h10).bind fun q43 =>
      (f_Mod_keyAt  q43).bind fun q44 =>
      am_let (am_sI q43 136 9 q44) fun h45 =>
      some h45
    else
      (f_Mod_see (h10.2.1 136 6) h10).bind fun q15 =>
      (f_Mod_isDigit q15 h10).bind fun q16 =>
      (if q16 = true then
        am_let (am_sI h10 136 10 (0 : Int32)) fun h27 =>
        (f_Mod_next_L146  am_fu  h27).bind fun q36 =>
        am_let (am_sI q36 136 9 (if ((q36.2.1 136 7) - (q36.2.1 136 6)) ≤ (3 : Int32) then (23 : Int32) else (25 : Int32))) fun h38 =>
        some h38
      else
        am_let (am_sI h10 136 7 ((h10.2.1 136 7) + (1 : Int32))) fun h18 =>
        am_let (am_sI h18 136 9 (25 : Int32)) fun h19 =>
        (f_Mod_next_L254  am_fu (0 : Int32) h19).bind fun q26 =>
        some q26.2))
  else
    am_let (am_sI h10 136 9 (24 : Int32)) fun h46 =>
    some h46)
set_option maxRecDepth 100000 in
set_option maxHeartbeats 4000000 in
theorem t_Mod_next  {h : am_H} (hs : am_Sh h)  {r : am_H} (hf : f_Mod_next  h = some r) : am_Ct 5 M_Mod_next [.ref 136] h 0 0 (am_qV r) := by
  unfold f_Mod_next at hf
  refine am_Ct.of (by decide) rfl (Nat.le_of_ble_eq_true rfl) (ls := [(0, .ref 136)]) rfl ?_
  refine g_aload_n (i := 0) (by decide +kernel) rfl ?_
  refine g_aload_n (i := 0) (by decide +kernel) rfl ?_
  refine x_geti (hs.k k_136) F_Mod_116 (by decide +kernel) rfl ?_
  refine x_puti hf hs (hs.k k_136) F_Mod_113 (by decide +kernel) rfl rfl rfl rfl (fun h1 hf hs => ?_)
  obtain ⟨q9, hqq9, hf⟩ := Option.bind_eq_some_iff.mp hf
  refine am_G.forget (am_subp [0] rfl) (t_Mod_next_L8  am_fu  _ q9 hs hqq9 (fun hs => ?_))
  refine g_aload_n (i := 0) (by decide +kernel) rfl ?_
  refine g_aload_n (i := 0) (by decide +kernel) rfl ?_
  refine x_geti (hs.k k_136) F_Mod_113 (by decide +kernel) rfl ?_
  refine x_puti hf hs (hs.k k_136) F_Mod_116 (by decide +kernel) rfl rfl rfl rfl (fun h10 hf hs => ?_)
  refine g_aload_n (i := 0) (by decide +kernel) rfl ?_
  refine x_geti (hs.k k_136) F_Mod_113 (by decide +kernel) rfl ?_
  refine g_aload_n (i := 0) (by decide +kernel) rfl ?_
  refine x_geti (hs.k k_136) F_Mod_98 (by decide +kernel) rfl ?_
  refine x_icmp_lt (off := 12) (tgt := 75) hf (by decide +kernel) (by decide) (fun c11 hf => ?_) (fun c11 hf => ?_)
  · refine g_aload_n (i := 0) (by decide +kernel) rfl ?_
    refine g_aload_n (i := 0) (by decide +kernel) rfl ?_
    refine x_geti (hs.k k_136) F_Mod_113 (by decide +kernel) rfl ?_
    refine x_callVIp (as := [.int (h10.2.1 136 6)]) Vi_Mod_see Vs_Mod_see (hs.k k_136) rfl hf (fun q hq => t_Mod_see hs  hq) Y_Mod_see L_Mod_119 (by decide +kernel) rfl rfl (Nat.le_of_ble_eq_true rfl) (by decide) (Nat.le_refl _) (Nat.le_refl _) (fun q12 hf => ?_)
    refine x_callSBp (as := [.int q12]) St_Mod_isSmall hf (fun q hq => t_Mod_isSmall hs  hq) Y_Mod_isSmall L_Mod_126 (by decide +kernel) rfl rfl (Nat.le_of_ble_eq_true rfl) (by decide) (Nat.le_refl _) (Nat.le_refl _) (fun q13 hf => ?_)
    refine x_ifb_eq (off := 41) (tgt := 127) hf (by decide +kernel) (by decide) (fun c14 hf => ?_) (fun c14 hf => ?_)
    · refine g_aload_n (i := 0) (by decide +kernel) rfl ?_
      refine g_aload_n (i := 0) (by decide +kernel) rfl ?_
      refine x_geti (hs.k k_136) F_Mod_113 (by decide +kernel) rfl ?_
      refine x_callVIp (as := [.int (h10.2.1 136 6)]) Vi_Mod_see Vs_Mod_see (hs.k k_136) rfl hf (fun q hq => t_Mod_see hs  hq) Y_Mod_see L_Mod_119 (by decide +kernel) rfl rfl (Nat.le_of_ble_eq_true rfl) (by decide) (Nat.le_refl _) (Nat.le_refl _) (fun q15 hf => ?_)
      refine x_callSBp (as := [.int q15]) St_Mod_isDigit hf (fun q hq => t_Mod_isDigit hs  hq) Y_Mod_isDigit L_Mod_133 (by decide +kernel) rfl rfl (Nat.le_of_ble_eq_true rfl) (by decide) (Nat.le_refl _) (Nat.le_refl _) (fun q16 hf => ?_)
      refine x_ifb_eq (off := 98) (tgt := 236) hf (by decide +kernel) (by decide) (fun c17 hf => ?_) (fun c17 hf => ?_)
      · refine g_aload_n (i := 0) (by decide +kernel) rfl ?_
        refine g_dup (by decide +kernel) rfl ?_
        refine x_geti (hs.k k_136) F_Mod_116 (by decide +kernel) rfl ?_
        refine g_iconst (z := 1) (v := 1) (by decide +kernel) rfl ?_
        refine g_iadd (by decide +kernel) ?_
        refine x_puti hf hs (hs.k k_136) F_Mod_116 (by decide +kernel) rfl rfl rfl rfl (fun h18 hf hs => ?_)
        refine g_aload_n (i := 0) (by decide +kernel) rfl ?_
        refine g_bipush (z := 25) (v := 25) (by decide +kernel) rfl ?_
        refine x_puti hf hs (hs.k k_136) F_Mod_123 (by decide +kernel) rfl rfl rfl rfl (fun h19 hf hs => ?_)
        refine g_iconst (z := 0) (v := 0) (by decide +kernel) rfl ?_
        refine g_istore_n (i := 1) (by decide +kernel) rfl (by decide) (ls1 := [(0, .ref 136), (1, .int (0 : Int32))]) rfl ?_
        obtain ⟨q26, hqq26, hf⟩ := Option.bind_eq_some_iff.mp hf
        refine am_G.forget (am_subp [0, 1] rfl) (t_Mod_next_L254  am_fu _ _ q26 hs hqq26 (fun hs => ?_))
        exact x_vret hf hs (by decide +kernel) rfl (Nat.le_refl _) (Nat.le_refl _)
      · refine g_aload_n (i := 0) (by decide +kernel) rfl ?_
        refine g_iconst (z := 0) (v := 0) (by decide +kernel) rfl ?_
        refine x_puti hf hs (hs.k k_136) F_Mod_136 (by decide +kernel) rfl rfl rfl rfl (fun h27 hf hs => ?_)
        obtain ⟨q36, hqq36, hf⟩ := Option.bind_eq_some_iff.mp hf
        refine am_G.forget (am_subp [0] rfl) (t_Mod_next_L146  am_fu  _ q36 hs hqq36 (fun hs => ?_))
        refine g_aload_n (i := 0) (by decide +kernel) rfl ?_
        refine g_aload_n (i := 0) (by decide +kernel) rfl ?_
        refine x_geti (hs.k k_136) F_Mod_116 (by decide +kernel) rfl ?_
        refine g_aload_n (i := 0) (by decide +kernel) rfl ?_
        refine x_geti (hs.k k_136) F_Mod_113 (by decide +kernel) rfl ?_
        refine g_isub (by decide +kernel) ?_
        refine g_iconst (z := 3) (v := 3) (by decide +kernel) rfl ?_
        refine am_cut (J := 230) (ls' := [(0, .ref 136)]) (st' := [.int (if ((q36.2.1 136 7) - (q36.2.1 136 6)) ≤ (3 : Int32) then (23 : Int32) else (25 : Int32)), .ref 136]) ?_ (fun K230 => ?_)
        · refine x_puti hf hs (hs.k k_136) F_Mod_123 (by decide +kernel) rfl rfl rfl rfl (fun h38 hf hs => ?_)
          refine g_goto (off := 61) (tgt := 294) (by decide +kernel) (by decide) ?_
          exact x_vret hf hs (by decide +kernel) rfl (Nat.le_refl _) (Nat.le_refl _)
        refine p_icmp_le (off := 8) (tgt := 228) (by decide +kernel) (by decide) (fun c37 => ?_) (fun c37 => ?_)
        · refine g_bipush (z := 23) (v := 23) (by decide +kernel) rfl ?_
          have K1 := K230
          simp only [if_pos c37] at K1
          exact am_G.forget (am_subp [0] rfl) K1
        · refine g_bipush (z := 25) (v := 25) (by decide +kernel) rfl ?_
          refine g_goto (off := 5) (tgt := 230) (by decide +kernel) (by decide) ?_
          have K1 := K230
          simp only [if_neg c37] at K1
          exact am_G.forget (am_subp [0] rfl) K1
    · obtain ⟨q43, hqq43, hf⟩ := Option.bind_eq_some_iff.mp hf
      refine am_G.forget (am_subp [0] rfl) (t_Mod_next_L89  am_fu  _ q43 hs hqq43 (fun hs => ?_))
      refine g_aload_n (i := 0) (by decide +kernel) rfl ?_
      refine g_aload_n (i := 0) (by decide +kernel) rfl ?_
      refine x_callVIp (as := []) Vi_Mod_keyAt Vs_Mod_keyAt (hs.k k_136) rfl hf (fun q hq => t_Mod_keyAt hs  hq) Y_Mod_keyAt L_Mod_130 (by decide +kernel) rfl rfl (Nat.le_of_ble_eq_true rfl) (by decide) (Nat.le_refl _) (Nat.le_refl _) (fun q44 hf => ?_)
      refine x_puti hf hs (hs.k k_136) F_Mod_123 (by decide +kernel) rfl rfl rfl rfl (fun h45 hf hs => ?_)
      refine g_goto (off := 170) (tgt := 294) (by decide +kernel) (by decide) ?_
      exact x_vret hf hs (by decide +kernel) rfl (Nat.le_refl _) (Nat.le_refl _)
  · refine g_aload_n (i := 0) (by decide +kernel) rfl ?_
    refine g_bipush (z := 24) (v := 24) (by decide +kernel) rfl ?_
    refine x_puti hf hs (hs.k k_136) F_Mod_123 (by decide +kernel) rfl rfl rfl rfl (fun h46 hf hs => ?_)
    refine g_goto (off := 222) (tgt := 294) (by decide +kernel) (by decide) ?_
    exact x_vret hf hs (by decide +kernel) rfl (Nat.le_refl _) (Nat.le_refl _)
def f_Mod_fails (p1 : Int32) (h : am_H) : Option (am_H) :=
  (if (h.2.1 136 11) = 0 then
    am_let (am_sI h 136 11 (if (h.2.1 136 9) = (25 : Int32) then (1 : Int32) else p1)) fun h3 =>
    am_let (am_sI h3 136 12 (h3.2.1 136 6)) fun h4 =>
    some h4
  else
    some h)
set_option maxRecDepth 100000 in
set_option maxHeartbeats 4000000 in
theorem t_Mod_fails {p1 : Int32} {h : am_H} (hs : am_Sh h)  {r : am_H} (hf : f_Mod_fails p1 h = some r) : am_Ct 0 M_Mod_fails [.ref 136, .int p1] h 0 0 (am_qV r) := by
  unfold f_Mod_fails at hf
  refine am_Ct.of (by decide) rfl (Nat.le_of_ble_eq_true rfl) (ls := [(0, .ref 136), (1, .int p1)]) rfl ?_
  refine g_aload_n (i := 0) (by decide +kernel) rfl ?_
  refine x_geti (hs.k k_136) F_Mod_141 (by decide +kernel) rfl ?_
  refine x_if_eq (off := 4) (tgt := 8) hf (by decide +kernel) (by decide) (fun c1 hf => ?_) (fun c1 hf => ?_)
  · refine g_aload_n (i := 0) (by decide +kernel) rfl ?_
    refine g_aload_n (i := 0) (by decide +kernel) rfl ?_
    refine x_geti (hs.k k_136) F_Mod_123 (by decide +kernel) rfl ?_
    refine g_bipush (z := 25) (v := 25) (by decide +kernel) rfl ?_
    refine am_cut (J := 23) (ls' := [(0, .ref 136), (1, .int p1)]) (st' := [.int (if (h.2.1 136 9) = (25 : Int32) then (1 : Int32) else p1), .ref 136]) ?_ (fun K23 => ?_)
    · refine x_puti hf hs (hs.k k_136) F_Mod_141 (by decide +kernel) rfl rfl rfl rfl (fun h3 hf hs => ?_)
      refine g_aload_n (i := 0) (by decide +kernel) rfl ?_
      refine g_aload_n (i := 0) (by decide +kernel) rfl ?_
      refine x_geti (hs.k k_136) F_Mod_113 (by decide +kernel) rfl ?_
      refine x_puti hf hs (hs.k k_136) F_Mod_144 (by decide +kernel) rfl rfl rfl rfl (fun h4 hf hs => ?_)
      exact x_vret hf hs (by decide +kernel) rfl (Nat.le_refl _) (Nat.le_refl _)
    refine p_icmp_ne (off := 7) (tgt := 22) (by decide +kernel) (by decide) (fun c2 => ?_) (fun c2 => ?_)
    · refine g_iload_n (i := 1) (by decide +kernel) rfl ?_
      have K1 := K23
      simp only [if_neg c2] at K1
      exact am_G.forget (am_subp [0, 1] rfl) K1
    · refine g_iconst (z := 1) (v := 1) (by decide +kernel) rfl ?_
      refine g_goto (off := 4) (tgt := 23) (by decide +kernel) (by decide) ?_
      have K1 := K23
      simp only [if_pos c2] at K1
      exact am_G.forget (am_subp [0, 1] rfl) K1
  · exact x_vret hf hs (by decide +kernel) rfl (Nat.le_refl _) (Nat.le_refl _)
def f_Mod_is (p1 : Int32) (h : am_H) : Option (Bool) :=
  (if (h.2.1 136 11) = 0 then
    (if (h.2.1 136 9) = p1 then
      some true
    else
      some false)
  else
    some false)
set_option maxRecDepth 100000 in
set_option maxHeartbeats 4000000 in
theorem t_Mod_is {p1 : Int32} {h : am_H} (hs : am_Sh h)  {r : Bool} (hf : f_Mod_is p1 h = some r) : am_Ct 0 M_Mod_is [.ref 136, .int p1] h 0 0 (am_pB h r) := by
  unfold f_Mod_is at hf
  refine am_Ct.of (by decide) rfl (Nat.le_of_ble_eq_true rfl) (ls := [(0, .ref 136), (1, .int p1)]) rfl ?_
  refine g_aload_n (i := 0) (by decide +kernel) rfl ?_
  refine x_geti (hs.k k_136) F_Mod_141 (by decide +kernel) rfl ?_
  refine x_if_ne (off := 15) (tgt := 19) hf (by decide +kernel) (by decide) (fun c1 hf => ?_) (fun c1 hf => ?_)
  · refine g_iconst (z := 0) (v := 0) (by decide +kernel) rfl ?_
    exact x_zretp rfl hf (by decide +kernel) rfl (Nat.le_refl _) (Nat.le_refl _)
  · refine g_aload_n (i := 0) (by decide +kernel) rfl ?_
    refine x_geti (hs.k k_136) F_Mod_123 (by decide +kernel) rfl ?_
    refine g_iload_n (i := 1) (by decide +kernel) rfl ?_
    refine x_icmp_ne (off := 7) (tgt := 19) hf (by decide +kernel) (by decide) (fun c2 hf => ?_) (fun c2 hf => ?_)
    · refine g_iconst (z := 0) (v := 0) (by decide +kernel) rfl ?_
      exact x_zretp rfl hf (by decide +kernel) rfl (Nat.le_refl _) (Nat.le_refl _)
    · refine g_iconst (z := 1) (v := 1) (by decide +kernel) rfl ?_
      refine g_goto (off := 4) (tgt := 20) (by decide +kernel) (by decide) ?_
      exact x_zretp rfl hf (by decide +kernel) rfl (Nat.le_refl _) (Nat.le_refl _)
def f_Mod_eats (p1 : Int32) (h : am_H) : Option (Bool × am_H) :=
  (f_Mod_is p1 h).bind fun q1 =>
  (if q1 = true then
    (f_Mod_next  h).bind fun q3 =>
    some (true, q3)
  else
    some (false, h))
set_option maxRecDepth 100000 in
set_option maxHeartbeats 4000000 in
theorem t_Mod_eats {p1 : Int32} {h : am_H} (hs : am_Sh h)  {r : Bool × am_H} (hf : f_Mod_eats p1 h = some r) : am_Ct 6 M_Mod_eats [.ref 136, .int p1] h 0 0 (am_qB r) := by
  unfold f_Mod_eats at hf
  refine am_Ct.of (by decide) rfl (Nat.le_of_ble_eq_true rfl) (ls := [(0, .ref 136), (1, .int p1)]) rfl ?_
  refine g_aload_n (i := 0) (by decide +kernel) rfl ?_
  refine g_iload_n (i := 1) (by decide +kernel) rfl ?_
  refine x_callVBp (as := [.int p1]) Vi_Mod_is Vs_Mod_is (hs.k k_136) rfl hf (fun q hq => t_Mod_is hs  hq) Y_Mod_is L_Mod_147 (by decide +kernel) rfl rfl (Nat.le_of_ble_eq_true rfl) (by decide) (Nat.le_refl _) (Nat.le_refl _) (fun q1 hf => ?_)
  refine x_ifb_ne (off := 5) (tgt := 10) hf (by decide +kernel) (by decide) (fun c2 hf => ?_) (fun c2 hf => ?_)
  · refine g_aload_n (i := 0) (by decide +kernel) rfl ?_
    refine x_callVV (as := []) Vi_Mod_next Vs_Mod_next (hs.k k_136) rfl hf (fun q hq => t_Mod_next hs  hq) Y_Mod_next L_Mod_150 (by decide +kernel) rfl rfl (Nat.le_of_ble_eq_true rfl) (by decide) (Nat.le_refl _) (Nat.le_refl _) (fun q3 hf hs => ?_)
    refine g_iconst (z := 1) (v := 1) (by decide +kernel) rfl ?_
    exact x_zret rfl hf hs (by decide +kernel) rfl (Nat.le_refl _) (Nat.le_refl _)
  · refine g_iconst (z := 0) (v := 0) (by decide +kernel) rfl ?_
    exact x_zret rfl hf hs (by decide +kernel) rfl (Nat.le_refl _) (Nat.le_refl _)
def f_Mod_takes (p1 : Int32) (p2 : Int32) (h : am_H) : Option (Int32 × am_H) :=
  (f_Mod_is (23 : Int32) h).bind fun q1 =>
  ((if q1 = true then
      (f_Mod_within (((h.2.1 136 10)).toInt64) ((p1).toInt64) ((p2).toInt64) h).bind fun q3 =>
      (if q3 = true then
        some h
      else
        (f_Mod_fails (3 : Int32) h).bind fun q5 =>
        some q5)
    else
      (f_Mod_fails (2 : Int32) h).bind fun q6 =>
      some q6) : Option (am_H)).bind fun m7 =>
  (if (m7.2.1 136 11) = 0 then
    (f_Mod_next  m7).bind fun q9 =>
    some ((m7.2.1 136 10), q9)
  else
    some ((m7.2.1 136 10), m7))
set_option maxRecDepth 100000 in
set_option maxHeartbeats 4000000 in
theorem t_Mod_takes {p1 : Int32} {p2 : Int32} {h : am_H} (hs : am_Sh h)  {r : Int32 × am_H} (hf : f_Mod_takes p1 p2 h = some r) : am_Ct 6 M_Mod_takes [.ref 136, .int p1, .int p2] h 0 0 (am_qI r) := by
  unfold f_Mod_takes at hf
  refine am_Ct.of (by decide) rfl (Nat.le_of_ble_eq_true rfl) (ls := [(0, .ref 136), (1, .int p1), (2, .int p2)]) rfl ?_
  refine g_aload_n (i := 0) (by decide +kernel) rfl ?_
  refine g_bipush (z := 23) (v := 23) (by decide +kernel) rfl ?_
  refine x_callVBp (as := [.int (23 : Int32)]) Vi_Mod_is Vs_Mod_is (hs.k k_136) rfl hf (fun q hq => t_Mod_is hs  hq) Y_Mod_is L_Mod_147 (by decide +kernel) rfl rfl (Nat.le_of_ble_eq_true rfl) (by decide) (Nat.le_refl _) (Nat.le_refl _) (fun q1 hf => ?_)
  obtain ⟨m7, hm37, hf⟩ := Option.bind_eq_some_iff.mp hf
  refine am_cutS (J := 37) (ls' := [(0, .ref 136), (1, .int p1), (2, .int p2)]) (st' := []) (h' := m7) (fun hs => ?_) (fun K37 => ?_)
  · refine g_aload_n (i := 0) (by decide +kernel) rfl ?_
    refine x_geti (hs.k k_136) F_Mod_136 (by decide +kernel) rfl ?_
    refine g_istore_n (i := 3) (by decide +kernel) rfl (by decide) (ls1 := [(0, .ref 136), (1, .int p1), (2, .int p2), (3, .int (m7.2.1 136 10))]) rfl ?_
    refine g_aload_n (i := 0) (by decide +kernel) rfl ?_
    refine x_geti (hs.k k_136) F_Mod_141 (by decide +kernel) rfl ?_
    refine x_if_ne (off := 7) (tgt := 53) hf (by decide +kernel) (by decide) (fun c8 hf => ?_) (fun c8 hf => ?_)
    · refine g_iload_n (i := 3) (by decide +kernel) rfl ?_
      exact x_iret hf hs (by decide +kernel) rfl (Nat.le_refl _) (Nat.le_refl _)
    · refine g_aload_n (i := 0) (by decide +kernel) rfl ?_
      refine x_callVV (as := []) Vi_Mod_next Vs_Mod_next (hs.k k_136) rfl hf (fun q hq => t_Mod_next hs  hq) Y_Mod_next L_Mod_150 (by decide +kernel) rfl rfl (Nat.le_of_ble_eq_true rfl) (by decide) (Nat.le_refl _) (Nat.le_refl _) (fun q9 hf hs => ?_)
      refine g_iload_n (i := 3) (by decide +kernel) rfl ?_
      exact x_iret hf hs (by decide +kernel) rfl (Nat.le_refl _) (Nat.le_refl _)
  refine x_ifb_ne (off := 11) (tgt := 17) hm37 (by decide +kernel) (by decide) (fun c2 hm37 => ?_) (fun c2 hm37 => ?_)
  · refine g_aload_n (i := 0) (by decide +kernel) rfl ?_
    refine x_geti (hs.k k_136) F_Mod_136 (by decide +kernel) rfl ?_
    refine g_i2l (by decide +kernel) ?_
    refine g_iload_n (i := 1) (by decide +kernel) rfl ?_
    refine g_i2l (by decide +kernel) ?_
    refine g_iload_n (i := 2) (by decide +kernel) rfl ?_
    refine g_i2l (by decide +kernel) ?_
    refine x_callSBp (as := [.long (((h.2.1 136 10)).toInt64), .long ((p1).toInt64), .long ((p2).toInt64)]) St_Mod_within hm37 (fun q hq => t_Mod_within hs  hq) Y_Mod_within L_Mod_157 (by decide +kernel) rfl rfl (Nat.le_of_ble_eq_true rfl) (by decide) (Nat.le_refl _) (Nat.le_refl _) (fun q3 hm37 => ?_)
    refine x_ifb_ne (off := 8) (tgt := 37) hm37 (by decide +kernel) (by decide) (fun c4 hm37 => ?_) (fun c4 hm37 => ?_)
    · cases hm37
      exact am_G.forget (am_subp [0, 1, 2] rfl) (K37 hs)
    · refine g_aload_n (i := 0) (by decide +kernel) rfl ?_
      refine g_iconst (z := 3) (v := 3) (by decide +kernel) rfl ?_
      refine x_callVV (as := [.int (3 : Int32)]) Vi_Mod_fails Vs_Mod_fails (hs.k k_136) rfl hm37 (fun q hq => t_Mod_fails hs  hq) Y_Mod_fails L_Mod_153 (by decide +kernel) rfl rfl (Nat.le_of_ble_eq_true rfl) (by decide) (Nat.le_refl _) (Nat.le_refl _) (fun q5 hm37 hs => ?_)
      cases hm37
      exact am_G.forget (am_subp [0, 1, 2] rfl) (K37 hs)
  · refine g_aload_n (i := 0) (by decide +kernel) rfl ?_
    refine g_iconst (z := 2) (v := 2) (by decide +kernel) rfl ?_
    refine x_callVV (as := [.int (2 : Int32)]) Vi_Mod_fails Vs_Mod_fails (hs.k k_136) rfl hm37 (fun q hq => t_Mod_fails hs  hq) Y_Mod_fails L_Mod_153 (by decide +kernel) rfl rfl (Nat.le_of_ble_eq_true rfl) (by decide) (Nat.le_refl _) (Nat.le_refl _) (fun q6 hm37 hs => ?_)
    refine g_goto (off := 23) (tgt := 37) (by decide +kernel) (by decide) ?_
    cases hm37
    exact am_G.forget (am_subp [0, 1, 2] rfl) (K37 hs)
def f_Mod_isIn (p0 : Int64) (p2 : Int32) (h : am_H) : Option (Bool) :=
  (if (lg_cmp ((p0 >>> ((p2).toInt64 &&& 63)) &&& (1 : Int64)) (1 : Int64)) = 0 then
    some true
  else
    some false)
set_option maxRecDepth 100000 in
set_option maxHeartbeats 4000000 in
theorem t_Mod_isIn {p0 : Int64} {p2 : Int32} {h : am_H} (hs : am_Sh h)  {r : Bool} (hf : f_Mod_isIn p0 p2 h = some r) : am_Ct 0 M_Mod_isIn [.long p0, .int p2] h 0 0 (am_pB h r) := by
  unfold f_Mod_isIn at hf
  refine am_Ct.of (by decide) rfl (Nat.le_of_ble_eq_true rfl) (ls := [(0, .long p0), (2, .int p2)]) rfl ?_
  refine g_lload_n (i := 0) (by decide +kernel) rfl ?_
  refine g_iload_n (i := 2) (by decide +kernel) rfl ?_
  refine g_lshr (by decide +kernel) ?_
  refine g_lconst (z := 1) (v := 1) (by decide +kernel) rfl ?_
  refine g_land (by decide +kernel) ?_
  refine g_lconst (z := 1) (v := 1) (by decide +kernel) rfl ?_
  refine g_lcmp (by decide +kernel) ?_
  refine x_if_ne (off := 7) (tgt := 14) hf (by decide +kernel) (by decide) (fun c1 hf => ?_) (fun c1 hf => ?_)
  · refine g_iconst (z := 0) (v := 0) (by decide +kernel) rfl ?_
    exact x_zretp rfl hf (by decide +kernel) rfl (Nat.le_refl _) (Nat.le_refl _)
  · refine g_iconst (z := 1) (v := 1) (by decide +kernel) rfl ?_
    refine g_goto (off := 4) (tgt := 15) (by decide +kernel) (by decide) ?_
    exact x_zretp rfl hf (by decide +kernel) rfl (Nat.le_refl _) (Nat.le_refl _)
def f_Mod_wordOf (p1 : Int32) (h : am_H) : Option (Int32) :=
  (if p1 = (8 : Int32) then
    some (3 : Int32)
  else if p1 = (9 : Int32) then
    some (-1 : Int32)
  else if p1 = (10 : Int32) then
    some (-1 : Int32)
  else if p1 = (11 : Int32) then
    some (-1 : Int32)
  else if p1 = (12 : Int32) then
    some (-1 : Int32)
  else if p1 = (13 : Int32) then
    some (-1 : Int32)
  else if p1 = (14 : Int32) then
    some (1 : Int32)
  else if p1 = (15 : Int32) then
    some (0 : Int32)
  else if p1 = (16 : Int32) then
    some (2 : Int32)
  else if p1 = (17 : Int32) then
    some (4 : Int32)
  else if p1 = (18 : Int32) then
    (if (h.2.1 136 15) = 0 then
      some (5 : Int32)
    else
      some (-1 : Int32))
  else 
    some (-1 : Int32))
set_option maxRecDepth 100000 in
set_option maxHeartbeats 4000000 in
theorem t_Mod_wordOf {p1 : Int32} {h : am_H} (hs : am_Sh h)  {r : Int32} (hf : f_Mod_wordOf p1 h = some r) : am_Ct 0 M_Mod_wordOf [.ref 136, .int p1] h 0 0 (am_pI h r) := by
  unfold f_Mod_wordOf at hf
  refine am_Ct.of (by decide) rfl (Nat.le_of_ble_eq_true rfl) (ls := [(0, .ref 136), (1, .int p1)]) rfl ?_
  refine g_iload_n (i := 1) (by decide +kernel) rfl ?_
  by_cases e0 : p1 = (8 : Int32)
  · rw [if_pos e0] at hf
    have ex : Int32.toInt p1 = 8 := by rw [e0]; rfl
    refine x_tabIn (dflt := 82) (lo := 8) (hi := 18) (offs := #[65, 82, 82, 82, 82, 82, 61, 59, 63, 67, 69]) (len := 59) (off := 65) (tgt := 66) (by decide +kernel) (by rw [ex]; decide) (by rw [ex]; decide) (by rw [ex]; rfl) (by decide) ?_
    refine g_iconst (z := 3) (v := 3) (by decide +kernel) rfl ?_
    exact x_iretp hf (by decide +kernel) rfl (Nat.le_refl _) (Nat.le_refl _)
  · rw [if_neg e0] at hf
    by_cases e1 : p1 = (9 : Int32)
    · rw [if_pos e1] at hf
      have ex : Int32.toInt p1 = 9 := by rw [e1]; rfl
      refine x_tabIn (dflt := 82) (lo := 8) (hi := 18) (offs := #[65, 82, 82, 82, 82, 82, 61, 59, 63, 67, 69]) (len := 59) (off := 82) (tgt := 83) (by decide +kernel) (by rw [ex]; decide) (by rw [ex]; decide) (by rw [ex]; rfl) (by decide) ?_
      refine g_iconst (z := (-1)) (v := (-1)) (by decide +kernel) rfl ?_
      exact x_iretp hf (by decide +kernel) rfl (Nat.le_refl _) (Nat.le_refl _)
    · rw [if_neg e1] at hf
      by_cases e2 : p1 = (10 : Int32)
      · rw [if_pos e2] at hf
        have ex : Int32.toInt p1 = 10 := by rw [e2]; rfl
        refine x_tabIn (dflt := 82) (lo := 8) (hi := 18) (offs := #[65, 82, 82, 82, 82, 82, 61, 59, 63, 67, 69]) (len := 59) (off := 82) (tgt := 83) (by decide +kernel) (by rw [ex]; decide) (by rw [ex]; decide) (by rw [ex]; rfl) (by decide) ?_
        refine g_iconst (z := (-1)) (v := (-1)) (by decide +kernel) rfl ?_
        exact x_iretp hf (by decide +kernel) rfl (Nat.le_refl _) (Nat.le_refl _)
      · rw [if_neg e2] at hf
        by_cases e3 : p1 = (11 : Int32)
        · rw [if_pos e3] at hf
          have ex : Int32.toInt p1 = 11 := by rw [e3]; rfl
          refine x_tabIn (dflt := 82) (lo := 8) (hi := 18) (offs := #[65, 82, 82, 82, 82, 82, 61, 59, 63, 67, 69]) (len := 59) (off := 82) (tgt := 83) (by decide +kernel) (by rw [ex]; decide) (by rw [ex]; decide) (by rw [ex]; rfl) (by decide) ?_
          refine g_iconst (z := (-1)) (v := (-1)) (by decide +kernel) rfl ?_
          exact x_iretp hf (by decide +kernel) rfl (Nat.le_refl _) (Nat.le_refl _)
        · rw [if_neg e3] at hf
          by_cases e4 : p1 = (12 : Int32)
          · rw [if_pos e4] at hf
            have ex : Int32.toInt p1 = 12 := by rw [e4]; rfl
            refine x_tabIn (dflt := 82) (lo := 8) (hi := 18) (offs := #[65, 82, 82, 82, 82, 82, 61, 59, 63, 67, 69]) (len := 59) (off := 82) (tgt := 83) (by decide +kernel) (by rw [ex]; decide) (by rw [ex]; decide) (by rw [ex]; rfl) (by decide) ?_
            refine g_iconst (z := (-1)) (v := (-1)) (by decide +kernel) rfl ?_
            exact x_iretp hf (by decide +kernel) rfl (Nat.le_refl _) (Nat.le_refl _)
          · rw [if_neg e4] at hf
            by_cases e5 : p1 = (13 : Int32)
            · rw [if_pos e5] at hf
              have ex : Int32.toInt p1 = 13 := by rw [e5]; rfl
              refine x_tabIn (dflt := 82) (lo := 8) (hi := 18) (offs := #[65, 82, 82, 82, 82, 82, 61, 59, 63, 67, 69]) (len := 59) (off := 82) (tgt := 83) (by decide +kernel) (by rw [ex]; decide) (by rw [ex]; decide) (by rw [ex]; rfl) (by decide) ?_
              refine g_iconst (z := (-1)) (v := (-1)) (by decide +kernel) rfl ?_
              exact x_iretp hf (by decide +kernel) rfl (Nat.le_refl _) (Nat.le_refl _)
            · rw [if_neg e5] at hf
              by_cases e6 : p1 = (14 : Int32)
              · rw [if_pos e6] at hf
                have ex : Int32.toInt p1 = 14 := by rw [e6]; rfl
                refine x_tabIn (dflt := 82) (lo := 8) (hi := 18) (offs := #[65, 82, 82, 82, 82, 82, 61, 59, 63, 67, 69]) (len := 59) (off := 61) (tgt := 62) (by decide +kernel) (by rw [ex]; decide) (by rw [ex]; decide) (by rw [ex]; rfl) (by decide) ?_
                refine g_iconst (z := 1) (v := 1) (by decide +kernel) rfl ?_
                exact x_iretp hf (by decide +kernel) rfl (Nat.le_refl _) (Nat.le_refl _)
              · rw [if_neg e6] at hf
                by_cases e7 : p1 = (15 : Int32)
                · rw [if_pos e7] at hf
                  have ex : Int32.toInt p1 = 15 := by rw [e7]; rfl
                  refine x_tabIn (dflt := 82) (lo := 8) (hi := 18) (offs := #[65, 82, 82, 82, 82, 82, 61, 59, 63, 67, 69]) (len := 59) (off := 59) (tgt := 60) (by decide +kernel) (by rw [ex]; decide) (by rw [ex]; decide) (by rw [ex]; rfl) (by decide) ?_
                  refine g_iconst (z := 0) (v := 0) (by decide +kernel) rfl ?_
                  exact x_iretp hf (by decide +kernel) rfl (Nat.le_refl _) (Nat.le_refl _)
                · rw [if_neg e7] at hf
                  by_cases e8 : p1 = (16 : Int32)
                  · rw [if_pos e8] at hf
                    have ex : Int32.toInt p1 = 16 := by rw [e8]; rfl
                    refine x_tabIn (dflt := 82) (lo := 8) (hi := 18) (offs := #[65, 82, 82, 82, 82, 82, 61, 59, 63, 67, 69]) (len := 59) (off := 63) (tgt := 64) (by decide +kernel) (by rw [ex]; decide) (by rw [ex]; decide) (by rw [ex]; rfl) (by decide) ?_
                    refine g_iconst (z := 2) (v := 2) (by decide +kernel) rfl ?_
                    exact x_iretp hf (by decide +kernel) rfl (Nat.le_refl _) (Nat.le_refl _)
                  · rw [if_neg e8] at hf
                    by_cases e9 : p1 = (17 : Int32)
                    · rw [if_pos e9] at hf
                      have ex : Int32.toInt p1 = 17 := by rw [e9]; rfl
                      refine x_tabIn (dflt := 82) (lo := 8) (hi := 18) (offs := #[65, 82, 82, 82, 82, 82, 61, 59, 63, 67, 69]) (len := 59) (off := 67) (tgt := 68) (by decide +kernel) (by rw [ex]; decide) (by rw [ex]; decide) (by rw [ex]; rfl) (by decide) ?_
                      refine g_iconst (z := 4) (v := 4) (by decide +kernel) rfl ?_
                      exact x_iretp hf (by decide +kernel) rfl (Nat.le_refl _) (Nat.le_refl _)
                    · rw [if_neg e9] at hf
                      by_cases e10 : p1 = (18 : Int32)
                      · rw [if_pos e10] at hf
                        have ex : Int32.toInt p1 = 18 := by rw [e10]; rfl
                        refine x_tabIn (dflt := 82) (lo := 8) (hi := 18) (offs := #[65, 82, 82, 82, 82, 82, 61, 59, 63, 67, 69]) (len := 59) (off := 69) (tgt := 70) (by decide +kernel) (by rw [ex]; decide) (by rw [ex]; decide) (by rw [ex]; rfl) (by decide) ?_
                        refine g_aload_n (i := 0) (by decide +kernel) rfl ?_
                        refine x_geti (hs.k k_136) F_Mod_161 (by decide +kernel) rfl ?_
                        refine x_if_ne (off := 7) (tgt := 81) hf (by decide +kernel) (by decide) (fun c1 hf => ?_) (fun c1 hf => ?_)
                        · refine g_iconst (z := (-1)) (v := (-1)) (by decide +kernel) rfl ?_
                          exact x_iretp hf (by decide +kernel) rfl (Nat.le_refl _) (Nat.le_refl _)
                        · refine g_iconst (z := 5) (v := 5) (by decide +kernel) rfl ?_
                          refine g_goto (off := 4) (tgt := 82) (by decide +kernel) (by decide) ?_
                          exact x_iretp hf (by decide +kernel) rfl (Nat.le_refl _) (Nat.le_refl _)
                      · rw [if_neg e10] at hf
                        refine x_tabOut (dflt := 82) (lo := 8) (hi := 18) (offs := #[65, 82, 82, 82, 82, 82, 61, 59, 63, 67, 69]) (len := 59) (tgt := 83) (by decide +kernel) (am_tabNe ⟨by decide, by decide⟩ (fun z hz => ?_)) (by decide) ?_
                        · have hz : z < 11 := hz
                          have : z = 0 ∨ z = 1 ∨ z = 2 ∨ z = 3 ∨ z = 4 ∨ z = 5 ∨ z = 6 ∨ z = 7 ∨ z = 8 ∨ z = 9 ∨ z = 10 := by omega
                          rcases this with rfl | rfl | rfl | rfl | rfl | rfl | rfl | rfl | rfl | rfl | rfl
                          · exact e0
                          · exact e1
                          · exact e2
                          · exact e3
                          · exact e4
                          · exact e5
                          · exact e6
                          · exact e7
                          · exact e8
                          · exact e9
                          · exact e10
                        · refine g_iconst (z := (-1)) (v := (-1)) (by decide +kernel) rfl ?_
                          exact x_iretp hf (by decide +kernel) rfl (Nat.le_refl _) (Nat.le_refl _)
def f_Mod_codes (p1 : Int32) (h : am_H) : Option (am_H) :=
  (if (h.2.1 136 11) = 0 then
    (am_rd (h.2.1 140) 1137 (236 : Int32)).bind fun x2 =>
    (am_wr h 140 1137 ((237 : Int32) + x2) p1).bind fun h3 =>
    (am_rd (h3.2.1 140) 1137 (236 : Int32)).bind fun x4 =>
    (am_wr h3 140 1137 (236 : Int32) (x4 + (1 : Int32))).bind fun h5 =>
    some h5
  else
    some h)
set_option maxRecDepth 100000 in
set_option maxHeartbeats 4000000 in
theorem t_Mod_codes {p1 : Int32} {h : am_H} (hs : am_Sh h)  {r : am_H} (hf : f_Mod_codes p1 h = some r) : am_Ct 0 M_Mod_codes [.ref 136, .int p1] h 0 0 (am_qV r) := by
  unfold f_Mod_codes at hf
  refine am_Ct.of (by decide) rfl (Nat.le_of_ble_eq_true rfl) (ls := [(0, .ref 136), (1, .int p1)]) rfl ?_
  refine g_aload_n (i := 0) (by decide +kernel) rfl ?_
  refine x_geti (hs.k k_136) F_Mod_141 (by decide +kernel) rfl ?_
  refine x_if_eq (off := 4) (tgt := 8) hf (by decide +kernel) (by decide) (fun c1 hf => ?_) (fun c1 hf => ?_)
  · refine g_aload_n (i := 0) (by decide +kernel) rfl ?_
    refine x_getr (hs.k k_136) F_Mod_24 (by decide +kernel) rfl (hs.r r_136_4) ?_
    refine g_sipush (z := 237) (v := 237) (by decide +kernel) rfl ?_
    refine g_aload_n (i := 0) (by decide +kernel) rfl ?_
    refine x_getr (hs.k k_136) F_Mod_24 (by decide +kernel) rfl (hs.r r_136_4) ?_
    refine g_sipush (z := 236) (v := 236) (by decide +kernel) rfl ?_
    refine x_iald hf (hs.k k_140) (by decide +kernel) (fun x2 hf => ?_)
    refine g_iadd (by decide +kernel) ?_
    refine g_iload_n (i := 1) (by decide +kernel) rfl ?_
    refine x_iast hf hs (hs.k k_140) (by decide +kernel) (fun h3 hf hs => ?_)
    refine g_aload_n (i := 0) (by decide +kernel) rfl ?_
    refine x_getr (hs.k k_136) F_Mod_24 (by decide +kernel) rfl (hs.r r_136_4) ?_
    refine g_sipush (z := 236) (v := 236) (by decide +kernel) rfl ?_
    refine g_dup2_11 (by decide +kernel) rfl rfl ?_
    refine x_iald hf (hs.k k_140) (by decide +kernel) (fun x4 hf => ?_)
    refine g_iconst (z := 1) (v := 1) (by decide +kernel) rfl ?_
    refine g_iadd (by decide +kernel) ?_
    refine x_iast hf hs (hs.k k_140) (by decide +kernel) (fun h5 hf hs => ?_)
    exact x_vret hf hs (by decide +kernel) rfl (Nat.le_refl _) (Nat.le_refl _)
  · exact x_vret hf hs (by decide +kernel) rfl (Nat.le_refl _) (Nat.le_refl _)
def f_Mod_goesIn (p1 : Int32) (h : am_H) : Option (Bool × am_H) :=
  ((if p1 = (6 : Int32) then
      (f_Mod_fails (4 : Int32) h).bind fun q2 =>
      some q2
    else
      some h) : Option (am_H)).bind fun m3 =>
  ((if (m3.2.1 136 11) = 0 then
      (f_Mod_next  m3).bind fun q5 =>
      some q5
    else
      some m3) : Option (am_H)).bind fun m6 =>
  (if (m6.2.1 136 11) = 0 then
    some (true, m6)
  else
    some (false, m6))
set_option maxRecDepth 100000 in
set_option maxHeartbeats 4000000 in
theorem t_Mod_goesIn {p1 : Int32} {h : am_H} (hs : am_Sh h)  {r : Bool × am_H} (hf : f_Mod_goesIn p1 h = some r) : am_Ct 6 M_Mod_goesIn [.ref 136, .int p1] h 0 0 (am_qB r) := by
  unfold f_Mod_goesIn at hf
  refine am_Ct.of (by decide) rfl (Nat.le_of_ble_eq_true rfl) (ls := [(0, .ref 136), (1, .int p1)]) rfl ?_
  refine g_iload_n (i := 1) (by decide +kernel) rfl ?_
  refine g_bipush (z := 6) (v := 6) (by decide +kernel) rfl ?_
  obtain ⟨m3, hm11, hf⟩ := Option.bind_eq_some_iff.mp hf
  refine am_cutS (J := 11) (ls' := [(0, .ref 136), (1, .int p1)]) (st' := []) (h' := m3) (fun hs => ?_) (fun K11 => ?_)
  · refine g_aload_n (i := 0) (by decide +kernel) rfl ?_
    refine x_geti (hs.k k_136) F_Mod_141 (by decide +kernel) rfl ?_
    obtain ⟨m6, hm22, hf⟩ := Option.bind_eq_some_iff.mp hf
    refine am_cutS (J := 22) (ls' := [(0, .ref 136), (1, .int p1)]) (st' := []) (h' := m6) (fun hs => ?_) (fun K22 => ?_)
    · refine g_aload_n (i := 0) (by decide +kernel) rfl ?_
      refine x_geti (hs.k k_136) F_Mod_141 (by decide +kernel) rfl ?_
      refine x_if_ne (off := 7) (tgt := 33) hf (by decide +kernel) (by decide) (fun c7 hf => ?_) (fun c7 hf => ?_)
      · refine g_iconst (z := 0) (v := 0) (by decide +kernel) rfl ?_
        exact x_zret rfl hf hs (by decide +kernel) rfl (Nat.le_refl _) (Nat.le_refl _)
      · refine g_iconst (z := 1) (v := 1) (by decide +kernel) rfl ?_
        refine g_goto (off := 4) (tgt := 34) (by decide +kernel) (by decide) ?_
        exact x_zret rfl hf hs (by decide +kernel) rfl (Nat.le_refl _) (Nat.le_refl _)
    refine x_if_ne (off := 7) (tgt := 22) hm22 (by decide +kernel) (by decide) (fun c4 hm22 => ?_) (fun c4 hm22 => ?_)
    · cases hm22
      exact am_G.forget (am_subp [0, 1] rfl) (K22 hs)
    · refine g_aload_n (i := 0) (by decide +kernel) rfl ?_
      refine x_callVV (as := []) Vi_Mod_next Vs_Mod_next (hs.k k_136) rfl hm22 (fun q hq => t_Mod_next hs  hq) Y_Mod_next L_Mod_150 (by decide +kernel) rfl rfl (Nat.le_of_ble_eq_true rfl) (by decide) (Nat.le_refl _) (Nat.le_refl _) (fun q5 hm22 hs => ?_)
      cases hm22
      exact am_G.forget (am_subp [0, 1] rfl) (K22 hs)
  refine x_icmp_ne (off := 8) (tgt := 11) hm11 (by decide +kernel) (by decide) (fun c1 hm11 => ?_) (fun c1 hm11 => ?_)
  · cases hm11
    exact am_G.forget (am_subp [0, 1] rfl) (K11 hs)
  · refine g_aload_n (i := 0) (by decide +kernel) rfl ?_
    refine g_iconst (z := 4) (v := 4) (by decide +kernel) rfl ?_
    refine x_callVV (as := [.int (4 : Int32)]) Vi_Mod_fails Vs_Mod_fails (hs.k k_136) rfl hm11 (fun q hq => t_Mod_fails hs  hq) Y_Mod_fails L_Mod_153 (by decide +kernel) rfl rfl (Nat.le_of_ble_eq_true rfl) (by decide) (Nat.le_refl _) (Nat.le_refl _) (fun q2 hm11 hs => ?_)
    cases hm11
    exact am_G.forget (am_subp [0, 1] rfl) (K11 hs)
