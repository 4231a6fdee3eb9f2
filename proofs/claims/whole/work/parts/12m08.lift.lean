def f_Mod_chanceOf_L11 (p1 : Int32) (p2 : Int32) (p3 : Int32) : Nat → Int64 → Int32 → am_H → Option (Int32 × am_H)
  | 0, _, _, _ => none
  | n + 1, v4, v6, h =>
    (if (9 : Int32) ≤ v6 then
      some (v6, h)
    else
      (am_wrJ h 156 9 v6 (if v6 = p2 then (1 : Int64) else (0 : Int64))).bind fun h4 =>
      f_Mod_chanceOf_L11 p1 p2 p3 n v4 (v6 + (1 : Int32)) h4)
set_option maxRecDepth 100000 in
set_option maxHeartbeats 4000000 in
theorem t_Mod_chanceOf_L11 {p1 : Int32} {p2 : Int32} {p3 : Int32}  {Q : Option Value → am_H → Prop} : ∀ (n : Nat) (v4 : Int64) (v6 : Int32) (h : am_H) (q : Int32 × am_H), am_Sh h → f_Mod_chanceOf_L11 p1 p2 p3 n v4 v6 h = some q → (am_Sh q.2 → am_G 3 M_Mod_chanceOf 0 0 Q 42 [(0, .ref 136), (1, .int p1), (2, .int p2), (3, .int p3), (4, .long v4), (6, .int q.1)] [] q.2 0 0) → am_G 3 M_Mod_chanceOf 0 0 Q 11 [(0, .ref 136), (1, .int p1), (2, .int p2), (3, .int p3), (4, .long v4), (6, .int v6)] [] h 0 0 := by
  intro n
  induction n with
  | zero =>
    intro v4 v6 h q hs hf kont
    rw [f_Mod_chanceOf_L11] at hf
    cases hf
  | succ n ih =>
    intro v4 v6 h q hs hf kont
    rw [f_Mod_chanceOf_L11] at hf
    refine g_iload (i := 6) (by decide +kernel) rfl ?_
    refine g_bipush (z := 9) (v := 9) (by decide +kernel) rfl ?_
    refine x_icmp_ge (off := 27) (tgt := 42) hf (by decide +kernel) (by decide) (fun c2 hf => ?_) (fun c2 hf => ?_)
    · cases hf
      exact am_G.forget (am_subp [0, 1, 2, 3, 4, 5] rfl) (kont hs)
    · refine g_aload_n (i := 0) (by decide +kernel) rfl ?_
      refine x_getr (hs.k k_136) F_Mod_76 (by decide +kernel) rfl (hs.r r_136_36) ?_
      refine g_iload (i := 6) (by decide +kernel) rfl ?_
      refine g_iload (i := 6) (by decide +kernel) rfl ?_
      refine g_iload_n (i := 2) (by decide +kernel) rfl ?_
      refine am_cut (J := 35) (ls' := [(0, .ref 136), (1, .int p1), (2, .int p2), (3, .int p3), (4, .long v4), (6, .int v6)]) (st' := [.long (if v6 = p2 then (1 : Int64) else (0 : Int64)), .int v6, .ref 156]) ?_ (fun K35 => ?_)
      · refine x_last hf hs (hs.k k_156) (by decide +kernel) (fun h4 hf hs => ?_)
        refine g_iinc (i := 6) (z := 1) (v := (v6 + (1 : Int32))) (by decide +kernel) rfl rfl rfl (by decide) (ls1 := [(0, .ref 136), (1, .int p1), (2, .int p2), (3, .int p3), (4, .long v4), (6, .int (v6 + (1 : Int32)))]) rfl ?_
        refine g_goto (off := (-28)) (tgt := 11) (by decide +kernel) (by decide) ?_
        exact am_G.forget (am_subp [0, 1, 2, 3, 4, 5] rfl) (ih _ _ _ _ hs hf kont)
      refine p_icmp_ne (off := 7) (tgt := 34) (by decide +kernel) (by decide) (fun c3 => ?_) (fun c3 => ?_)
      · refine g_lconst (z := 0) (v := 0) (by decide +kernel) rfl ?_
        have K1 := K35
        simp only [if_neg c3] at K1
        exact am_G.forget (am_subp [0, 1, 2, 3, 4, 5] rfl) K1
      · refine g_lconst (z := 1) (v := 1) (by decide +kernel) rfl ?_
        refine g_goto (off := 4) (tgt := 35) (by decide +kernel) (by decide) ?_
        have K1 := K35
        simp only [if_pos c3] at K1
        exact am_G.forget (am_subp [0, 1, 2, 3, 4, 5] rfl) K1
def f_Mod_chanceOf_L63 (p1 : Int32) (p2 : Int32) (p3 : Int32) : Nat → Int64 → Int32 → Int32 → am_H → Option (Int32 × am_H)
  | 0, _, _, _, _ => none
  | n + 1, v4, v6, v7, h =>
    (if (9 : Int32) ≤ v7 then
      some (v7, h)
    else
      (f_Mod_isSpot ((v7).toInt64) h).bind fun q8 =>
      (if q8 = true then
        (am_rd (h.2.1 137) 3411 (26 : Int32)).bind fun x10 =>
        ((if v7 = p2 then
            some v4
          else
            (am_rd (h.2.1 137) 3411 (4 : Int32)).bind fun x12 =>
            (f_Mod_bestOn v7 (x10 + v6) (1 : Int32) h).bind fun q13 =>
            (am_rd (h.2.1 137) 3411 (4 : Int32)).bind fun x14 =>
            (f_Mod_bestOn v7 (x10 + v6) (0 : Int32) h).bind fun q15 =>
            some ((((x12).toInt64) * q13) + (((((10 : Int32) - x14)).toInt64) * q15))) : Option (Int64)).bind fun m16 =>
        (am_wrJ h 157 9 v7 m16).bind fun h17 =>
        f_Mod_chanceOf_L63 p1 p2 p3 n v4 v6 (v7 + (1 : Int32)) h17
      else
        f_Mod_chanceOf_L63 p1 p2 p3 n v4 v6 (v7 + (1 : Int32)) h))
set_option maxRecDepth 100000 in
set_option maxHeartbeats 4000000 in
theorem t_Mod_chanceOf_L63 {p1 : Int32} {p2 : Int32} {p3 : Int32}  {Q : Option Value → am_H → Prop} : ∀ (n : Nat) (v4 : Int64) (v6 : Int32) (v7 : Int32) (h : am_H) (q : Int32 × am_H), am_Sh h → f_Mod_chanceOf_L63 p1 p2 p3 n v4 v6 v7 h = some q → (am_Sh q.2 → am_G 3 M_Mod_chanceOf 0 0 Q 157 [(0, .ref 136), (1, .int p1), (2, .int p2), (3, .int p3), (4, .long v4), (6, .int v6), (7, .int q.1)] [] q.2 0 0) → am_G 3 M_Mod_chanceOf 0 0 Q 63 [(0, .ref 136), (1, .int p1), (2, .int p2), (3, .int p3), (4, .long v4), (6, .int v6), (7, .int v7)] [] h 0 0 := by
  intro n
  induction n with
  | zero =>
    intro v4 v6 v7 h q hs hf kont
    rw [f_Mod_chanceOf_L63] at hf
    cases hf
  | succ n ih =>
    intro v4 v6 v7 h q hs hf kont
    rw [f_Mod_chanceOf_L63] at hf
    refine g_iload (i := 7) (by decide +kernel) rfl ?_
    refine g_bipush (z := 9) (v := 9) (by decide +kernel) rfl ?_
    refine x_icmp_ge (off := 90) (tgt := 157) hf (by decide +kernel) (by decide) (fun c7 hf => ?_) (fun c7 hf => ?_)
    · cases hf
      exact am_G.forget (am_subp [0, 1, 2, 3, 4, 5, 6] rfl) (kont hs)
    · refine g_aload_n (i := 0) (by decide +kernel) rfl ?_
      refine g_iload (i := 7) (by decide +kernel) rfl ?_
      refine g_i2l (by decide +kernel) ?_
      refine x_callVBp (as := [.long ((v7).toInt64)]) Vi_Mod_isSpot Vs_Mod_isSpot (hs.k k_136) rfl hf (fun q hq => t_Mod_isSpot hs  hq) Y_Mod_isSpot L_Mod_339 (by decide +kernel) rfl rfl (Nat.le_of_ble_eq_true rfl) (by decide) (Nat.le_refl _) (Nat.le_refl _) (fun q8 hf => ?_)
      refine x_ifb_ne (off := 6) (tgt := 83) hf (by decide +kernel) (by decide) (fun c9 hf => ?_) (fun c9 hf => ?_)
      · refine g_aload_n (i := 0) (by decide +kernel) rfl ?_
        refine x_getr (hs.k k_136) F_Mod_13 (by decide +kernel) rfl (hs.r r_136_1) ?_
        refine g_bipush (z := 26) (v := 26) (by decide +kernel) rfl ?_
        refine x_iald hf (hs.k k_137) (by decide +kernel) (fun x10 hf => ?_)
        refine g_iload (i := 6) (by decide +kernel) rfl ?_
        refine g_iadd (by decide +kernel) ?_
        refine g_istore (i := 8) (by decide +kernel) rfl (by decide) (ls1 := [(0, .ref 136), (1, .int p1), (2, .int p2), (3, .int p3), (4, .long v4), (6, .int v6), (7, .int v7), (8, .int (x10 + v6))]) rfl ?_
        refine g_aload_n (i := 0) (by decide +kernel) rfl ?_
        refine x_getr (hs.k k_136) F_Mod_79 (by decide +kernel) rfl (hs.r r_136_37) ?_
        refine g_iload (i := 7) (by decide +kernel) rfl ?_
        refine g_iload (i := 7) (by decide +kernel) rfl ?_
        refine g_iload_n (i := 2) (by decide +kernel) rfl ?_
        obtain ⟨m16, hm150, hf⟩ := Option.bind_eq_some_iff.mp hf
        refine am_cut (J := 150) (ls' := [(0, .ref 136), (1, .int p1), (2, .int p2), (3, .int p3), (4, .long v4), (6, .int v6), (7, .int v7), (8, .int (x10 + v6))]) (st' := [.long m16, .int v7, .ref 157]) ?_ (fun K150 => ?_)
        · refine x_last hf hs (hs.k k_157) (by decide +kernel) (fun h17 hf hs => ?_)
          refine g_iinc (i := 7) (z := 1) (v := (v7 + (1 : Int32))) (by decide +kernel) rfl rfl rfl (by decide) (ls1 := [(0, .ref 136), (1, .int p1), (2, .int p2), (3, .int p3), (4, .long v4), (6, .int v6), (7, .int (v7 + (1 : Int32))), (8, .int (x10 + v6))]) rfl ?_
          refine g_goto (off := (-91)) (tgt := 63) (by decide +kernel) (by decide) ?_
          exact am_G.forget (am_subp [0, 1, 2, 3, 4, 5, 6] rfl) (ih _ _ _ _ _ hs hf kont)
        refine x_icmp_ne (off := 8) (tgt := 112) hm150 (by decide +kernel) (by decide) (fun c11 hm150 => ?_) (fun c11 hm150 => ?_)
        · refine g_aload_n (i := 0) (by decide +kernel) rfl ?_
          refine x_getr (hs.k k_136) F_Mod_13 (by decide +kernel) rfl (hs.r r_136_1) ?_
          refine g_iconst (z := 4) (v := 4) (by decide +kernel) rfl ?_
          refine x_iald hm150 (hs.k k_137) (by decide +kernel) (fun x12 hm150 => ?_)
          refine g_i2l (by decide +kernel) ?_
          refine g_aload_n (i := 0) (by decide +kernel) rfl ?_
          refine g_iload (i := 7) (by decide +kernel) rfl ?_
          refine g_iload (i := 8) (by decide +kernel) rfl ?_
          refine g_iconst (z := 1) (v := 1) (by decide +kernel) rfl ?_
          refine x_callVJp (as := [.int v7, .int (x10 + v6), .int (1 : Int32)]) Vi_Mod_bestOn Vs_Mod_bestOn (hs.k k_136) rfl hm150 (fun q hq => t_Mod_bestOn hs  hq) Y_Mod_bestOn L_Mod_417 (by decide +kernel) rfl rfl (Nat.le_of_ble_eq_true rfl) (by decide) (Nat.le_refl _) (Nat.le_refl _) (fun q13 hm150 => ?_)
          refine g_lmul (by decide +kernel) ?_
          refine g_bipush (z := 10) (v := 10) (by decide +kernel) rfl ?_
          refine g_aload_n (i := 0) (by decide +kernel) rfl ?_
          refine x_getr (hs.k k_136) F_Mod_13 (by decide +kernel) rfl (hs.r r_136_1) ?_
          refine g_iconst (z := 4) (v := 4) (by decide +kernel) rfl ?_
          refine x_iald hm150 (hs.k k_137) (by decide +kernel) (fun x14 hm150 => ?_)
          refine g_isub (by decide +kernel) ?_
          refine g_i2l (by decide +kernel) ?_
          refine g_aload_n (i := 0) (by decide +kernel) rfl ?_
          refine g_iload (i := 7) (by decide +kernel) rfl ?_
          refine g_iload (i := 8) (by decide +kernel) rfl ?_
          refine g_iconst (z := 0) (v := 0) (by decide +kernel) rfl ?_
          refine x_callVJp (as := [.int v7, .int (x10 + v6), .int (0 : Int32)]) Vi_Mod_bestOn Vs_Mod_bestOn (hs.k k_136) rfl hm150 (fun q hq => t_Mod_bestOn hs  hq) Y_Mod_bestOn L_Mod_417 (by decide +kernel) rfl rfl (Nat.le_of_ble_eq_true rfl) (by decide) (Nat.le_refl _) (Nat.le_refl _) (fun q15 hm150 => ?_)
          refine g_lmul (by decide +kernel) ?_
          refine g_ladd (by decide +kernel) ?_
          cases hm150
          exact am_G.forget (am_subp [0, 1, 2, 3, 4, 5, 6, 7] rfl) K150
        · refine g_lload (i := 4) (by decide +kernel) rfl ?_
          refine g_goto (off := 41) (tgt := 150) (by decide +kernel) (by decide) ?_
          cases hm150
          exact am_G.forget (am_subp [0, 1, 2, 3, 4, 5, 6, 7] rfl) K150
      · refine g_goto (off := 71) (tgt := 151) (by decide +kernel) (by decide) ?_
        refine g_iinc (i := 7) (z := 1) (v := (v7 + (1 : Int32))) (by decide +kernel) rfl rfl rfl (by decide) (ls1 := [(0, .ref 136), (1, .int p1), (2, .int p2), (3, .int p3), (4, .long v4), (6, .int v6), (7, .int (v7 + (1 : Int32)))]) rfl ?_
        refine g_goto (off := (-91)) (tgt := 63) (by decide +kernel) (by decide) ?_
        exact am_G.forget (am_subp [0, 1, 2, 3, 4, 5, 6] rfl) (ih _ _ _ _ _ hs hf kont)
def f_Mod_chanceOf_L160 (p1 : Int32) (p2 : Int32) (p3 : Int32) : Nat → Int64 → Int32 → Int32 → am_H → Option (Int32 × am_H)
  | 0, _, _, _, _ => none
  | n + 1, v4, v6, v7, h =>
    (if (9 : Int32) ≤ v7 then
      some (v7, h)
    else
      (am_rd (h.2.2.1 157) 9 v7).bind fun x20 =>
      (am_wrJ h 156 9 v7 x20).bind fun h21 =>
      f_Mod_chanceOf_L160 p1 p2 p3 n v4 v6 (v7 + (1 : Int32)) h21)
set_option maxRecDepth 100000 in
set_option maxHeartbeats 4000000 in
theorem t_Mod_chanceOf_L160 {p1 : Int32} {p2 : Int32} {p3 : Int32}  {Q : Option Value → am_H → Prop} : ∀ (n : Nat) (v4 : Int64) (v6 : Int32) (v7 : Int32) (h : am_H) (q : Int32 × am_H), am_Sh h → f_Mod_chanceOf_L160 p1 p2 p3 n v4 v6 v7 h = some q → (am_Sh q.2 → am_G 3 M_Mod_chanceOf 0 0 Q 187 [(0, .ref 136), (1, .int p1), (2, .int p2), (3, .int p3), (4, .long v4), (6, .int v6), (7, .int q.1)] [] q.2 0 0) → am_G 3 M_Mod_chanceOf 0 0 Q 160 [(0, .ref 136), (1, .int p1), (2, .int p2), (3, .int p3), (4, .long v4), (6, .int v6), (7, .int v7)] [] h 0 0 := by
  intro n
  induction n with
  | zero =>
    intro v4 v6 v7 h q hs hf kont
    rw [f_Mod_chanceOf_L160] at hf
    cases hf
  | succ n ih =>
    intro v4 v6 v7 h q hs hf kont
    rw [f_Mod_chanceOf_L160] at hf
    refine g_iload (i := 7) (by decide +kernel) rfl ?_
    refine g_bipush (z := 9) (v := 9) (by decide +kernel) rfl ?_
    refine x_icmp_ge (off := 23) (tgt := 187) hf (by decide +kernel) (by decide) (fun c19 hf => ?_) (fun c19 hf => ?_)
    · cases hf
      exact am_G.forget (am_subp [0, 1, 2, 3, 4, 5, 6] rfl) (kont hs)
    · refine g_aload_n (i := 0) (by decide +kernel) rfl ?_
      refine x_getr (hs.k k_136) F_Mod_76 (by decide +kernel) rfl (hs.r r_136_36) ?_
      refine g_iload (i := 7) (by decide +kernel) rfl ?_
      refine g_aload_n (i := 0) (by decide +kernel) rfl ?_
      refine x_getr (hs.k k_136) F_Mod_79 (by decide +kernel) rfl (hs.r r_136_37) ?_
      refine g_iload (i := 7) (by decide +kernel) rfl ?_
      refine x_lald hf (hs.k k_157) (by decide +kernel) (fun x20 hf => ?_)
      refine x_last hf hs (hs.k k_156) (by decide +kernel) (fun h21 hf hs => ?_)
      refine g_iinc (i := 7) (z := 1) (v := (v7 + (1 : Int32))) (by decide +kernel) rfl rfl rfl (by decide) (ls1 := [(0, .ref 136), (1, .int p1), (2, .int p2), (3, .int p3), (4, .long v4), (6, .int v6), (7, .int (v7 + (1 : Int32)))]) rfl ?_
      refine g_goto (off := (-24)) (tgt := 160) (by decide +kernel) (by decide) ?_
      exact am_G.forget (am_subp [0, 1, 2, 3, 4, 5, 6] rfl) (ih _ _ _ _ _ hs hf kont)
def f_Mod_chanceOf_L47 (p1 : Int32) (p2 : Int32) (p3 : Int32) : Nat → Int64 → Int32 → am_H → Option (Int64 × Int32 × am_H)
  | 0, _, _, _ => none
  | n + 1, v4, v6, h =>
    (if v6 < 0 then
      some (v4, v6, h)
    else
      (f_Mod_chanceOf_L63 p1 p2 p3 am_fu (v4 * (10 : Int64)) v6 (0 : Int32) h).bind fun q18 =>
      (f_Mod_chanceOf_L160 p1 p2 p3 am_fu (v4 * (10 : Int64)) v6 (0 : Int32) q18.2).bind fun q22 =>
      f_Mod_chanceOf_L47 p1 p2 p3 n (v4 * (10 : Int64)) (v6 + (-1 : Int32)) q22.2)
set_option maxRecDepth 100000 in
set_option maxHeartbeats 4000000 in
theorem t_Mod_chanceOf_L47 {p1 : Int32} {p2 : Int32} {p3 : Int32}  {Q : Option Value → am_H → Prop} : ∀ (n : Nat) (v4 : Int64) (v6 : Int32) (h : am_H) (q : Int64 × Int32 × am_H), am_Sh h → f_Mod_chanceOf_L47 p1 p2 p3 n v4 v6 h = some q → (am_Sh q.2.2 → am_G 3 M_Mod_chanceOf 0 0 Q 193 [(0, .ref 136), (1, .int p1), (2, .int p2), (3, .int p3), (4, .long q.1), (6, .int q.2.1)] [] q.2.2 0 0) → am_G 3 M_Mod_chanceOf 0 0 Q 47 [(0, .ref 136), (1, .int p1), (2, .int p2), (3, .int p3), (4, .long v4), (6, .int v6)] [] h 0 0 := by
  intro n
  induction n with
  | zero =>
    intro v4 v6 h q hs hf kont
    rw [f_Mod_chanceOf_L47] at hf
    cases hf
  | succ n ih =>
    intro v4 v6 h q hs hf kont
    rw [f_Mod_chanceOf_L47] at hf
    refine g_iload (i := 6) (by decide +kernel) rfl ?_
    refine x_if_lt (off := 144) (tgt := 193) hf (by decide +kernel) (by decide) (fun c6 hf => ?_) (fun c6 hf => ?_)
    · cases hf
      exact am_G.forget (am_subp [0, 1, 2, 3, 4, 5] rfl) (kont hs)
    · refine g_lload (i := 4) (by decide +kernel) rfl ?_
      refine g_ldc2 (by decide +kernel) C_Mod_283 ?_
      refine g_lmul (by decide +kernel) ?_
      refine g_lstore (i := 4) (by decide +kernel) rfl (by decide) (ls1 := [(0, .ref 136), (1, .int p1), (2, .int p2), (3, .int p3), (4, .long (v4 * (10 : Int64))), (6, .int v6)]) rfl ?_
      refine g_iconst (z := 0) (v := 0) (by decide +kernel) rfl ?_
      refine g_istore (i := 7) (by decide +kernel) rfl (by decide) (ls1 := [(0, .ref 136), (1, .int p1), (2, .int p2), (3, .int p3), (4, .long (v4 * (10 : Int64))), (6, .int v6), (7, .int (0 : Int32))]) rfl ?_
      obtain ⟨q18, hqq18, hf⟩ := Option.bind_eq_some_iff.mp hf
      refine am_G.forget (am_subp [0, 1, 2, 3, 4, 5, 6] rfl) (t_Mod_chanceOf_L63  am_fu _ _ _ _ q18 hs hqq18 (fun hs => ?_))
      refine g_iconst (z := 0) (v := 0) (by decide +kernel) rfl ?_
      refine g_istore (i := 7) (by decide +kernel) rfl (by decide) (ls1 := [(0, .ref 136), (1, .int p1), (2, .int p2), (3, .int p3), (4, .long (v4 * (10 : Int64))), (6, .int v6), (7, .int (0 : Int32))]) rfl ?_
      obtain ⟨q22, hqq22, hf⟩ := Option.bind_eq_some_iff.mp hf
      refine am_G.forget (am_subp [0, 1, 2, 3, 4, 5, 6] rfl) (t_Mod_chanceOf_L160  am_fu _ _ _ _ q22 hs hqq22 (fun hs => ?_))
      refine g_iinc (i := 6) (z := (-1)) (v := (v6 + (-1 : Int32))) (by decide +kernel) rfl rfl rfl (by decide) (ls1 := [(0, .ref 136), (1, .int p1), (2, .int p2), (3, .int p3), (4, .long (v4 * (10 : Int64))), (6, .int (v6 + (-1 : Int32))), (7, .int q22.1)]) rfl ?_
      refine g_goto (off := (-143)) (tgt := 47) (by decide +kernel) (by decide) ?_
      exact am_G.forget (am_subp [0, 1, 2, 3, 4, 5] rfl) (ih _ _ _ _ hs hf kont)
def f_Mod_chanceOf (p1 : Int32) (p2 : Int32) (p3 : Int32) (h : am_H) : Option (Int64 × am_H) :=
  (f_Mod_laysLets p1 h).bind fun q1 =>
  (f_Mod_chanceOf_L11 p1 p2 p3 am_fu (1 : Int64) (0 : Int32) q1).bind fun q5 =>
  (f_Mod_chanceOf_L47 p1 p2 p3 am_fu (1 : Int64) (p3 - (1 : Int32)) q5.2).bind fun q23 =>
  (am_rd (q23.2.2.2.1 137) 3411 ((35 : Int32) + p1)).bind fun x24 =>
  (am_rd (q23.2.2.2.2.1 156) 9 x24).bind fun x25 =>
  some (x25, q23.2.2)
set_option maxRecDepth 100000 in
set_option maxHeartbeats 4000000 in
theorem t_Mod_chanceOf {p1 : Int32} {p2 : Int32} {p3 : Int32} {h : am_H} (hs : am_Sh h)  {r : Int64 × am_H} (hf : f_Mod_chanceOf p1 p2 p3 h = some r) : am_Ct 3 M_Mod_chanceOf [.ref 136, .int p1, .int p2, .int p3] h 0 0 (am_qJ r) := by
  unfold f_Mod_chanceOf at hf
  refine am_Ct.of (by decide) rfl (Nat.le_of_ble_eq_true rfl) (ls := [(0, .ref 136), (1, .int p1), (2, .int p2), (3, .int p3)]) rfl ?_
  refine g_aload_n (i := 0) (by decide +kernel) rfl ?_
  refine g_iload_n (i := 1) (by decide +kernel) rfl ?_
  refine x_callVV (as := [.int p1]) Vi_Mod_laysLets Vs_Mod_laysLets (hs.k k_136) rfl hf (fun q hq => t_Mod_laysLets hs  hq) Y_Mod_laysLets L_Mod_333 (by decide +kernel) rfl rfl (Nat.le_of_ble_eq_true rfl) (by decide) (Nat.le_refl _) (Nat.le_refl _) (fun q1 hf hs => ?_)
  refine g_lconst (z := 1) (v := 1) (by decide +kernel) rfl ?_
  refine g_lstore (i := 4) (by decide +kernel) rfl (by decide) (ls1 := [(0, .ref 136), (1, .int p1), (2, .int p2), (3, .int p3), (4, .long (1 : Int64))]) rfl ?_
  refine g_iconst (z := 0) (v := 0) (by decide +kernel) rfl ?_
  refine g_istore (i := 6) (by decide +kernel) rfl (by decide) (ls1 := [(0, .ref 136), (1, .int p1), (2, .int p2), (3, .int p3), (4, .long (1 : Int64)), (6, .int (0 : Int32))]) rfl ?_
  obtain ⟨q5, hqq5, hf⟩ := Option.bind_eq_some_iff.mp hf
  refine am_G.forget (am_subp [0, 1, 2, 3, 4, 5] rfl) (t_Mod_chanceOf_L11  am_fu _ _ _ q5 hs hqq5 (fun hs => ?_))
  refine g_iload_n (i := 3) (by decide +kernel) rfl ?_
  refine g_iconst (z := 1) (v := 1) (by decide +kernel) rfl ?_
  refine g_isub (by decide +kernel) ?_
  refine g_istore (i := 6) (by decide +kernel) rfl (by decide) (ls1 := [(0, .ref 136), (1, .int p1), (2, .int p2), (3, .int p3), (4, .long (1 : Int64)), (6, .int (p3 - (1 : Int32)))]) rfl ?_
  obtain ⟨q23, hqq23, hf⟩ := Option.bind_eq_some_iff.mp hf
  refine am_G.forget (am_subp [0, 1, 2, 3, 4, 5] rfl) (t_Mod_chanceOf_L47  am_fu _ _ _ q23 hs hqq23 (fun hs => ?_))
  refine g_aload_n (i := 0) (by decide +kernel) rfl ?_
  refine x_getr (hs.k k_136) F_Mod_76 (by decide +kernel) rfl (hs.r r_136_36) ?_
  refine g_aload_n (i := 0) (by decide +kernel) rfl ?_
  refine x_getr (hs.k k_136) F_Mod_13 (by decide +kernel) rfl (hs.r r_136_1) ?_
  refine g_bipush (z := 35) (v := 35) (by decide +kernel) rfl ?_
  refine g_iload_n (i := 1) (by decide +kernel) rfl ?_
  refine g_iadd (by decide +kernel) ?_
  refine x_iald hf (hs.k k_137) (by decide +kernel) (fun x24 hf => ?_)
  refine x_lald hf (hs.k k_156) (by decide +kernel) (fun x25 hf => ?_)
  exact x_lret hf hs (by decide +kernel) rfl (Nat.le_refl _) (Nat.le_refl _)
def f_Mod_tens_L4 (p0 : Int32) : Nat → Int64 → Int32 → am_H → Option (Int64 × Int32)
  | 0, _, _, _ => none
  | n + 1, v1, v3, h =>
    (if p0 ≤ v3 then
      some (v1, v3)
    else
      f_Mod_tens_L4 p0 n (v1 * (10 : Int64)) (v3 + (1 : Int32)) h)
set_option maxRecDepth 100000 in
set_option maxHeartbeats 4000000 in
theorem t_Mod_tens_L4 {p0 : Int32}  {Q : Option Value → am_H → Prop} : ∀ (n : Nat) (v1 : Int64) (v3 : Int32) (h : am_H) (q : Int64 × Int32), am_Sh h → f_Mod_tens_L4 p0 n v1 v3 h = some q → (am_G 0 M_Mod_tens 0 0 Q 21 [(0, .int p0), (1, .long q.1), (3, .int q.2)] [] h 0 0) → am_G 0 M_Mod_tens 0 0 Q 4 [(0, .int p0), (1, .long v1), (3, .int v3)] [] h 0 0 := by
  intro n
  induction n with
  | zero =>
    intro v1 v3 h q hs hf kont
    rw [f_Mod_tens_L4] at hf
    cases hf
  | succ n ih =>
    intro v1 v3 h q hs hf kont
    rw [f_Mod_tens_L4] at hf
    refine g_iload_n (i := 3) (by decide +kernel) rfl ?_
    refine g_iload_n (i := 0) (by decide +kernel) rfl ?_
    refine x_icmp_ge (off := 15) (tgt := 21) hf (by decide +kernel) (by decide) (fun c1 hf => ?_) (fun c1 hf => ?_)
    · cases hf
      exact am_G.forget (am_subp [0, 1, 2] rfl) kont
    · refine g_lload_n (i := 1) (by decide +kernel) rfl ?_
      refine g_ldc2 (by decide +kernel) C_Mod_283 ?_
      refine g_lmul (by decide +kernel) ?_
      refine g_lstore_n (i := 1) (by decide +kernel) rfl (by decide) (ls1 := [(0, .int p0), (1, .long (v1 * (10 : Int64))), (3, .int v3)]) rfl ?_
      refine g_iinc (i := 3) (z := 1) (v := (v3 + (1 : Int32))) (by decide +kernel) rfl rfl rfl (by decide) (ls1 := [(0, .int p0), (1, .long (v1 * (10 : Int64))), (3, .int (v3 + (1 : Int32)))]) rfl ?_
      refine g_goto (off := (-14)) (tgt := 4) (by decide +kernel) (by decide) ?_
      exact am_G.forget (am_subp [0, 1, 2] rfl) (ih _ _ _ _ hs hf kont)
def f_Mod_tens (p0 : Int32) (h : am_H) : Option (Int64) :=
  (f_Mod_tens_L4 p0 am_fu (1 : Int64) (0 : Int32) h).bind fun q2 =>
  some q2.1
set_option maxRecDepth 100000 in
set_option maxHeartbeats 4000000 in
theorem t_Mod_tens {p0 : Int32} {h : am_H} (hs : am_Sh h)  {r : Int64} (hf : f_Mod_tens p0 h = some r) : am_Ct 0 M_Mod_tens [.int p0] h 0 0 (am_pJ h r) := by
  unfold f_Mod_tens at hf
  refine am_Ct.of (by decide) rfl (Nat.le_of_ble_eq_true rfl) (ls := [(0, .int p0)]) rfl ?_
  refine g_lconst (z := 1) (v := 1) (by decide +kernel) rfl ?_
  refine g_lstore_n (i := 1) (by decide +kernel) rfl (by decide) (ls1 := [(0, .int p0), (1, .long (1 : Int64))]) rfl ?_
  refine g_iconst (z := 0) (v := 0) (by decide +kernel) rfl ?_
  refine g_istore_n (i := 3) (by decide +kernel) rfl (by decide) (ls1 := [(0, .int p0), (1, .long (1 : Int64)), (3, .int (0 : Int32))]) rfl ?_
  obtain ⟨q2, hqq2, hf⟩ := Option.bind_eq_some_iff.mp hf
  refine am_G.forget (am_subp [0, 1, 2] rfl) (t_Mod_tens_L4  am_fu _ _ _ q2 hs hqq2 ?_)
  refine g_lload_n (i := 1) (by decide +kernel) rfl ?_
  exact x_lretp hf (by decide +kernel) rfl (Nat.le_refl _) (Nat.le_refl _)
def am_M_Wc (t : Nat) : am_M := match t with
  | _ => M_Mod_common
def b_Mod_common (rec : Nat → Int64 → Int64 → am_H → Option (Int64)) (p0 : Int64) (p2 : Int64) (h : am_H) : Option (Int64) :=
  (if (lg_cmp p2 (0 : Int64)) = 0 then
    some p0
  else
    (am_mdJ p0 p2).bind fun x2 =>
    (rec 0 p2 x2 h).bind fun q3 =>
    some q3)
set_option maxRecDepth 100000 in
set_option maxHeartbeats 4000000 in
theorem tb_Mod_common {rec : Nat → Int64 → Int64 → am_H → Option (Int64)} {e : Nat} (hrec : ∀ (t : Nat) (a0 : Int64) (a1 : Int64) (h : am_H), am_Sh h → ∀ q, rec t a0 a1 h = some q → am_Ct e (am_M_Wc t) [.long a0, .long a1] h 0 0 (am_pJ h q)) (he : 0 ≤ e) {p0 : Int64} {p2 : Int64} {h : am_H} (hs : am_Sh h)  {r : Int64} (hf : b_Mod_common rec p0 p2 h = some r) : am_Ct (e + 1) M_Mod_common [.long p0, .long p2] h 0 0 (am_pJ h r) := by
  unfold b_Mod_common at hf
  refine am_Ct.of (by decide) rfl (Nat.le_of_ble_eq_true rfl) (ls := [(0, .long p0), (2, .long p2)]) rfl ?_
  refine g_lload_n (i := 2) (by decide +kernel) rfl ?_
  refine g_lconst (z := 0) (v := 0) (by decide +kernel) rfl ?_
  refine g_lcmp (by decide +kernel) ?_
  refine x_if_ne (off := 7) (tgt := 10) hf (by decide +kernel) (by decide) (fun c1 hf => ?_) (fun c1 hf => ?_)
  · refine g_lload_n (i := 2) (by decide +kernel) rfl ?_
    refine g_lload_n (i := 0) (by decide +kernel) rfl ?_
    refine g_lload_n (i := 2) (by decide +kernel) rfl ?_
    refine x_lrem hf (by decide +kernel) (fun x2 hf => ?_)
    refine x_callSJp (as := [.long p2, .long x2]) St_Mod_common hf (fun q hq => hrec 0 _ _ _ hs q hq) Y_Mod_common L_Mod_421 (by decide +kernel) rfl rfl (Nat.le_of_ble_eq_true rfl) (by omega) (Nat.le_refl _) (Nat.le_refl _) (fun q3 hf => ?_)
    exact x_lretp hf (by decide +kernel) rfl (Nat.le_refl _) (Nat.le_refl _)
  · refine g_lload_n (i := 0) (by decide +kernel) rfl ?_
    refine g_goto (off := 10) (tgt := 17) (by decide +kernel) (by decide) ?_
    exact x_lretp hf (by decide +kernel) rfl (Nat.le_refl _) (Nat.le_refl _)
def f_Wc : Nat → Nat → Int64 → Int64 → am_H → Option (Int64)
  | 0, _, _, _, _ => none
  | n + 1, t, a0, a1, h => match t with
    | _ => b_Mod_common (f_Wc n) a0 a1 h
theorem t_Wc : ∀ (n t : Nat) (a0 : Int64) (a1 : Int64) (h : am_H), am_Sh h → ∀ q, f_Wc n t a0 a1 h = some q → am_Ct (0 + n) (am_M_Wc t) [.long a0, .long a1] h 0 0 (am_pJ h q)
  | 0, t, a0, a1, h, hs, q, hq => by
    rw [f_Wc] at hq
    cases hq
  | n + 1, t, a0, a1, h, hs, q, hq => by
    have hrec := t_Wc n
    match t, hq with
    | _ + 0, hq => exact tb_Mod_common hrec (by omega) hs hq
def f_Mod_common (a0 : Int64) (a1 : Int64) (h : am_H) : Option (Int64) := f_Wc 60 0 a0 a1 h
theorem t_Mod_common {a0 : Int64} {a1 : Int64} {h : am_H} (hs : am_Sh h) {r : Int64} (hf : f_Mod_common a0 a1 h = some r) : am_Ct 60 M_Mod_common [.long a0, .long a1] h 0 0 (am_pJ h r) := t_Wc 60 0 a0 a1 h hs r hf
def f_Mod_chance (p1 : Int32) (p2 : Int32) (p3 : Int32) (p4 : Int32) (h : am_H) : Option (Int64 × am_H) :=
  am_let (am_sI h 136 0 (0 : Int32)) fun h1 =>
  (f_Mod_isPerson ((p1).toInt64) h1).bind fun q2 =>
  (if q2 = true then
    (f_Mod_isSpot ((p2).toInt64) h1).bind fun q4 =>
    (if q4 = true then
      (f_Mod_within ((p4).toInt64) (0 : Int64) (1 : Int64) h1).bind fun q6 =>
      (if q6 = true then
        (f_Mod_within ((p3).toInt64) (0 : Int64) (9 : Int64) h1).bind fun q8 =>
        (if q8 = true then
          (f_Mod_chanceOf p1 p2 p3 h1).bind fun q10 =>
          (f_Mod_tens p3 q10.2).bind fun q11 =>
          (f_Mod_common q10.1 q11 q10.2).bind fun q12 =>
          (if p4 = 0 then
            (am_dvJ q10.1 q12).bind fun x16 =>
            some (x16, q10.2)
          else
            (f_Mod_tens p3 q10.2).bind fun q14 =>
            (am_dvJ q14 q12).bind fun x15 =>
            some (x15, q10.2))
        else
          some ((-3 : Int64), h1))
      else
        some ((-2 : Int64), h1))
    else
      some ((-2 : Int64), h1))
  else
    some ((-2 : Int64), h1))
set_option maxRecDepth 100000 in
set_option maxHeartbeats 4000000 in
theorem t_Mod_chance {p1 : Int32} {p2 : Int32} {p3 : Int32} {p4 : Int32} {h : am_H} (hs : am_Sh h)  {r : Int64 × am_H} (hf : f_Mod_chance p1 p2 p3 p4 h = some r) : am_Ct 61 M_Mod_chance [.ref 136, .int p1, .int p2, .int p3, .int p4] h 0 0 (am_qJ r) := by
  unfold f_Mod_chance at hf
  refine am_Ct.of (by decide) rfl (Nat.le_of_ble_eq_true rfl) (ls := [(0, .ref 136), (1, .int p1), (2, .int p2), (3, .int p3), (4, .int p4)]) rfl ?_
  refine g_aload_n (i := 0) (by decide +kernel) rfl ?_
  refine g_iconst (z := 0) (v := 0) (by decide +kernel) rfl ?_
  refine x_puti hf hs (hs.k k_136) F_Mod_1 (by decide +kernel) rfl rfl rfl rfl (fun h1 hf hs => ?_)
  refine g_aload_n (i := 0) (by decide +kernel) rfl ?_
  refine g_iload_n (i := 1) (by decide +kernel) rfl ?_
  refine g_i2l (by decide +kernel) ?_
  refine x_callVBp (as := [.long ((p1).toInt64)]) Vi_Mod_isPerson Vs_Mod_isPerson (hs.k k_136) rfl hf (fun q hq => t_Mod_isPerson hs  hq) Y_Mod_isPerson L_Mod_245 (by decide +kernel) rfl rfl (Nat.le_of_ble_eq_true rfl) (by decide) (Nat.le_refl _) (Nat.le_refl _) (fun q2 hf => ?_)
  refine x_ifb_eq (off := 23) (tgt := 34) hf (by decide +kernel) (by decide) (fun c3 hf => ?_) (fun c3 hf => ?_)
  · refine g_ldc2 (by decide +kernel) C_Mod_348 ?_
    exact x_lret hf hs (by decide +kernel) rfl (Nat.le_refl _) (Nat.le_refl _)
  · refine g_aload_n (i := 0) (by decide +kernel) rfl ?_
    refine g_iload_n (i := 2) (by decide +kernel) rfl ?_
    refine g_i2l (by decide +kernel) ?_
    refine x_callVBp (as := [.long ((p2).toInt64)]) Vi_Mod_isSpot Vs_Mod_isSpot (hs.k k_136) rfl hf (fun q hq => t_Mod_isSpot hs  hq) Y_Mod_isSpot L_Mod_339 (by decide +kernel) rfl rfl (Nat.le_of_ble_eq_true rfl) (by decide) (Nat.le_refl _) (Nat.le_refl _) (fun q4 hf => ?_)
    refine x_ifb_eq (off := 14) (tgt := 34) hf (by decide +kernel) (by decide) (fun c5 hf => ?_) (fun c5 hf => ?_)
    · refine g_ldc2 (by decide +kernel) C_Mod_348 ?_
      exact x_lret hf hs (by decide +kernel) rfl (Nat.le_refl _) (Nat.le_refl _)
    · refine g_iload (i := 4) (by decide +kernel) rfl ?_
      refine g_i2l (by decide +kernel) ?_
      refine g_lconst (z := 0) (v := 0) (by decide +kernel) rfl ?_
      refine g_lconst (z := 1) (v := 1) (by decide +kernel) rfl ?_
      refine x_callSBp (as := [.long ((p4).toInt64), .long (0 : Int64), .long (1 : Int64)]) St_Mod_within hf (fun q hq => t_Mod_within hs  hq) Y_Mod_within L_Mod_157 (by decide +kernel) rfl rfl (Nat.le_of_ble_eq_true rfl) (by decide) (Nat.le_refl _) (Nat.le_refl _) (fun q6 hf => ?_)
      refine x_ifb_ne (off := 7) (tgt := 38) hf (by decide +kernel) (by decide) (fun c7 hf => ?_) (fun c7 hf => ?_)
      · refine g_iload_n (i := 3) (by decide +kernel) rfl ?_
        refine g_i2l (by decide +kernel) ?_
        refine g_lconst (z := 0) (v := 0) (by decide +kernel) rfl ?_
        refine g_ldc2 (by decide +kernel) C_Mod_295 ?_
        refine x_callSBp (as := [.long ((p3).toInt64), .long (0 : Int64), .long (9 : Int64)]) St_Mod_within hf (fun q hq => t_Mod_within hs  hq) Y_Mod_within L_Mod_157 (by decide +kernel) rfl rfl (Nat.le_of_ble_eq_true rfl) (by decide) (Nat.le_refl _) (Nat.le_refl _) (fun q8 hf => ?_)
        refine x_ifb_ne (off := 7) (tgt := 54) hf (by decide +kernel) (by decide) (fun c9 hf => ?_) (fun c9 hf => ?_)
        · refine g_aload_n (i := 0) (by decide +kernel) rfl ?_
          refine g_iload_n (i := 1) (by decide +kernel) rfl ?_
          refine g_iload_n (i := 2) (by decide +kernel) rfl ?_
          refine g_iload_n (i := 3) (by decide +kernel) rfl ?_
          refine x_callVJ (as := [.int p1, .int p2, .int p3]) Vi_Mod_chanceOf Vs_Mod_chanceOf (hs.k k_136) rfl hf (fun q hq => t_Mod_chanceOf hs  hq) Y_Mod_chanceOf L_Mod_425 (by decide +kernel) rfl rfl (Nat.le_of_ble_eq_true rfl) (by decide) (Nat.le_refl _) (Nat.le_refl _) (fun q10 hf hs => ?_)
          refine g_lstore (i := 5) (by decide +kernel) rfl (by decide) (ls1 := [(0, .ref 136), (1, .int p1), (2, .int p2), (3, .int p3), (4, .int p4), (5, .long q10.1)]) rfl ?_
          refine g_lload (i := 5) (by decide +kernel) rfl ?_
          refine g_iload_n (i := 3) (by decide +kernel) rfl ?_
          refine x_callSJp (as := [.int p3]) St_Mod_tens hf (fun q hq => t_Mod_tens hs  hq) Y_Mod_tens L_Mod_428 (by decide +kernel) rfl rfl (Nat.le_of_ble_eq_true rfl) (by decide) (Nat.le_refl _) (Nat.le_refl _) (fun q11 hf => ?_)
          refine x_callSJp (as := [.long q10.1, .long q11]) St_Mod_common hf (fun q hq => t_Mod_common hs  hq) Y_Mod_common L_Mod_421 (by decide +kernel) rfl rfl (Nat.le_of_ble_eq_true rfl) (by decide) (Nat.le_refl _) (Nat.le_refl _) (fun q12 hf => ?_)
          refine g_lstore (i := 7) (by decide +kernel) rfl (by decide) (ls1 := [(0, .ref 136), (1, .int p1), (2, .int p2), (3, .int p3), (4, .int p4), (5, .long q10.1), (7, .long q12)]) rfl ?_
          refine g_iload (i := 4) (by decide +kernel) rfl ?_
          refine x_if_ne (off := 8) (tgt := 84) hf (by decide +kernel) (by decide) (fun c13 hf => ?_) (fun c13 hf => ?_)
          · refine g_iload_n (i := 3) (by decide +kernel) rfl ?_
            refine x_callSJp (as := [.int p3]) St_Mod_tens hf (fun q hq => t_Mod_tens hs  hq) Y_Mod_tens L_Mod_428 (by decide +kernel) rfl rfl (Nat.le_of_ble_eq_true rfl) (by decide) (Nat.le_refl _) (Nat.le_refl _) (fun q14 hf => ?_)
            refine g_lload (i := 7) (by decide +kernel) rfl ?_
            refine x_ldiv hf (by decide +kernel) (fun x15 hf => ?_)
            exact x_lret hf hs (by decide +kernel) rfl (Nat.le_refl _) (Nat.le_refl _)
          · refine g_lload (i := 5) (by decide +kernel) rfl ?_
            refine g_goto (off := 7) (tgt := 88) (by decide +kernel) (by decide) ?_
            refine g_lload (i := 7) (by decide +kernel) rfl ?_
            refine x_ldiv hf (by decide +kernel) (fun x16 hf => ?_)
            exact x_lret hf hs (by decide +kernel) rfl (Nat.le_refl _) (Nat.le_refl _)
        · refine g_ldc2 (by decide +kernel) C_Mod_352 ?_
          exact x_lret hf hs (by decide +kernel) rfl (Nat.le_refl _) (Nat.le_refl _)
      · refine g_ldc2 (by decide +kernel) C_Mod_348 ?_
        exact x_lret hf hs (by decide +kernel) rfl (Nat.le_refl _) (Nat.le_refl _)
def f_Mod_likely_L44 (p1 : Int32) (p2 : Int32) (p3 : Int32) : Nat → Int32 → am_H → Option (Int32 × am_H)
  | 0, _, _ => none
  | n + 1, v4, h =>
    (if (9 : Int32) < v4 then
      some ((-1 : Int32), h)
    else
      (f_Mod_chanceOf p1 p2 v4 h).bind fun q9 =>
      (f_Mod_tens v4 q9.2).bind fun q10 =>
      (if (lg_cmp (q9.1 * (100 : Int64)) (((p3).toInt64) * q10)) < 0 then
        f_Mod_likely_L44 p1 p2 p3 n (v4 + (1 : Int32)) q9.2
      else
        some (v4, q9.2)))
set_option maxRecDepth 100000 in
set_option maxHeartbeats 4000000 in
theorem t_Mod_likely_L44 {p1 : Int32} {p2 : Int32} {p3 : Int32}  : ∀ (n : Nat) (v4 : Int32) (h : am_H) (r : Int32 × am_H), am_Sh h → f_Mod_likely_L44 p1 p2 p3 n v4 h = some r → am_G 4 M_Mod_likely 0 0 (am_qI r) 44 [(0, .ref 136), (1, .int p1), (2, .int p2), (3, .int p3), (4, .int v4)] [] h 0 0 := by
  intro n
  induction n with
  | zero =>
    intro v4 h r hs hf
    rw [f_Mod_likely_L44] at hf
    cases hf
  | succ n ih =>
    intro v4 h r hs hf
    rw [f_Mod_likely_L44] at hf
    refine g_iload (i := 4) (by decide +kernel) rfl ?_
    refine g_bipush (z := 9) (v := 9) (by decide +kernel) rfl ?_
    refine x_icmp_gt (off := 36) (tgt := 84) hf (by decide +kernel) (by decide) (fun c8 hf => ?_) (fun c8 hf => ?_)
    · refine g_iconst (z := (-1)) (v := (-1)) (by decide +kernel) rfl ?_
      exact x_iret hf hs (by decide +kernel) rfl (Nat.le_refl _) (Nat.le_refl _)
    · refine g_aload_n (i := 0) (by decide +kernel) rfl ?_
      refine g_iload_n (i := 1) (by decide +kernel) rfl ?_
      refine g_iload_n (i := 2) (by decide +kernel) rfl ?_
      refine g_iload (i := 4) (by decide +kernel) rfl ?_
      refine x_callVJ (as := [.int p1, .int p2, .int v4]) Vi_Mod_chanceOf Vs_Mod_chanceOf (hs.k k_136) rfl hf (fun q hq => t_Mod_chanceOf hs  hq) Y_Mod_chanceOf L_Mod_425 (by decide +kernel) rfl rfl (Nat.le_of_ble_eq_true rfl) (by decide) (Nat.le_refl _) (Nat.le_refl _) (fun q9 hf hs => ?_)
      refine g_ldc2 (by decide +kernel) C_Mod_291 ?_
      refine g_lmul (by decide +kernel) ?_
      refine g_iload_n (i := 3) (by decide +kernel) rfl ?_
      refine g_i2l (by decide +kernel) ?_
      refine g_iload (i := 4) (by decide +kernel) rfl ?_
      refine x_callSJp (as := [.int v4]) St_Mod_tens hf (fun q hq => t_Mod_tens hs  hq) Y_Mod_tens L_Mod_428 (by decide +kernel) rfl rfl (Nat.le_of_ble_eq_true rfl) (by decide) (Nat.le_refl _) (Nat.le_refl _) (fun q10 hf => ?_)
      refine g_lmul (by decide +kernel) ?_
      refine g_lcmp (by decide +kernel) ?_
      refine x_if_lt (off := 6) (tgt := 78) hf (by decide +kernel) (by decide) (fun c11 hf => ?_) (fun c11 hf => ?_)
      · refine g_iinc (i := 4) (z := 1) (v := (v4 + (1 : Int32))) (by decide +kernel) rfl rfl rfl (by decide) (ls1 := [(0, .ref 136), (1, .int p1), (2, .int p2), (3, .int p3), (4, .int (v4 + (1 : Int32)))]) rfl ?_
        refine g_goto (off := (-37)) (tgt := 44) (by decide +kernel) (by decide) ?_
        exact am_G.forget (am_subp [0, 1, 2, 3, 4] rfl) (ih _ _ _ hs hf)
      · refine g_iload (i := 4) (by decide +kernel) rfl ?_
        exact x_iret hf hs (by decide +kernel) rfl (Nat.le_refl _) (Nat.le_refl _)
def f_Mod_likely (p1 : Int32) (p2 : Int32) (p3 : Int32) (h : am_H) : Option (Int32 × am_H) :=
  am_let (am_sI h 136 0 (0 : Int32)) fun h1 =>
  (f_Mod_isPerson ((p1).toInt64) h1).bind fun q2 =>
  (if q2 = true then
    (f_Mod_isSpot ((p2).toInt64) h1).bind fun q4 =>
    (if q4 = true then
      (f_Mod_within ((p3).toInt64) (0 : Int64) (100 : Int64) h1).bind fun q6 =>
      (if q6 = true then
        f_Mod_likely_L44 p1 p2 p3 am_fu (0 : Int32) h1
      else
        some ((-3 : Int32), h1))
    else
      some ((-2 : Int32), h1))
  else
    some ((-2 : Int32), h1))
set_option maxRecDepth 100000 in
set_option maxHeartbeats 4000000 in
theorem t_Mod_likely {p1 : Int32} {p2 : Int32} {p3 : Int32} {h : am_H} (hs : am_Sh h)  {r : Int32 × am_H} (hf : f_Mod_likely p1 p2 p3 h = some r) : am_Ct 4 M_Mod_likely [.ref 136, .int p1, .int p2, .int p3] h 0 0 (am_qI r) := by
  unfold f_Mod_likely at hf
  refine am_Ct.of (by decide) rfl (Nat.le_of_ble_eq_true rfl) (ls := [(0, .ref 136), (1, .int p1), (2, .int p2), (3, .int p3)]) rfl ?_
  refine g_aload_n (i := 0) (by decide +kernel) rfl ?_
  refine g_iconst (z := 0) (v := 0) (by decide +kernel) rfl ?_
  refine x_puti hf hs (hs.k k_136) F_Mod_1 (by decide +kernel) rfl rfl rfl rfl (fun h1 hf hs => ?_)
  refine g_aload_n (i := 0) (by decide +kernel) rfl ?_
  refine g_iload_n (i := 1) (by decide +kernel) rfl ?_
  refine g_i2l (by decide +kernel) ?_
  refine x_callVBp (as := [.long ((p1).toInt64)]) Vi_Mod_isPerson Vs_Mod_isPerson (hs.k k_136) rfl hf (fun q hq => t_Mod_isPerson hs  hq) Y_Mod_isPerson L_Mod_245 (by decide +kernel) rfl rfl (Nat.le_of_ble_eq_true rfl) (by decide) (Nat.le_refl _) (Nat.le_refl _) (fun q2 hf => ?_)
  refine x_ifb_eq (off := 12) (tgt := 23) hf (by decide +kernel) (by decide) (fun c3 hf => ?_) (fun c3 hf => ?_)
  · refine g_bipush (z := (-2)) (v := (-2)) (by decide +kernel) rfl ?_
    exact x_iret hf hs (by decide +kernel) rfl (Nat.le_refl _) (Nat.le_refl _)
  · refine g_aload_n (i := 0) (by decide +kernel) rfl ?_
    refine g_iload_n (i := 2) (by decide +kernel) rfl ?_
    refine g_i2l (by decide +kernel) ?_
    refine x_callVBp (as := [.long ((p2).toInt64)]) Vi_Mod_isSpot Vs_Mod_isSpot (hs.k k_136) rfl hf (fun q hq => t_Mod_isSpot hs  hq) Y_Mod_isSpot L_Mod_339 (by decide +kernel) rfl rfl (Nat.le_of_ble_eq_true rfl) (by decide) (Nat.le_refl _) (Nat.le_refl _) (fun q4 hf => ?_)
    refine x_ifb_ne (off := 6) (tgt := 26) hf (by decide +kernel) (by decide) (fun c5 hf => ?_) (fun c5 hf => ?_)
    · refine g_iload_n (i := 3) (by decide +kernel) rfl ?_
      refine g_i2l (by decide +kernel) ?_
      refine g_lconst (z := 0) (v := 0) (by decide +kernel) rfl ?_
      refine g_ldc2 (by decide +kernel) C_Mod_291 ?_
      refine x_callSBp (as := [.long ((p3).toInt64), .long (0 : Int64), .long (100 : Int64)]) St_Mod_within hf (fun q hq => t_Mod_within hs  hq) Y_Mod_within L_Mod_157 (by decide +kernel) rfl rfl (Nat.le_of_ble_eq_true rfl) (by decide) (Nat.le_refl _) (Nat.le_refl _) (fun q6 hf => ?_)
      refine x_ifb_ne (off := 6) (tgt := 41) hf (by decide +kernel) (by decide) (fun c7 hf => ?_) (fun c7 hf => ?_)
      · refine g_iconst (z := 0) (v := 0) (by decide +kernel) rfl ?_
        refine g_istore (i := 4) (by decide +kernel) rfl (by decide) (ls1 := [(0, .ref 136), (1, .int p1), (2, .int p2), (3, .int p3), (4, .int (0 : Int32))]) rfl ?_
        exact am_G.forget (am_subp [0, 1, 2, 3, 4] rfl) (t_Mod_likely_L44  am_fu _ _ _ hs hf)
      · refine g_bipush (z := (-3)) (v := (-3)) (by decide +kernel) rfl ?_
        exact x_iret hf hs (by decide +kernel) rfl (Nat.le_refl _) (Nat.le_refl _)
    · refine g_bipush (z := (-2)) (v := (-2)) (by decide +kernel) rfl ?_
      exact x_iret hf hs (by decide +kernel) rfl (Nat.le_refl _) (Nat.le_refl _)
def f_Mod_cut (p0 : Int64) (p2 : Int32) (h : am_H) : Option (Int64) :=
  (if p2 = 0 then
    some ((((((p0).toInt32)).toInt8.toInt32)).toInt64)
  else
    (if p2 = (1 : Int32) then
      some ((((((p0).toInt32)).toInt16.toInt32)).toInt64)
    else
      (if p2 = (2 : Int32) then
        some ((((p0).toInt32)).toInt64)
      else
        some p0)))
set_option maxRecDepth 100000 in
set_option maxHeartbeats 4000000 in
theorem t_Mod_cut {p0 : Int64} {p2 : Int32} {h : am_H} (hs : am_Sh h)  {r : Int64} (hf : f_Mod_cut p0 p2 h = some r) : am_Ct 0 M_Mod_cut [.long p0, .int p2] h 0 0 (am_pJ h r) := by
  unfold f_Mod_cut at hf
  refine am_Ct.of (by decide) rfl (Nat.le_of_ble_eq_true rfl) (ls := [(0, .long p0), (2, .int p2)]) rfl ?_
  refine g_iload_n (i := 2) (by decide +kernel) rfl ?_
  refine x_if_ne (off := 10) (tgt := 11) hf (by decide +kernel) (by decide) (fun c1 hf => ?_) (fun c1 hf => ?_)
  · refine g_iload_n (i := 2) (by decide +kernel) rfl ?_
    refine g_iconst (z := 1) (v := 1) (by decide +kernel) rfl ?_
    refine x_icmp_ne (off := 10) (tgt := 23) hf (by decide +kernel) (by decide) (fun c2 hf => ?_) (fun c2 hf => ?_)
    · refine g_iload_n (i := 2) (by decide +kernel) rfl ?_
      refine g_iconst (z := 2) (v := 2) (by decide +kernel) rfl ?_
      refine x_icmp_ne (off := 9) (tgt := 34) hf (by decide +kernel) (by decide) (fun c3 hf => ?_) (fun c3 hf => ?_)
      · refine g_lload_n (i := 0) (by decide +kernel) rfl ?_
        exact x_lretp hf (by decide +kernel) rfl (Nat.le_refl _) (Nat.le_refl _)
      · refine g_lload_n (i := 0) (by decide +kernel) rfl ?_
        refine g_l2i (by decide +kernel) ?_
        refine g_i2l (by decide +kernel) ?_
        refine g_goto (off := 4) (tgt := 35) (by decide +kernel) (by decide) ?_
        exact x_lretp hf (by decide +kernel) rfl (Nat.le_refl _) (Nat.le_refl _)
    · refine g_lload_n (i := 0) (by decide +kernel) rfl ?_
      refine g_l2i (by decide +kernel) ?_
      refine g_i2s (by decide +kernel) ?_
      refine g_i2l (by decide +kernel) ?_
      refine g_goto (off := 15) (tgt := 35) (by decide +kernel) (by decide) ?_
      exact x_lretp hf (by decide +kernel) rfl (Nat.le_refl _) (Nat.le_refl _)
  · refine g_lload_n (i := 0) (by decide +kernel) rfl ?_
    refine g_l2i (by decide +kernel) ?_
    refine g_i2b (by decide +kernel) ?_
    refine g_i2l (by decide +kernel) ?_
    refine g_goto (off := 27) (tgt := 35) (by decide +kernel) (by decide) ?_
    exact x_lretp hf (by decide +kernel) rfl (Nat.le_refl _) (Nat.le_refl _)
def f_Mod_numbers_L64 (p1 : Int32) (p2 : Int32) (p3 : Int32) : Nat → Int32 → am_H → Option (Int32 × am_H)
  | 0, _, _ => none
  | n + 1, v4, h =>
    (if p3 ≤ v4 then
      some (v4, h)
    else
      (am_wrJ h 160 160 (((40 : Int32) * p1) + v4) (0 : Int64)).bind fun h11 =>
      f_Mod_numbers_L64 p1 p2 p3 n (v4 + (1 : Int32)) h11)
set_option maxRecDepth 100000 in
set_option maxHeartbeats 4000000 in
theorem t_Mod_numbers_L64 {p1 : Int32} {p2 : Int32} {p3 : Int32}  {Q : Option Value → am_H → Prop} : ∀ (n : Nat) (v4 : Int32) (h : am_H) (q : Int32 × am_H), am_Sh h → f_Mod_numbers_L64 p1 p2 p3 n v4 h = some q → (am_Sh q.2 → am_G 1 M_Mod_numbers 0 0 Q 89 [(0, .ref 136), (1, .int p1), (2, .int p2), (3, .int p3), (4, .int q.1)] [] q.2 0 0) → am_G 1 M_Mod_numbers 0 0 Q 64 [(0, .ref 136), (1, .int p1), (2, .int p2), (3, .int p3), (4, .int v4)] [] h 0 0 := by
  intro n
  induction n with
  | zero =>
    intro v4 h q hs hf kont
    rw [f_Mod_numbers_L64] at hf
    cases hf
  | succ n ih =>
    intro v4 h q hs hf kont
    rw [f_Mod_numbers_L64] at hf
    refine g_iload (i := 4) (by decide +kernel) rfl ?_
    refine g_iload_n (i := 3) (by decide +kernel) rfl ?_
    refine x_icmp_ge (off := 22) (tgt := 89) hf (by decide +kernel) (by decide) (fun c10 hf => ?_) (fun c10 hf => ?_)
    · cases hf
      exact am_G.forget (am_subp [0, 1, 2, 3, 4] rfl) (kont hs)
    · refine g_aload_n (i := 0) (by decide +kernel) rfl ?_
      refine x_getr (hs.k k_136) F_Mod_88 (by decide +kernel) rfl (hs.r r_136_40) ?_
      refine g_bipush (z := 40) (v := 40) (by decide +kernel) rfl ?_
      refine g_iload_n (i := 1) (by decide +kernel) rfl ?_
      refine g_imul (by decide +kernel) ?_
      refine g_iload (i := 4) (by decide +kernel) rfl ?_
      refine g_iadd (by decide +kernel) ?_
      refine g_lconst (z := 0) (v := 0) (by decide +kernel) rfl ?_
      refine x_last hf hs (hs.k k_160) (by decide +kernel) (fun h11 hf hs => ?_)
      refine g_iinc (i := 4) (z := 1) (v := (v4 + (1 : Int32))) (by decide +kernel) rfl rfl rfl (by decide) (ls1 := [(0, .ref 136), (1, .int p1), (2, .int p2), (3, .int p3), (4, .int (v4 + (1 : Int32)))]) rfl ?_
      refine g_goto (off := (-22)) (tgt := 64) (by decide +kernel) (by decide) ?_
      exact am_G.forget (am_subp [0, 1, 2, 3, 4] rfl) (ih _ _ _ hs hf kont)
def f_Mod_numbers (p1 : Int32) (p2 : Int32) (p3 : Int32) (h : am_H) : Option (Int32 × am_H) :=
  am_let (am_sI h 136 0 (0 : Int32)) fun h1 =>
  (f_Mod_within ((p1).toInt64) (0 : Int64) (3 : Int64) h1).bind fun q2 =>
  (if q2 = true then
    (f_Mod_within ((p2).toInt64) (0 : Int64) (3 : Int64) h1).bind fun q4 =>
    (if q4 = true then
      (f_Mod_within ((p3).toInt64) (0 : Int64) (40 : Int64) h1).bind fun q6 =>
      (if q6 = true then
        (am_wr h1 158 4 p1 p2).bind fun h8 =>
        (am_wr h8 159 4 p1 p3).bind fun h9 =>
        (f_Mod_numbers_L64 p1 p2 p3 am_fu (0 : Int32) h9).bind fun q12 =>
        some ((0 : Int32), q12.2)
      else
        some ((-3 : Int32), h1))
    else
      some ((-2 : Int32), h1))
  else
    some ((-2 : Int32), h1))
set_option maxRecDepth 100000 in
set_option maxHeartbeats 4000000 in
theorem t_Mod_numbers {p1 : Int32} {p2 : Int32} {p3 : Int32} {h : am_H} (hs : am_Sh h)  {r : Int32 × am_H} (hf : f_Mod_numbers p1 p2 p3 h = some r) : am_Ct 1 M_Mod_numbers [.ref 136, .int p1, .int p2, .int p3] h 0 0 (am_qI r) := by
  unfold f_Mod_numbers at hf
  refine am_Ct.of (by decide) rfl (Nat.le_of_ble_eq_true rfl) (ls := [(0, .ref 136), (1, .int p1), (2, .int p2), (3, .int p3)]) rfl ?_
  refine g_aload_n (i := 0) (by decide +kernel) rfl ?_
  refine g_iconst (z := 0) (v := 0) (by decide +kernel) rfl ?_
  refine x_puti hf hs (hs.k k_136) F_Mod_1 (by decide +kernel) rfl rfl rfl rfl (fun h1 hf hs => ?_)
  refine g_iload_n (i := 1) (by decide +kernel) rfl ?_
  refine g_i2l (by decide +kernel) ?_
  refine g_lconst (z := 0) (v := 0) (by decide +kernel) rfl ?_
  refine g_ldc2 (by decide +kernel) C_Mod_307 ?_
  refine x_callSBp (as := [.long ((p1).toInt64), .long (0 : Int64), .long (3 : Int64)]) St_Mod_within hf (fun q hq => t_Mod_within hs  hq) Y_Mod_within L_Mod_157 (by decide +kernel) rfl rfl (Nat.le_of_ble_eq_true rfl) (by decide) (Nat.le_refl _) (Nat.le_refl _) (fun q2 hf => ?_)
  refine x_ifb_eq (off := 15) (tgt := 29) hf (by decide +kernel) (by decide) (fun c3 hf => ?_) (fun c3 hf => ?_)
  · refine g_bipush (z := (-2)) (v := (-2)) (by decide +kernel) rfl ?_
    exact x_iret hf hs (by decide +kernel) rfl (Nat.le_refl _) (Nat.le_refl _)
  · refine g_iload_n (i := 2) (by decide +kernel) rfl ?_
    refine g_i2l (by decide +kernel) ?_
    refine g_lconst (z := 0) (v := 0) (by decide +kernel) rfl ?_
    refine g_ldc2 (by decide +kernel) C_Mod_307 ?_
    refine x_callSBp (as := [.long ((p2).toInt64), .long (0 : Int64), .long (3 : Int64)]) St_Mod_within hf (fun q hq => t_Mod_within hs  hq) Y_Mod_within L_Mod_157 (by decide +kernel) rfl rfl (Nat.le_of_ble_eq_true rfl) (by decide) (Nat.le_refl _) (Nat.le_refl _) (fun q4 hf => ?_)
    refine x_ifb_ne (off := 6) (tgt := 32) hf (by decide +kernel) (by decide) (fun c5 hf => ?_) (fun c5 hf => ?_)
    · refine g_iload_n (i := 3) (by decide +kernel) rfl ?_
      refine g_i2l (by decide +kernel) ?_
      refine g_lconst (z := 0) (v := 0) (by decide +kernel) rfl ?_
      refine g_ldc2 (by decide +kernel) C_Mod_325 ?_
      refine x_callSBp (as := [.long ((p3).toInt64), .long (0 : Int64), .long (40 : Int64)]) St_Mod_within hf (fun q hq => t_Mod_within hs  hq) Y_Mod_within L_Mod_157 (by decide +kernel) rfl rfl (Nat.le_of_ble_eq_true rfl) (by decide) (Nat.le_refl _) (Nat.le_refl _) (fun q6 hf => ?_)
      refine x_ifb_ne (off := 6) (tgt := 47) hf (by decide +kernel) (by decide) (fun c7 hf => ?_) (fun c7 hf => ?_)
      · refine g_aload_n (i := 0) (by decide +kernel) rfl ?_
        refine x_getr (hs.k k_136) F_Mod_82 (by decide +kernel) rfl (hs.r r_136_38) ?_
        refine g_iload_n (i := 1) (by decide +kernel) rfl ?_
        refine g_iload_n (i := 2) (by decide +kernel) rfl ?_
        refine x_iast hf hs (hs.k k_158) (by decide +kernel) (fun h8 hf hs => ?_)
        refine g_aload_n (i := 0) (by decide +kernel) rfl ?_
        refine x_getr (hs.k k_136) F_Mod_85 (by decide +kernel) rfl (hs.r r_136_39) ?_
        refine g_iload_n (i := 1) (by decide +kernel) rfl ?_
        refine g_iload_n (i := 3) (by decide +kernel) rfl ?_
        refine x_iast hf hs (hs.k k_159) (by decide +kernel) (fun h9 hf hs => ?_)
        refine g_iconst (z := 0) (v := 0) (by decide +kernel) rfl ?_
        refine g_istore (i := 4) (by decide +kernel) rfl (by decide) (ls1 := [(0, .ref 136), (1, .int p1), (2, .int p2), (3, .int p3), (4, .int (0 : Int32))]) rfl ?_
        obtain ⟨q12, hqq12, hf⟩ := Option.bind_eq_some_iff.mp hf
        refine am_G.forget (am_subp [0, 1, 2, 3, 4] rfl) (t_Mod_numbers_L64  am_fu _ _ q12 hs hqq12 (fun hs => ?_))
        refine g_iconst (z := 0) (v := 0) (by decide +kernel) rfl ?_
        exact x_iret hf hs (by decide +kernel) rfl (Nat.le_refl _) (Nat.le_refl _)
      · refine g_bipush (z := (-3)) (v := (-3)) (by decide +kernel) rfl ?_
        exact x_iret hf hs (by decide +kernel) rfl (Nat.le_refl _) (Nat.le_refl _)
    · refine g_bipush (z := (-2)) (v := (-2)) (by decide +kernel) rfl ?_
      exact x_iret hf hs (by decide +kernel) rfl (Nat.le_refl _) (Nat.le_refl _)
def f_Mod_write (p1 : Int32) (p2 : Int32) (p3 : Int64) (h : am_H) : Option (Int64 × am_H) :=
  am_let (am_sI h 136 0 (0 : Int32)) fun h1 =>
  (f_Mod_noTray p1 h1).bind fun q2 =>
  (if q2 = 0 then
    (am_rd (h1.2.1 159) 4 p1).bind fun x4 =>
    (f_Mod_within ((p2).toInt64) (0 : Int64) (((x4 - (1 : Int32))).toInt64) h1).bind fun q5 =>
    (if q5 = true then
      (am_rd (h1.2.1 158) 4 p1).bind fun x7 =>
      (f_Mod_cut p3 x7 h1).bind fun q8 =>
      (am_wrJ h1 160 160 (((40 : Int32) * p1) + p2) q8).bind fun h9 =>
      (am_rd (h9.2.2.1 160) 160 (((40 : Int32) * p1) + p2)).bind fun x10 =>
      some (x10, h9)
    else
      some ((-7 : Int64), h1))
  else
    some (((q2).toInt64), h1))
set_option maxRecDepth 100000 in
set_option maxHeartbeats 4000000 in
theorem t_Mod_write {p1 : Int32} {p2 : Int32} {p3 : Int64} {h : am_H} (hs : am_Sh h)  {r : Int64 × am_H} (hf : f_Mod_write p1 p2 p3 h = some r) : am_Ct 2 M_Mod_write [.ref 136, .int p1, .int p2, .long p3] h 0 0 (am_qJ r) := by
  unfold f_Mod_write at hf
  refine am_Ct.of (by decide) rfl (Nat.le_of_ble_eq_true rfl) (ls := [(0, .ref 136), (1, .int p1), (2, .int p2), (3, .long p3)]) rfl ?_
  refine g_aload_n (i := 0) (by decide +kernel) rfl ?_
  refine g_iconst (z := 0) (v := 0) (by decide +kernel) rfl ?_
  refine x_puti hf hs (hs.k k_136) F_Mod_1 (by decide +kernel) rfl rfl rfl rfl (fun h1 hf hs => ?_)
  refine g_aload_n (i := 0) (by decide +kernel) rfl ?_
  refine g_iload_n (i := 1) (by decide +kernel) rfl ?_
  refine x_callVIp (as := [.int p1]) Vi_Mod_noTray Vs_Mod_noTray (hs.k k_136) rfl hf (fun q hq => t_Mod_noTray hs  hq) Y_Mod_noTray L_Mod_309 (by decide +kernel) rfl rfl (Nat.le_of_ble_eq_true rfl) (by decide) (Nat.le_refl _) (Nat.le_refl _) (fun q2 hf => ?_)
  refine g_istore (i := 5) (by decide +kernel) rfl (by decide) (ls1 := [(0, .ref 136), (1, .int p1), (2, .int p2), (3, .long p3), (5, .int q2)]) rfl ?_
  refine g_iload (i := 5) (by decide +kernel) rfl ?_
  refine x_if_eq (off := 7) (tgt := 21) hf (by decide +kernel) (by decide) (fun c3 hf => ?_) (fun c3 hf => ?_)
  · refine g_iload_n (i := 2) (by decide +kernel) rfl ?_
    refine g_i2l (by decide +kernel) ?_
    refine g_lconst (z := 0) (v := 0) (by decide +kernel) rfl ?_
    refine g_aload_n (i := 0) (by decide +kernel) rfl ?_
    refine x_getr (hs.k k_136) F_Mod_85 (by decide +kernel) rfl (hs.r r_136_39) ?_
    refine g_iload_n (i := 1) (by decide +kernel) rfl ?_
    refine x_iald hf (hs.k k_159) (by decide +kernel) (fun x4 hf => ?_)
    refine g_iconst (z := 1) (v := 1) (by decide +kernel) rfl ?_
    refine g_isub (by decide +kernel) ?_
    refine g_i2l (by decide +kernel) ?_
    refine x_callSBp (as := [.long ((p2).toInt64), .long (0 : Int64), .long (((x4 - (1 : Int32))).toInt64)]) St_Mod_within hf (fun q hq => t_Mod_within hs  hq) Y_Mod_within L_Mod_157 (by decide +kernel) rfl rfl (Nat.le_of_ble_eq_true rfl) (by decide) (Nat.le_refl _) (Nat.le_refl _) (fun q5 hf => ?_)
    refine x_ifb_ne (off := 7) (tgt := 43) hf (by decide +kernel) (by decide) (fun c6 hf => ?_) (fun c6 hf => ?_)
    · refine g_aload_n (i := 0) (by decide +kernel) rfl ?_
      refine x_getr (hs.k k_136) F_Mod_88 (by decide +kernel) rfl (hs.r r_136_40) ?_
      refine g_bipush (z := 40) (v := 40) (by decide +kernel) rfl ?_
      refine g_iload_n (i := 1) (by decide +kernel) rfl ?_
      refine g_imul (by decide +kernel) ?_
      refine g_iload_n (i := 2) (by decide +kernel) rfl ?_
      refine g_iadd (by decide +kernel) ?_
      refine g_lload_n (i := 3) (by decide +kernel) rfl ?_
      refine g_aload_n (i := 0) (by decide +kernel) rfl ?_
      refine x_getr (hs.k k_136) F_Mod_82 (by decide +kernel) rfl (hs.r r_136_38) ?_
      refine g_iload_n (i := 1) (by decide +kernel) rfl ?_
      refine x_iald hf (hs.k k_158) (by decide +kernel) (fun x7 hf => ?_)
      refine x_callSJp (as := [.long p3, .int x7]) St_Mod_cut hf (fun q hq => t_Mod_cut hs  hq) Y_Mod_cut L_Mod_434 (by decide +kernel) rfl rfl (Nat.le_of_ble_eq_true rfl) (by decide) (Nat.le_refl _) (Nat.le_refl _) (fun q8 hf => ?_)
      refine x_last hf hs (hs.k k_160) (by decide +kernel) (fun h9 hf hs => ?_)
      refine g_aload_n (i := 0) (by decide +kernel) rfl ?_
      refine x_getr (hs.k k_136) F_Mod_88 (by decide +kernel) rfl (hs.r r_136_40) ?_
      refine g_bipush (z := 40) (v := 40) (by decide +kernel) rfl ?_
      refine g_iload_n (i := 1) (by decide +kernel) rfl ?_
      refine g_imul (by decide +kernel) ?_
      refine g_iload_n (i := 2) (by decide +kernel) rfl ?_
      refine g_iadd (by decide +kernel) ?_
      refine x_lald hf (hs.k k_160) (by decide +kernel) (fun x10 hf => ?_)
      exact x_lret hf hs (by decide +kernel) rfl (Nat.le_refl _) (Nat.le_refl _)
    · refine g_ldc2 (by decide +kernel) C_Mod_432 ?_
      exact x_lret hf hs (by decide +kernel) rfl (Nat.le_refl _) (Nat.le_refl _)
  · refine g_iload (i := 5) (by decide +kernel) rfl ?_
    refine g_i2l (by decide +kernel) ?_
    exact x_lret hf hs (by decide +kernel) rfl (Nat.le_refl _) (Nat.le_refl _)
def f_Mod_lists_L101 (p1 : Int32) (p2 : Int32) (p3 : Int32) : Nat → Int32 → Int32 → Int32 → Int32 → am_H → Option (Int32 × am_H)
  | 0, _, _, _, _, _ => none
  | n + 1, v4, v5, v6, v7, h =>
    (if v6 ≤ v7 then
      some (v7, h)
    else
      ((if (v7 - v7 / (2 : Int32) * (2 : Int32)) = 0 then
          (am_rd (h.2.1 148) 60 (v7 / (2 : Int32))).bind fun x18 =>
          some (((((10 : Int32) * p2) + x18)).toInt64)
        else
          some (-1 : Int64)) : Option (Int64)).bind fun m19 =>
      (am_wrJ h 160 160 (((40 : Int32) * p1) + v7) m19).bind fun h20 =>
      f_Mod_lists_L101 p1 p2 p3 n v4 v5 v6 (v7 + (1 : Int32)) h20)
set_option maxRecDepth 100000 in
set_option maxHeartbeats 4000000 in
theorem t_Mod_lists_L101 {p1 : Int32} {p2 : Int32} {p3 : Int32}  {Q : Option Value → am_H → Prop} : ∀ (n : Nat) (v4 : Int32) (v5 : Int32) (v6 : Int32) (v7 : Int32) (h : am_H) (q : Int32 × am_H), am_Sh h → f_Mod_lists_L101 p1 p2 p3 n v4 v5 v6 v7 h = some q → (am_Sh q.2 → am_G 5 M_Mod_lists 0 0 Q 154 [(0, .ref 136), (1, .int p1), (2, .int p2), (3, .int p3), (4, .int v4), (5, .int v5), (6, .int v6), (7, .int q.1)] [] q.2 0 0) → am_G 5 M_Mod_lists 0 0 Q 101 [(0, .ref 136), (1, .int p1), (2, .int p2), (3, .int p3), (4, .int v4), (5, .int v5), (6, .int v6), (7, .int v7)] [] h 0 0 := by
  intro n
  induction n with
  | zero =>
    intro v4 v5 v6 v7 h q hs hf kont
    rw [f_Mod_lists_L101] at hf
    cases hf
  | succ n ih =>
    intro v4 v5 v6 v7 h q hs hf kont
    rw [f_Mod_lists_L101] at hf
    refine g_iload (i := 7) (by decide +kernel) rfl ?_
    refine g_iload (i := 6) (by decide +kernel) rfl ?_
    refine x_icmp_ge (off := 49) (tgt := 154) hf (by decide +kernel) (by decide) (fun c16 hf => ?_) (fun c16 hf => ?_)
    · cases hf
      exact am_G.forget (am_subp [0, 1, 2, 3, 4, 5, 6, 7] rfl) (kont hs)
    · refine g_aload_n (i := 0) (by decide +kernel) rfl ?_
      refine x_getr (hs.k k_136) F_Mod_88 (by decide +kernel) rfl (hs.r r_136_40) ?_
      refine g_bipush (z := 40) (v := 40) (by decide +kernel) rfl ?_
      refine g_iload_n (i := 1) (by decide +kernel) rfl ?_
      refine g_imul (by decide +kernel) ?_
      refine g_iload (i := 7) (by decide +kernel) rfl ?_
      refine g_iadd (by decide +kernel) ?_
      refine g_iload (i := 7) (by decide +kernel) rfl ?_
      refine g_iconst (z := 2) (v := 2) (by decide +kernel) rfl ?_
      refine g_irem (by decide +kernel) (by decide) ?_
      obtain ⟨m19, hm147, hf⟩ := Option.bind_eq_some_iff.mp hf
      refine am_cut (J := 147) (ls' := [(0, .ref 136), (1, .int p1), (2, .int p2), (3, .int p3), (4, .int v4), (5, .int v5), (6, .int v6), (7, .int v7)]) (st' := [.long m19, .int (((40 : Int32) * p1) + v7), .ref 160]) ?_ (fun K147 => ?_)
      · refine x_last hf hs (hs.k k_160) (by decide +kernel) (fun h20 hf hs => ?_)
        refine g_iinc (i := 7) (z := 1) (v := (v7 + (1 : Int32))) (by decide +kernel) rfl rfl rfl (by decide) (ls1 := [(0, .ref 136), (1, .int p1), (2, .int p2), (3, .int p3), (4, .int v4), (5, .int v5), (6, .int v6), (7, .int (v7 + (1 : Int32)))]) rfl ?_
        refine g_goto (off := (-50)) (tgt := 101) (by decide +kernel) (by decide) ?_
        exact am_G.forget (am_subp [0, 1, 2, 3, 4, 5, 6, 7] rfl) (ih _ _ _ _ _ _ hs hf kont)
      refine x_if_ne (off := 21) (tgt := 144) hm147 (by decide +kernel) (by decide) (fun c17 hm147 => ?_) (fun c17 hm147 => ?_)
      · refine g_ldc2 (by decide +kernel) C_Mod_274 ?_
        cases hm147
        exact am_G.forget (am_subp [0, 1, 2, 3, 4, 5, 6, 7] rfl) K147
      · refine g_bipush (z := 10) (v := 10) (by decide +kernel) rfl ?_
        refine g_iload_n (i := 2) (by decide +kernel) rfl ?_
        refine g_imul (by decide +kernel) ?_
        refine g_aload_n (i := 0) (by decide +kernel) rfl ?_
        refine x_getr (hs.k k_136) F_Mod_51 (by decide +kernel) rfl (hs.r r_136_25) ?_
        refine g_iload (i := 7) (by decide +kernel) rfl ?_
        refine g_iconst (z := 2) (v := 2) (by decide +kernel) rfl ?_
        refine g_idiv (by decide +kernel) (by decide) ?_
        refine x_iald hm147 (hs.k k_148) (by decide +kernel) (fun x18 hm147 => ?_)
        refine g_iadd (by decide +kernel) ?_
        refine g_i2l (by decide +kernel) ?_
        refine g_goto (off := 6) (tgt := 147) (by decide +kernel) (by decide) ?_
        cases hm147
        exact am_G.forget (am_subp [0, 1, 2, 3, 4, 5, 6, 7] rfl) K147
def f_Mod_lists (p1 : Int32) (p2 : Int32) (p3 : Int32) (h : am_H) : Option (Int32 × am_H) :=
  am_let (am_sI h 136 0 (0 : Int32)) fun h1 =>
  (f_Mod_within ((p1).toInt64) (0 : Int64) (3 : Int64) h1).bind fun q2 =>
  (if q2 = true then
    (f_Mod_isPerson ((p2).toInt64) h1).bind fun q4 =>
    (if q4 = true then
      (f_Mod_isSpot ((p3).toInt64) h1).bind fun q6 =>
      (if q6 = true then
        (f_Mod_noTray p1 h1).bind fun q8 =>
        (if q8 = 0 then
          (f_Mod_laysWay p2 p3 h1).bind fun q10 =>
          (if q10.1 = (-1 : Int32) then
            some ((-5 : Int32), q10.2)
          else
            (am_rd (q10.2.2.1 159) 4 p1).bind fun x12 =>
            ((if x12 ≤ ((2 : Int32) * q10.1) then
                (am_rd (q10.2.2.1 159) 4 p1).bind fun x14 =>
                some x14
              else
                some ((2 : Int32) * q10.1)) : Option (Int32)).bind fun m15 =>
            (f_Mod_lists_L101 p1 p2 p3 am_fu q8 q10.1 m15 (0 : Int32) q10.2).bind fun q21 =>
            some (m15, q21.2))
        else
          some (q8, h1))
      else
        some ((-2 : Int32), h1))
    else
      some ((-2 : Int32), h1))
  else
    some ((-2 : Int32), h1))
set_option maxRecDepth 100000 in
set_option maxHeartbeats 4000000 in
theorem t_Mod_lists {p1 : Int32} {p2 : Int32} {p3 : Int32} {h : am_H} (hs : am_Sh h)  {r : Int32 × am_H} (hf : f_Mod_lists p1 p2 p3 h = some r) : am_Ct 5 M_Mod_lists [.ref 136, .int p1, .int p2, .int p3] h 0 0 (am_qI r) := by
  unfold f_Mod_lists at hf
  refine am_Ct.of (by decide) rfl (Nat.le_of_ble_eq_true rfl) (ls := [(0, .ref 136), (1, .int p1), (2, .int p2), (3, .int p3)]) rfl ?_
  refine g_aload_n (i := 0) (by decide +kernel) rfl ?_
  refine g_iconst (z := 0) (v := 0) (by decide +kernel) rfl ?_
  refine x_puti hf hs (hs.k k_136) F_Mod_1 (by decide +kernel) rfl rfl rfl rfl (fun h1 hf hs => ?_)
  refine g_iload_n (i := 1) (by decide +kernel) rfl ?_
  refine g_i2l (by decide +kernel) ?_
  refine g_lconst (z := 0) (v := 0) (by decide +kernel) rfl ?_
  refine g_ldc2 (by decide +kernel) C_Mod_307 ?_
  refine x_callSBp (as := [.long ((p1).toInt64), .long (0 : Int64), .long (3 : Int64)]) St_Mod_within hf (fun q hq => t_Mod_within hs  hq) Y_Mod_within L_Mod_157 (by decide +kernel) rfl rfl (Nat.le_of_ble_eq_true rfl) (by decide) (Nat.le_refl _) (Nat.le_refl _) (fun q2 hf => ?_)
  refine x_ifb_eq (off := 21) (tgt := 35) hf (by decide +kernel) (by decide) (fun c3 hf => ?_) (fun c3 hf => ?_)
  · refine g_bipush (z := (-2)) (v := (-2)) (by decide +kernel) rfl ?_
    exact x_iret hf hs (by decide +kernel) rfl (Nat.le_refl _) (Nat.le_refl _)
  · refine g_aload_n (i := 0) (by decide +kernel) rfl ?_
    refine g_iload_n (i := 2) (by decide +kernel) rfl ?_
    refine g_i2l (by decide +kernel) ?_
    refine x_callVBp (as := [.long ((p2).toInt64)]) Vi_Mod_isPerson Vs_Mod_isPerson (hs.k k_136) rfl hf (fun q hq => t_Mod_isPerson hs  hq) Y_Mod_isPerson L_Mod_245 (by decide +kernel) rfl rfl (Nat.le_of_ble_eq_true rfl) (by decide) (Nat.le_refl _) (Nat.le_refl _) (fun q4 hf => ?_)
    refine x_ifb_eq (off := 12) (tgt := 35) hf (by decide +kernel) (by decide) (fun c5 hf => ?_) (fun c5 hf => ?_)
    · refine g_bipush (z := (-2)) (v := (-2)) (by decide +kernel) rfl ?_
      exact x_iret hf hs (by decide +kernel) rfl (Nat.le_refl _) (Nat.le_refl _)
    · refine g_aload_n (i := 0) (by decide +kernel) rfl ?_
      refine g_iload_n (i := 3) (by decide +kernel) rfl ?_
      refine g_i2l (by decide +kernel) ?_
      refine x_callVBp (as := [.long ((p3).toInt64)]) Vi_Mod_isSpot Vs_Mod_isSpot (hs.k k_136) rfl hf (fun q hq => t_Mod_isSpot hs  hq) Y_Mod_isSpot L_Mod_339 (by decide +kernel) rfl rfl (Nat.le_of_ble_eq_true rfl) (by decide) (Nat.le_refl _) (Nat.le_refl _) (fun q6 hf => ?_)
      refine x_ifb_ne (off := 6) (tgt := 38) hf (by decide +kernel) (by decide) (fun c7 hf => ?_) (fun c7 hf => ?_)
      · refine g_aload_n (i := 0) (by decide +kernel) rfl ?_
        refine g_iload_n (i := 1) (by decide +kernel) rfl ?_
        refine x_callVIp (as := [.int p1]) Vi_Mod_noTray Vs_Mod_noTray (hs.k k_136) rfl hf (fun q hq => t_Mod_noTray hs  hq) Y_Mod_noTray L_Mod_309 (by decide +kernel) rfl rfl (Nat.le_of_ble_eq_true rfl) (by decide) (Nat.le_refl _) (Nat.le_refl _) (fun q8 hf => ?_)
        refine g_istore (i := 4) (by decide +kernel) rfl (by decide) (ls1 := [(0, .ref 136), (1, .int p1), (2, .int p2), (3, .int p3), (4, .int q8)]) rfl ?_
        refine g_iload (i := 4) (by decide +kernel) rfl ?_
        refine x_if_eq (off := 6) (tgt := 53) hf (by decide +kernel) (by decide) (fun c9 hf => ?_) (fun c9 hf => ?_)
        · refine g_aload_n (i := 0) (by decide +kernel) rfl ?_
          refine g_iload_n (i := 2) (by decide +kernel) rfl ?_
          refine g_iload_n (i := 3) (by decide +kernel) rfl ?_
          refine x_callVI (as := [.int p2, .int p3]) Vi_Mod_laysWay Vs_Mod_laysWay (hs.k k_136) rfl hf (fun q hq => t_Mod_laysWay hs  hq) Y_Mod_laysWay L_Mod_345 (by decide +kernel) rfl rfl (Nat.le_of_ble_eq_true rfl) (by decide) (Nat.le_refl _) (Nat.le_refl _) (fun q10 hf hs => ?_)
          refine g_istore (i := 5) (by decide +kernel) rfl (by decide) (ls1 := [(0, .ref 136), (1, .int p1), (2, .int p2), (3, .int p3), (4, .int q8), (5, .int q10.1)]) rfl ?_
          refine g_iload (i := 5) (by decide +kernel) rfl ?_
          refine g_iconst (z := (-1)) (v := (-1)) (by decide +kernel) rfl ?_
          refine x_icmp_ne (off := 6) (tgt := 70) hf (by decide +kernel) (by decide) (fun c11 hf => ?_) (fun c11 hf => ?_)
          · refine g_iconst (z := 2) (v := 2) (by decide +kernel) rfl ?_
            refine g_iload (i := 5) (by decide +kernel) rfl ?_
            refine g_imul (by decide +kernel) ?_
            refine g_aload_n (i := 0) (by decide +kernel) rfl ?_
            refine x_getr (hs.k k_136) F_Mod_85 (by decide +kernel) rfl (hs.r r_136_39) ?_
            refine g_iload_n (i := 1) (by decide +kernel) rfl ?_
            refine x_iald hf (hs.k k_159) (by decide +kernel) (fun x12 hf => ?_)
            obtain ⟨m15, hm96, hf⟩ := Option.bind_eq_some_iff.mp hf
            refine am_cut (J := 96) (ls' := [(0, .ref 136), (1, .int p1), (2, .int p2), (3, .int p3), (4, .int q8), (5, .int q10.1)]) (st' := [.int m15]) ?_ (fun K96 => ?_)
            · refine g_istore (i := 6) (by decide +kernel) rfl (by decide) (ls1 := [(0, .ref 136), (1, .int p1), (2, .int p2), (3, .int p3), (4, .int q8), (5, .int q10.1), (6, .int m15)]) rfl ?_
              refine g_iconst (z := 0) (v := 0) (by decide +kernel) rfl ?_
              refine g_istore (i := 7) (by decide +kernel) rfl (by decide) (ls1 := [(0, .ref 136), (1, .int p1), (2, .int p2), (3, .int p3), (4, .int q8), (5, .int q10.1), (6, .int m15), (7, .int (0 : Int32))]) rfl ?_
              obtain ⟨q21, hqq21, hf⟩ := Option.bind_eq_some_iff.mp hf
              refine am_G.forget (am_subp [0, 1, 2, 3, 4, 5, 6, 7] rfl) (t_Mod_lists_L101  am_fu _ _ _ _ _ q21 hs hqq21 (fun hs => ?_))
              refine g_iload (i := 6) (by decide +kernel) rfl ?_
              exact x_iret hf hs (by decide +kernel) rfl (Nat.le_refl _) (Nat.le_refl _)
            refine x_icmp_ge (off := 10) (tgt := 90) hm96 (by decide +kernel) (by decide) (fun c13 hm96 => ?_) (fun c13 hm96 => ?_)
            · refine g_aload_n (i := 0) (by decide +kernel) rfl ?_
              refine x_getr (hs.k k_136) F_Mod_85 (by decide +kernel) rfl (hs.r r_136_39) ?_
              refine g_iload_n (i := 1) (by decide +kernel) rfl ?_
              refine x_iald hm96 (hs.k k_159) (by decide +kernel) (fun x14 hm96 => ?_)
              cases hm96
              exact am_G.forget (am_subp [0, 1, 2, 3, 4, 5] rfl) K96
            · refine g_iconst (z := 2) (v := 2) (by decide +kernel) rfl ?_
              refine g_iload (i := 5) (by decide +kernel) rfl ?_
              refine g_imul (by decide +kernel) ?_
              refine g_goto (off := 9) (tgt := 96) (by decide +kernel) (by decide) ?_
              cases hm96
              exact am_G.forget (am_subp [0, 1, 2, 3, 4, 5] rfl) K96
          · refine g_bipush (z := (-5)) (v := (-5)) (by decide +kernel) rfl ?_
            exact x_iret hf hs (by decide +kernel) rfl (Nat.le_refl _) (Nat.le_refl _)
        · refine g_iload (i := 4) (by decide +kernel) rfl ?_
          exact x_iret hf hs (by decide +kernel) rfl (Nat.le_refl _) (Nat.le_refl _)
      · refine g_bipush (z := (-2)) (v := (-2)) (by decide +kernel) rfl ?_
        exact x_iret hf hs (by decide +kernel) rfl (Nat.le_refl _) (Nat.le_refl _)
def f_Mod_image_L20 (p1 : Int32) : Nat → Int32 → am_H → Option (Int32 × am_H)
  | 0, _, _ => none
  | n + 1, v2, h =>
    (if (1137 : Int32) ≤ v2 then
      some (v2, h)
    else
      (am_rd (h.2.1 137) 3411 v2).bind fun x5 =>
      (am_wr h 137 3411 (((1137 : Int32) * (p1 + (1 : Int32))) + v2) x5).bind fun h6 =>
      f_Mod_image_L20 p1 n (v2 + (1 : Int32)) h6)
set_option maxRecDepth 100000 in
set_option maxHeartbeats 4000000 in
theorem t_Mod_image_L20 {p1 : Int32}  {Q : Option Value → am_H → Prop} : ∀ (n : Nat) (v2 : Int32) (h : am_H) (q : Int32 × am_H), am_Sh h → f_Mod_image_L20 p1 n v2 h = some q → (am_Sh q.2 → am_G 1 M_Mod_image 0 0 Q 53 [(0, .ref 136), (1, .int p1), (2, .int q.1)] [] q.2 0 0) → am_G 1 M_Mod_image 0 0 Q 20 [(0, .ref 136), (1, .int p1), (2, .int v2)] [] h 0 0 := by
  intro n
  induction n with
  | zero =>
    intro v2 h q hs hf kont
    rw [f_Mod_image_L20] at hf
    cases hf
  | succ n ih =>
    intro v2 h q hs hf kont
    rw [f_Mod_image_L20] at hf
    refine g_iload_n (i := 2) (by decide +kernel) rfl ?_
    refine g_sipush (z := 1137) (v := 1137) (by decide +kernel) rfl ?_
    refine x_icmp_ge (off := 29) (tgt := 53) hf (by decide +kernel) (by decide) (fun c4 hf => ?_) (fun c4 hf => ?_)
    · cases hf
      exact am_G.forget (am_subp [0, 1, 2] rfl) (kont hs)
    · refine g_aload_n (i := 0) (by decide +kernel) rfl ?_
      refine x_getr (hs.k k_136) F_Mod_13 (by decide +kernel) rfl (hs.r r_136_1) ?_
      refine g_sipush (z := 1137) (v := 1137) (by decide +kernel) rfl ?_
      refine g_iload_n (i := 1) (by decide +kernel) rfl ?_
      refine g_iconst (z := 1) (v := 1) (by decide +kernel) rfl ?_
      refine g_iadd (by decide +kernel) ?_
      refine g_imul (by decide +kernel) ?_
      refine g_iload_n (i := 2) (by decide +kernel) rfl ?_
      refine g_iadd (by decide +kernel) ?_
      refine g_aload_n (i := 0) (by decide +kernel) rfl ?_
      refine x_getr (hs.k k_136) F_Mod_13 (by decide +kernel) rfl (hs.r r_136_1) ?_
      refine g_iload_n (i := 2) (by decide +kernel) rfl ?_
      refine x_iald hf (hs.k k_137) (by decide +kernel) (fun x5 hf => ?_)
      refine x_iast hf hs (hs.k k_137) (by decide +kernel) (fun h6 hf hs => ?_)
      refine g_iinc (i := 2) (z := 1) (v := (v2 + (1 : Int32))) (by decide +kernel) rfl rfl rfl (by decide) (ls1 := [(0, .ref 136), (1, .int p1), (2, .int (v2 + (1 : Int32)))]) rfl ?_
      refine g_goto (off := (-30)) (tgt := 20) (by decide +kernel) (by decide) ?_
      exact am_G.forget (am_subp [0, 1, 2] rfl) (ih _ _ _ hs hf kont)
def f_Mod_image (p1 : Int32) (h : am_H) : Option (Int32 × am_H) :=
  am_let (am_sI h 136 0 (0 : Int32)) fun h1 =>
  (f_Mod_within ((p1).toInt64) (0 : Int64) (1 : Int64) h1).bind fun q2 =>
  (if q2 = true then
    (f_Mod_image_L20 p1 am_fu (0 : Int32) h1).bind fun q7 =>
    (am_wr q7.2 138 2 p1 (vp_nar .boolean (1 : Int32))).bind fun h8 =>
    some ((0 : Int32), h8)
  else
    some ((-2 : Int32), h1))
set_option maxRecDepth 100000 in
set_option maxHeartbeats 4000000 in
theorem t_Mod_image {p1 : Int32} {h : am_H} (hs : am_Sh h)  {r : Int32 × am_H} (hf : f_Mod_image p1 h = some r) : am_Ct 1 M_Mod_image [.ref 136, .int p1] h 0 0 (am_qI r) := by
  unfold f_Mod_image at hf
  refine am_Ct.of (by decide) rfl (Nat.le_of_ble_eq_true rfl) (ls := [(0, .ref 136), (1, .int p1)]) rfl ?_
  refine g_aload_n (i := 0) (by decide +kernel) rfl ?_
  refine g_iconst (z := 0) (v := 0) (by decide +kernel) rfl ?_
  refine x_puti hf hs (hs.k k_136) F_Mod_1 (by decide +kernel) rfl rfl rfl rfl (fun h1 hf hs => ?_)
  refine g_iload_n (i := 1) (by decide +kernel) rfl ?_
  refine g_i2l (by decide +kernel) ?_
  refine g_lconst (z := 0) (v := 0) (by decide +kernel) rfl ?_
  refine g_lconst (z := 1) (v := 1) (by decide +kernel) rfl ?_
  refine x_callSBp (as := [.long ((p1).toInt64), .long (0 : Int64), .long (1 : Int64)]) St_Mod_within hf (fun q hq => t_Mod_within hs  hq) Y_Mod_within L_Mod_157 (by decide +kernel) rfl rfl (Nat.le_of_ble_eq_true rfl) (by decide) (Nat.le_refl _) (Nat.le_refl _) (fun q2 hf => ?_)
  refine x_ifb_ne (off := 6) (tgt := 18) hf (by decide +kernel) (by decide) (fun c3 hf => ?_) (fun c3 hf => ?_)
  · refine g_iconst (z := 0) (v := 0) (by decide +kernel) rfl ?_
    refine g_istore_n (i := 2) (by decide +kernel) rfl (by decide) (ls1 := [(0, .ref 136), (1, .int p1), (2, .int (0 : Int32))]) rfl ?_
    obtain ⟨q7, hqq7, hf⟩ := Option.bind_eq_some_iff.mp hf
    refine am_G.forget (am_subp [0, 1, 2] rfl) (t_Mod_image_L20  am_fu _ _ q7 hs hqq7 (fun hs => ?_))
    refine g_aload_n (i := 0) (by decide +kernel) rfl ?_
    refine x_getr (hs.k k_136) F_Mod_17 (by decide +kernel) rfl (hs.r r_136_2) ?_
    refine g_iload_n (i := 1) (by decide +kernel) rfl ?_
    refine g_iconst (z := 1) (v := 1) (by decide +kernel) rfl ?_
    refine x_zast hf hs (hs.k k_138) (by decide +kernel) (fun h8 hf hs => ?_)
    refine g_iconst (z := 0) (v := 0) (by decide +kernel) rfl ?_
    exact x_iret hf hs (by decide +kernel) rfl (Nat.le_refl _) (Nat.le_refl _)
  · refine g_bipush (z := (-2)) (v := (-2)) (by decide +kernel) rfl ?_
    exact x_iret hf hs (by decide +kernel) rfl (Nat.le_refl _) (Nat.le_refl _)
def f_Mod_restore_L32 (p1 : Int32) : Nat → Int32 → am_H → Option (Int32 × am_H)
  | 0, _, _ => none
  | n + 1, v2, h =>
    (if (1137 : Int32) ≤ v2 then
      some (v2, h)
    else
      (am_rd (h.2.1 137) 3411 (((1137 : Int32) * (p1 + (1 : Int32))) + v2)).bind fun x7 =>
      (am_wr h 137 3411 v2 x7).bind fun h8 =>
      f_Mod_restore_L32 p1 n (v2 + (1 : Int32)) h8)
set_option maxRecDepth 100000 in
set_option maxHeartbeats 4000000 in
theorem t_Mod_restore_L32 {p1 : Int32}  {Q : Option Value → am_H → Prop} : ∀ (n : Nat) (v2 : Int32) (h : am_H) (q : Int32 × am_H), am_Sh h → f_Mod_restore_L32 p1 n v2 h = some q → (am_Sh q.2 → am_G 1 M_Mod_restore 0 0 Q 65 [(0, .ref 136), (1, .int p1), (2, .int q.1)] [] q.2 0 0) → am_G 1 M_Mod_restore 0 0 Q 32 [(0, .ref 136), (1, .int p1), (2, .int v2)] [] h 0 0 := by
  intro n
  induction n with
  | zero =>
    intro v2 h q hs hf kont
    rw [f_Mod_restore_L32] at hf
    cases hf
  | succ n ih =>
    intro v2 h q hs hf kont
    rw [f_Mod_restore_L32] at hf
    refine g_iload_n (i := 2) (by decide +kernel) rfl ?_
    refine g_sipush (z := 1137) (v := 1137) (by decide +kernel) rfl ?_
    refine x_icmp_ge (off := 29) (tgt := 65) hf (by decide +kernel) (by decide) (fun c6 hf => ?_) (fun c6 hf => ?_)
    · cases hf
      exact am_G.forget (am_subp [0, 1, 2] rfl) (kont hs)
    · refine g_aload_n (i := 0) (by decide +kernel) rfl ?_
      refine x_getr (hs.k k_136) F_Mod_13 (by decide +kernel) rfl (hs.r r_136_1) ?_
      refine g_iload_n (i := 2) (by decide +kernel) rfl ?_
      refine g_aload_n (i := 0) (by decide +kernel) rfl ?_
      refine x_getr (hs.k k_136) F_Mod_13 (by decide +kernel) rfl (hs.r r_136_1) ?_
      refine g_sipush (z := 1137) (v := 1137) (by decide +kernel) rfl ?_
      refine g_iload_n (i := 1) (by decide +kernel) rfl ?_
      refine g_iconst (z := 1) (v := 1) (by decide +kernel) rfl ?_
      refine g_iadd (by decide +kernel) ?_
      refine g_imul (by decide +kernel) ?_
      refine g_iload_n (i := 2) (by decide +kernel) rfl ?_
      refine g_iadd (by decide +kernel) ?_
      refine x_iald hf (hs.k k_137) (by decide +kernel) (fun x7 hf => ?_)
      refine x_iast hf hs (hs.k k_137) (by decide +kernel) (fun h8 hf hs => ?_)
      refine g_iinc (i := 2) (z := 1) (v := (v2 + (1 : Int32))) (by decide +kernel) rfl rfl rfl (by decide) (ls1 := [(0, .ref 136), (1, .int p1), (2, .int (v2 + (1 : Int32)))]) rfl ?_
      refine g_goto (off := (-30)) (tgt := 32) (by decide +kernel) (by decide) ?_
      exact am_G.forget (am_subp [0, 1, 2] rfl) (ih _ _ _ hs hf kont)
def f_Mod_restore (p1 : Int32) (h : am_H) : Option (Int32 × am_H) :=
  am_let (am_sI h 136 0 (0 : Int32)) fun h1 =>
  (f_Mod_within ((p1).toInt64) (0 : Int64) (1 : Int64) h1).bind fun q2 =>
  (if q2 = true then
    (am_rd (h1.2.1 138) 2 p1).bind fun x4 =>
    (if x4 = 0 then
      some ((-5 : Int32), h1)
    else
      (f_Mod_restore_L32 p1 am_fu (0 : Int32) h1).bind fun q9 =>
      (am_wr q9.2 137 3411 (45 : Int32) (0 : Int32)).bind fun h10 =>
      some ((0 : Int32), h10))
  else
    some ((-2 : Int32), h1))
set_option maxRecDepth 100000 in
set_option maxHeartbeats 4000000 in
theorem t_Mod_restore {p1 : Int32} {h : am_H} (hs : am_Sh h)  {r : Int32 × am_H} (hf : f_Mod_restore p1 h = some r) : am_Ct 1 M_Mod_restore [.ref 136, .int p1] h 0 0 (am_qI r) := by
  unfold f_Mod_restore at hf
  refine am_Ct.of (by decide) rfl (Nat.le_of_ble_eq_true rfl) (ls := [(0, .ref 136), (1, .int p1)]) rfl ?_
  refine g_aload_n (i := 0) (by decide +kernel) rfl ?_
  refine g_iconst (z := 0) (v := 0) (by decide +kernel) rfl ?_
  refine x_puti hf hs (hs.k k_136) F_Mod_1 (by decide +kernel) rfl rfl rfl rfl (fun h1 hf hs => ?_)
  refine g_iload_n (i := 1) (by decide +kernel) rfl ?_
  refine g_i2l (by decide +kernel) ?_
  refine g_lconst (z := 0) (v := 0) (by decide +kernel) rfl ?_
  refine g_lconst (z := 1) (v := 1) (by decide +kernel) rfl ?_
  refine x_callSBp (as := [.long ((p1).toInt64), .long (0 : Int64), .long (1 : Int64)]) St_Mod_within hf (fun q hq => t_Mod_within hs  hq) Y_Mod_within L_Mod_157 (by decide +kernel) rfl rfl (Nat.le_of_ble_eq_true rfl) (by decide) (Nat.le_refl _) (Nat.le_refl _) (fun q2 hf => ?_)
  refine x_ifb_ne (off := 6) (tgt := 18) hf (by decide +kernel) (by decide) (fun c3 hf => ?_) (fun c3 hf => ?_)
  · refine g_aload_n (i := 0) (by decide +kernel) rfl ?_
    refine x_getr (hs.k k_136) F_Mod_17 (by decide +kernel) rfl (hs.r r_136_2) ?_
    refine g_iload_n (i := 1) (by decide +kernel) rfl ?_
    refine x_zald hf (hs.k k_138) (by decide +kernel) (fun x4 hf => ?_)
    refine x_if_ne (off := 6) (tgt := 30) hf (by decide +kernel) (by decide) (fun c5 hf => ?_) (fun c5 hf => ?_)
    · refine g_iconst (z := 0) (v := 0) (by decide +kernel) rfl ?_
      refine g_istore_n (i := 2) (by decide +kernel) rfl (by decide) (ls1 := [(0, .ref 136), (1, .int p1), (2, .int (0 : Int32))]) rfl ?_
      obtain ⟨q9, hqq9, hf⟩ := Option.bind_eq_some_iff.mp hf
      refine am_G.forget (am_subp [0, 1, 2] rfl) (t_Mod_restore_L32  am_fu _ _ q9 hs hqq9 (fun hs => ?_))
      refine g_aload_n (i := 0) (by decide +kernel) rfl ?_
      refine x_getr (hs.k k_136) F_Mod_13 (by decide +kernel) rfl (hs.r r_136_1) ?_
      refine g_bipush (z := 45) (v := 45) (by decide +kernel) rfl ?_
      refine g_iconst (z := 0) (v := 0) (by decide +kernel) rfl ?_
      refine x_iast hf hs (hs.k k_137) (by decide +kernel) (fun h10 hf hs => ?_)
      refine g_iconst (z := 0) (v := 0) (by decide +kernel) rfl ?_
      exact x_iret hf hs (by decide +kernel) rfl (Nat.le_refl _) (Nat.le_refl _)
    · refine g_bipush (z := (-5)) (v := (-5)) (by decide +kernel) rfl ?_
      exact x_iret hf hs (by decide +kernel) rfl (Nat.le_refl _) (Nat.le_refl _)
  · refine g_bipush (z := (-2)) (v := (-2)) (by decide +kernel) rfl ?_
    exact x_iret hf hs (by decide +kernel) rfl (Nat.le_refl _) (Nat.le_refl _)
def f_Mod_errandsSet_L4  : Nat → Int32 → Int32 → am_H → Option (Int32 × Int32)
  | 0, _, _, _ => none
  | n + 1, v1, v2, h =>
    (am_rd (h.2.1 137) 3411 (3 : Int32)).bind fun x1 =>
    (if x1 ≤ v2 then
      some (v1, v2)
    else
      (f_Mod_isErrand v2 h).bind fun q3 =>
      (if q3 = true then
        f_Mod_errandsSet_L4  n (v1 ||| ((1 : Int32) <<< (v2 &&& 31))) (v2 + (1 : Int32)) h
      else
        f_Mod_errandsSet_L4  n (v1 ||| (0 : Int32)) (v2 + (1 : Int32)) h))
set_option maxRecDepth 100000 in
set_option maxHeartbeats 4000000 in
theorem t_Mod_errandsSet_L4   {Q : Option Value → am_H → Prop} : ∀ (n : Nat) (v1 : Int32) (v2 : Int32) (h : am_H) (q : Int32 × Int32), am_Sh h → f_Mod_errandsSet_L4  n v1 v2 h = some q → (am_G 1 M_Mod_errandsSet 0 0 Q 38 [(0, .ref 136), (1, .int q.1), (2, .int q.2)] [] h 0 0) → am_G 1 M_Mod_errandsSet 0 0 Q 4 [(0, .ref 136), (1, .int v1), (2, .int v2)] [] h 0 0 := by
  intro n
  induction n with
  | zero =>
    intro v1 v2 h q hs hf kont
    rw [f_Mod_errandsSet_L4] at hf
    cases hf
  | succ n ih =>
    intro v1 v2 h q hs hf kont
    rw [f_Mod_errandsSet_L4] at hf
    refine g_iload_n (i := 2) (by decide +kernel) rfl ?_
    refine g_aload_n (i := 0) (by decide +kernel) rfl ?_
    refine x_getr (hs.k k_136) F_Mod_13 (by decide +kernel) rfl (hs.r r_136_1) ?_
    refine g_iconst (z := 3) (v := 3) (by decide +kernel) rfl ?_
    refine x_iald hf (hs.k k_137) (by decide +kernel) (fun x1 hf => ?_)
    refine x_icmp_ge (off := 27) (tgt := 38) hf (by decide +kernel) (by decide) (fun c2 hf => ?_) (fun c2 hf => ?_)
    · cases hf
      exact am_G.forget (am_subp [0, 1, 2] rfl) kont
    · refine g_iload_n (i := 1) (by decide +kernel) rfl ?_
      refine g_aload_n (i := 0) (by decide +kernel) rfl ?_
      refine g_iload_n (i := 2) (by decide +kernel) rfl ?_
      refine x_callVBp (as := [.int v2]) Vi_Mod_isErrand Vs_Mod_isErrand (hs.k k_136) rfl hf (fun q hq => t_Mod_isErrand hs  hq) Y_Mod_isErrand L_Mod_362 (by decide +kernel) rfl rfl (Nat.le_of_ble_eq_true rfl) (by decide) (Nat.le_refl _) (Nat.le_refl _) (fun q3 hf => ?_)
      refine x_ifb_eq (off := 9) (tgt := 29) hf (by decide +kernel) (by decide) (fun c4 hf => ?_) (fun c4 hf => ?_)
      · refine g_iconst (z := 0) (v := 0) (by decide +kernel) rfl ?_
        refine g_ior (by decide +kernel) ?_
        refine g_istore_n (i := 1) (by decide +kernel) rfl (by decide) (ls1 := [(0, .ref 136), (1, .int (v1 ||| (0 : Int32))), (2, .int v2)]) rfl ?_
        refine g_iinc (i := 2) (z := 1) (v := (v2 + (1 : Int32))) (by decide +kernel) rfl rfl rfl (by decide) (ls1 := [(0, .ref 136), (1, .int (v1 ||| (0 : Int32))), (2, .int (v2 + (1 : Int32)))]) rfl ?_
        refine g_goto (off := (-31)) (tgt := 4) (by decide +kernel) (by decide) ?_
        exact am_G.forget (am_subp [0, 1, 2] rfl) (ih _ _ _ _ hs hf kont)
      · refine g_iconst (z := 1) (v := 1) (by decide +kernel) rfl ?_
        refine g_iload_n (i := 2) (by decide +kernel) rfl ?_
        refine g_ishl (by decide +kernel) ?_
        refine g_goto (off := 4) (tgt := 30) (by decide +kernel) (by decide) ?_
        refine g_ior (by decide +kernel) ?_
        refine g_istore_n (i := 1) (by decide +kernel) rfl (by decide) (ls1 := [(0, .ref 136), (1, .int (v1 ||| ((1 : Int32) <<< (v2 &&& 31)))), (2, .int v2)]) rfl ?_
        refine g_iinc (i := 2) (z := 1) (v := (v2 + (1 : Int32))) (by decide +kernel) rfl rfl rfl (by decide) (ls1 := [(0, .ref 136), (1, .int (v1 ||| ((1 : Int32) <<< (v2 &&& 31)))), (2, .int (v2 + (1 : Int32)))]) rfl ?_
        refine g_goto (off := (-31)) (tgt := 4) (by decide +kernel) (by decide) ?_
        exact am_G.forget (am_subp [0, 1, 2] rfl) (ih _ _ _ _ hs hf kont)
def f_Mod_errandsSet  (h : am_H) : Option (Int32) :=
  (f_Mod_errandsSet_L4  am_fu (0 : Int32) (0 : Int32) h).bind fun q5 =>
  some q5.1
set_option maxRecDepth 100000 in
set_option maxHeartbeats 4000000 in
theorem t_Mod_errandsSet  {h : am_H} (hs : am_Sh h)  {r : Int32} (hf : f_Mod_errandsSet  h = some r) : am_Ct 1 M_Mod_errandsSet [.ref 136] h 0 0 (am_pI h r) := by
  unfold f_Mod_errandsSet at hf
  refine am_Ct.of (by decide) rfl (Nat.le_of_ble_eq_true rfl) (ls := [(0, .ref 136)]) rfl ?_
  refine g_iconst (z := 0) (v := 0) (by decide +kernel) rfl ?_
  refine g_istore_n (i := 1) (by decide +kernel) rfl (by decide) (ls1 := [(0, .ref 136), (1, .int (0 : Int32))]) rfl ?_
  refine g_iconst (z := 0) (v := 0) (by decide +kernel) rfl ?_
  refine g_istore_n (i := 2) (by decide +kernel) rfl (by decide) (ls1 := [(0, .ref 136), (1, .int (0 : Int32)), (2, .int (0 : Int32))]) rfl ?_
  obtain ⟨q5, hqq5, hf⟩ := Option.bind_eq_some_iff.mp hf
  refine am_G.forget (am_subp [0, 1, 2] rfl) (t_Mod_errandsSet_L4  am_fu _ _ _ q5 hs hqq5 ?_)
  refine g_iload_n (i := 1) (by decide +kernel) rfl ?_
  exact x_iretp hf (by decide +kernel) rfl (Nat.le_refl _) (Nat.le_refl _)
def f_Mod_onSpan_L4  : Nat → Int32 → Int32 → am_H → Option (Int32 × Int32)
  | 0, _, _, _ => none
  | n + 1, v1, v2, h =>
    (am_rd (h.2.1 137) 3411 (3 : Int32)).bind fun x1 =>
    (if x1 ≤ v2 then
      some (v1, v2)
    else
      (am_rd (h.2.1 137) 3411 ((35 : Int32) + v2)).bind fun x3 =>
      (if x3 = (8 : Int32) then
        f_Mod_onSpan_L4  n (v1 ||| ((1 : Int32) <<< (v2 &&& 31))) (v2 + (1 : Int32)) h
      else
        f_Mod_onSpan_L4  n (v1 ||| (0 : Int32)) (v2 + (1 : Int32)) h))
set_option maxRecDepth 100000 in
set_option maxHeartbeats 4000000 in
theorem t_Mod_onSpan_L4   {Q : Option Value → am_H → Prop} : ∀ (n : Nat) (v1 : Int32) (v2 : Int32) (h : am_H) (q : Int32 × Int32), am_Sh h → f_Mod_onSpan_L4  n v1 v2 h = some q → (am_G 0 M_Mod_onSpan 0 0 Q 44 [(0, .ref 136), (1, .int q.1), (2, .int q.2)] [] h 0 0) → am_G 0 M_Mod_onSpan 0 0 Q 4 [(0, .ref 136), (1, .int v1), (2, .int v2)] [] h 0 0 := by
  intro n
  induction n with
  | zero =>
    intro v1 v2 h q hs hf kont
    rw [f_Mod_onSpan_L4] at hf
    cases hf
  | succ n ih =>
    intro v1 v2 h q hs hf kont
    rw [f_Mod_onSpan_L4] at hf
    refine g_iload_n (i := 2) (by decide +kernel) rfl ?_
    refine g_aload_n (i := 0) (by decide +kernel) rfl ?_
    refine x_getr (hs.k k_136) F_Mod_13 (by decide +kernel) rfl (hs.r r_136_1) ?_
    refine g_iconst (z := 3) (v := 3) (by decide +kernel) rfl ?_
    refine x_iald hf (hs.k k_137) (by decide +kernel) (fun x1 hf => ?_)
    refine x_icmp_ge (off := 33) (tgt := 44) hf (by decide +kernel) (by decide) (fun c2 hf => ?_) (fun c2 hf => ?_)
    · cases hf
      exact am_G.forget (am_subp [0, 1, 2] rfl) kont
    · refine g_iload_n (i := 1) (by decide +kernel) rfl ?_
      refine g_aload_n (i := 0) (by decide +kernel) rfl ?_
      refine x_getr (hs.k k_136) F_Mod_13 (by decide +kernel) rfl (hs.r r_136_1) ?_
      refine g_bipush (z := 35) (v := 35) (by decide +kernel) rfl ?_
      refine g_iload_n (i := 2) (by decide +kernel) rfl ?_
      refine g_iadd (by decide +kernel) ?_
      refine x_iald hf (hs.k k_137) (by decide +kernel) (fun x3 hf => ?_)
      refine g_bipush (z := 8) (v := 8) (by decide +kernel) rfl ?_
      refine x_icmp_ne (off := 9) (tgt := 35) hf (by decide +kernel) (by decide) (fun c4 hf => ?_) (fun c4 hf => ?_)
      · refine g_iconst (z := 0) (v := 0) (by decide +kernel) rfl ?_
        refine g_ior (by decide +kernel) ?_
        refine g_istore_n (i := 1) (by decide +kernel) rfl (by decide) (ls1 := [(0, .ref 136), (1, .int (v1 ||| (0 : Int32))), (2, .int v2)]) rfl ?_
        refine g_iinc (i := 2) (z := 1) (v := (v2 + (1 : Int32))) (by decide +kernel) rfl rfl rfl (by decide) (ls1 := [(0, .ref 136), (1, .int (v1 ||| (0 : Int32))), (2, .int (v2 + (1 : Int32)))]) rfl ?_
        refine g_goto (off := (-37)) (tgt := 4) (by decide +kernel) (by decide) ?_
        exact am_G.forget (am_subp [0, 1, 2] rfl) (ih _ _ _ _ hs hf kont)
      · refine g_iconst (z := 1) (v := 1) (by decide +kernel) rfl ?_
        refine g_iload_n (i := 2) (by decide +kernel) rfl ?_
        refine g_ishl (by decide +kernel) ?_
        refine g_goto (off := 4) (tgt := 36) (by decide +kernel) (by decide) ?_
        refine g_ior (by decide +kernel) ?_
        refine g_istore_n (i := 1) (by decide +kernel) rfl (by decide) (ls1 := [(0, .ref 136), (1, .int (v1 ||| ((1 : Int32) <<< (v2 &&& 31)))), (2, .int v2)]) rfl ?_
        refine g_iinc (i := 2) (z := 1) (v := (v2 + (1 : Int32))) (by decide +kernel) rfl rfl rfl (by decide) (ls1 := [(0, .ref 136), (1, .int (v1 ||| ((1 : Int32) <<< (v2 &&& 31)))), (2, .int (v2 + (1 : Int32)))]) rfl ?_
        refine g_goto (off := (-37)) (tgt := 4) (by decide +kernel) (by decide) ?_
        exact am_G.forget (am_subp [0, 1, 2] rfl) (ih _ _ _ _ hs hf kont)
def f_Mod_onSpan  (h : am_H) : Option (Int32) :=
  (f_Mod_onSpan_L4  am_fu (0 : Int32) (0 : Int32) h).bind fun q5 =>
  some q5.1
set_option maxRecDepth 100000 in
set_option maxHeartbeats 4000000 in
theorem t_Mod_onSpan  {h : am_H} (hs : am_Sh h)  {r : Int32} (hf : f_Mod_onSpan  h = some r) : am_Ct 0 M_Mod_onSpan [.ref 136] h 0 0 (am_pI h r) := by
  unfold f_Mod_onSpan at hf
  refine am_Ct.of (by decide) rfl (Nat.le_of_ble_eq_true rfl) (ls := [(0, .ref 136)]) rfl ?_
  refine g_iconst (z := 0) (v := 0) (by decide +kernel) rfl ?_
  refine g_istore_n (i := 1) (by decide +kernel) rfl (by decide) (ls1 := [(0, .ref 136), (1, .int (0 : Int32))]) rfl ?_
  refine g_iconst (z := 0) (v := 0) (by decide +kernel) rfl ?_
  refine g_istore_n (i := 2) (by decide +kernel) rfl (by decide) (ls1 := [(0, .ref 136), (1, .int (0 : Int32)), (2, .int (0 : Int32))]) rfl ?_
  obtain ⟨q5, hqq5, hf⟩ := Option.bind_eq_some_iff.mp hf
  refine am_G.forget (am_subp [0, 1, 2] rfl) (t_Mod_onSpan_L4  am_fu _ _ _ q5 hs hqq5 ?_)
  refine g_iload_n (i := 1) (by decide +kernel) rfl ?_
  exact x_iretp hf (by decide +kernel) rfl (Nat.le_refl _) (Nat.le_refl _)
