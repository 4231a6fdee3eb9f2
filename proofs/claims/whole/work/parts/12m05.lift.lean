def f_Mod_laysWay_L44 (p1 : Int32) (p2 : Int32) : Nat → Int32 → Int32 → Int32 → am_H → Option (Int32 × am_H)
  | 0, _, _, _, _ => none
  | n + 1, v3, v4, v5, h =>
    (if (9 : Int32) ≤ v5 then
      some (v5, h)
    else
      (f_Mod_isSpot ((v5).toInt64) h).bind fun q7 =>
      (if q7 = true then
        (am_rd (h.2.1 137) 3411 (26 : Int32)).bind fun x9 =>
        (f_Mod_fogIn v4 h).bind fun q10 =>
        (f_Mod_goesOn ((1 : Int32) <<< (v5 &&& 31)) (x9 + v4) q10 h).bind fun q11 =>
        (am_rd (h.2.1 147) 61 (v4 + (1 : Int32))).bind fun x12 =>
        (if (q11 &&& x12) = 0 then
          f_Mod_laysWay_L44 p1 p2 n v3 v4 (v5 + (1 : Int32)) h
        else
          (am_rd (h.2.1 147) 61 v4).bind fun x14 =>
          (am_wr h 147 61 v4 (x14 ||| ((1 : Int32) <<< (v5 &&& 31)))).bind fun h15 =>
          f_Mod_laysWay_L44 p1 p2 n v3 v4 (v5 + (1 : Int32)) h15)
      else
        f_Mod_laysWay_L44 p1 p2 n v3 v4 (v5 + (1 : Int32)) h))
set_option maxRecDepth 100000 in
set_option maxHeartbeats 4000000 in
theorem t_Mod_laysWay_L44 {p1 : Int32} {p2 : Int32}  {Q : Option Value → am_H → Prop} : ∀ (n : Nat) (v3 : Int32) (v4 : Int32) (v5 : Int32) (h : am_H) (q : Int32 × am_H), am_Sh h → f_Mod_laysWay_L44 p1 p2 n v3 v4 v5 h = some q → (am_Sh q.2 → am_G 4 M_Mod_laysWay 0 0 Q 118 [(0, .ref 136), (1, .int p1), (2, .int p2), (3, .int v3), (4, .int v4), (5, .int q.1)] [] q.2 0 0) → am_G 4 M_Mod_laysWay 0 0 Q 44 [(0, .ref 136), (1, .int p1), (2, .int p2), (3, .int v3), (4, .int v4), (5, .int v5)] [] h 0 0 := by
  intro n
  induction n with
  | zero =>
    intro v3 v4 v5 h q hs hf kont
    rw [f_Mod_laysWay_L44] at hf
    cases hf
  | succ n ih =>
    intro v3 v4 v5 h q hs hf kont
    rw [f_Mod_laysWay_L44] at hf
    refine g_iload (i := 5) (by decide +kernel) rfl ?_
    refine g_bipush (z := 9) (v := 9) (by decide +kernel) rfl ?_
    refine x_icmp_ge (off := 70) (tgt := 118) hf (by decide +kernel) (by decide) (fun c6 hf => ?_) (fun c6 hf => ?_)
    · cases hf
      exact am_G.forget (am_subp [0, 1, 2, 3, 4, 5] rfl) (kont hs)
    · refine g_aload_n (i := 0) (by decide +kernel) rfl ?_
      refine g_iload (i := 5) (by decide +kernel) rfl ?_
      refine g_i2l (by decide +kernel) ?_
      refine x_callVBp (as := [.long ((v5).toInt64)]) Vi_Mod_isSpot Vs_Mod_isSpot (hs.k k_136) rfl hf (fun q hq => t_Mod_isSpot hs  hq) Y_Mod_isSpot L_Mod_339 (by decide +kernel) rfl rfl (Nat.le_of_ble_eq_true rfl) (by decide) (Nat.le_refl _) (Nat.le_refl _) (fun q7 hf => ?_)
      refine x_ifb_eq (off := 54) (tgt := 112) hf (by decide +kernel) (by decide) (fun c8 hf => ?_) (fun c8 hf => ?_)
      · refine g_iinc (i := 5) (z := 1) (v := (v5 + (1 : Int32))) (by decide +kernel) rfl rfl rfl (by decide) (ls1 := [(0, .ref 136), (1, .int p1), (2, .int p2), (3, .int v3), (4, .int v4), (5, .int (v5 + (1 : Int32)))]) rfl ?_
        refine g_goto (off := (-71)) (tgt := 44) (by decide +kernel) (by decide) ?_
        exact am_G.forget (am_subp [0, 1, 2, 3, 4, 5] rfl) (ih _ _ _ _ _ hs hf kont)
      · refine g_aload_n (i := 0) (by decide +kernel) rfl ?_
        refine g_iconst (z := 1) (v := 1) (by decide +kernel) rfl ?_
        refine g_iload (i := 5) (by decide +kernel) rfl ?_
        refine g_ishl (by decide +kernel) ?_
        refine g_aload_n (i := 0) (by decide +kernel) rfl ?_
        refine x_getr (hs.k k_136) F_Mod_13 (by decide +kernel) rfl (hs.r r_136_1) ?_
        refine g_bipush (z := 26) (v := 26) (by decide +kernel) rfl ?_
        refine x_iald hf (hs.k k_137) (by decide +kernel) (fun x9 hf => ?_)
        refine g_iload (i := 4) (by decide +kernel) rfl ?_
        refine g_iadd (by decide +kernel) ?_
        refine g_aload_n (i := 0) (by decide +kernel) rfl ?_
        refine g_iload (i := 4) (by decide +kernel) rfl ?_
        refine x_callVIp (as := [.int v4]) Vi_Mod_fogIn Vs_Mod_fogIn (hs.k k_136) rfl hf (fun q hq => t_Mod_fogIn hs  hq) Y_Mod_fogIn L_Mod_251 (by decide +kernel) rfl rfl (Nat.le_of_ble_eq_true rfl) (by decide) (Nat.le_refl _) (Nat.le_refl _) (fun q10 hf => ?_)
        refine x_callVIp (as := [.int ((1 : Int32) <<< (v5 &&& 31)), .int (x9 + v4), .int q10]) Vi_Mod_goesOn Vs_Mod_goesOn (hs.k k_136) rfl hf (fun q hq => t_Mod_goesOn hs  hq) Y_Mod_goesOn L_Mod_330 (by decide +kernel) rfl rfl (Nat.le_of_ble_eq_true rfl) (by decide) (Nat.le_refl _) (Nat.le_refl _) (fun q11 hf => ?_)
        refine g_aload_n (i := 0) (by decide +kernel) rfl ?_
        refine x_getr (hs.k k_136) F_Mod_48 (by decide +kernel) rfl (hs.r r_136_24) ?_
        refine g_iload (i := 4) (by decide +kernel) rfl ?_
        refine g_iconst (z := 1) (v := 1) (by decide +kernel) rfl ?_
        refine g_iadd (by decide +kernel) ?_
        refine x_iald hf (hs.k k_147) (by decide +kernel) (fun x12 hf => ?_)
        refine g_iand (by decide +kernel) ?_
        refine x_if_eq (off := 17) (tgt := 112) hf (by decide +kernel) (by decide) (fun c13 hf => ?_) (fun c13 hf => ?_)
        · refine g_iinc (i := 5) (z := 1) (v := (v5 + (1 : Int32))) (by decide +kernel) rfl rfl rfl (by decide) (ls1 := [(0, .ref 136), (1, .int p1), (2, .int p2), (3, .int v3), (4, .int v4), (5, .int (v5 + (1 : Int32)))]) rfl ?_
          refine g_goto (off := (-71)) (tgt := 44) (by decide +kernel) (by decide) ?_
          exact am_G.forget (am_subp [0, 1, 2, 3, 4, 5] rfl) (ih _ _ _ _ _ hs hf kont)
        · refine g_aload_n (i := 0) (by decide +kernel) rfl ?_
          refine x_getr (hs.k k_136) F_Mod_48 (by decide +kernel) rfl (hs.r r_136_24) ?_
          refine g_iload (i := 4) (by decide +kernel) rfl ?_
          refine g_dup2_11 (by decide +kernel) rfl rfl ?_
          refine x_iald hf (hs.k k_147) (by decide +kernel) (fun x14 hf => ?_)
          refine g_iconst (z := 1) (v := 1) (by decide +kernel) rfl ?_
          refine g_iload (i := 5) (by decide +kernel) rfl ?_
          refine g_ishl (by decide +kernel) ?_
          refine g_ior (by decide +kernel) ?_
          refine x_iast hf hs (hs.k k_147) (by decide +kernel) (fun h15 hf hs => ?_)
          refine g_iinc (i := 5) (z := 1) (v := (v5 + (1 : Int32))) (by decide +kernel) rfl rfl rfl (by decide) (ls1 := [(0, .ref 136), (1, .int p1), (2, .int p2), (3, .int v3), (4, .int v4), (5, .int (v5 + (1 : Int32)))]) rfl ?_
          refine g_goto (off := (-71)) (tgt := 44) (by decide +kernel) (by decide) ?_
          exact am_G.forget (am_subp [0, 1, 2, 3, 4, 5] rfl) (ih _ _ _ _ _ hs hf kont)
def f_Mod_laysWay_L28 (p1 : Int32) (p2 : Int32) : Nat → Int32 → Int32 → am_H → Option (Int32 × am_H)
  | 0, _, _, _ => none
  | n + 1, v3, v4, h =>
    (if v4 < 0 then
      some (v4, h)
    else
      (am_wr h 147 61 v4 (0 : Int32)).bind fun h5 =>
      (f_Mod_laysWay_L44 p1 p2 am_fu v3 v4 (0 : Int32) h5).bind fun q16 =>
      f_Mod_laysWay_L28 p1 p2 n v3 (v4 + (-1 : Int32)) q16.2)
set_option maxRecDepth 100000 in
set_option maxHeartbeats 4000000 in
theorem t_Mod_laysWay_L28 {p1 : Int32} {p2 : Int32}  {Q : Option Value → am_H → Prop} : ∀ (n : Nat) (v3 : Int32) (v4 : Int32) (h : am_H) (q : Int32 × am_H), am_Sh h → f_Mod_laysWay_L28 p1 p2 n v3 v4 h = some q → (am_Sh q.2 → am_G 4 M_Mod_laysWay 0 0 Q 124 [(0, .ref 136), (1, .int p1), (2, .int p2), (3, .int v3), (4, .int q.1)] [] q.2 0 0) → am_G 4 M_Mod_laysWay 0 0 Q 28 [(0, .ref 136), (1, .int p1), (2, .int p2), (3, .int v3), (4, .int v4)] [] h 0 0 := by
  intro n
  induction n with
  | zero =>
    intro v3 v4 h q hs hf kont
    rw [f_Mod_laysWay_L28] at hf
    cases hf
  | succ n ih =>
    intro v3 v4 h q hs hf kont
    rw [f_Mod_laysWay_L28] at hf
    refine g_iload (i := 4) (by decide +kernel) rfl ?_
    refine x_if_lt (off := 94) (tgt := 124) hf (by decide +kernel) (by decide) (fun c4 hf => ?_) (fun c4 hf => ?_)
    · cases hf
      exact am_G.forget (am_subp [0, 1, 2, 3, 4] rfl) (kont hs)
    · refine g_aload_n (i := 0) (by decide +kernel) rfl ?_
      refine x_getr (hs.k k_136) F_Mod_48 (by decide +kernel) rfl (hs.r r_136_24) ?_
      refine g_iload (i := 4) (by decide +kernel) rfl ?_
      refine g_iconst (z := 0) (v := 0) (by decide +kernel) rfl ?_
      refine x_iast hf hs (hs.k k_147) (by decide +kernel) (fun h5 hf hs => ?_)
      refine g_iconst (z := 0) (v := 0) (by decide +kernel) rfl ?_
      refine g_istore (i := 5) (by decide +kernel) rfl (by decide) (ls1 := [(0, .ref 136), (1, .int p1), (2, .int p2), (3, .int v3), (4, .int v4), (5, .int (0 : Int32))]) rfl ?_
      obtain ⟨q16, hqq16, hf⟩ := Option.bind_eq_some_iff.mp hf
      refine am_G.forget (am_subp [0, 1, 2, 3, 4, 5] rfl) (t_Mod_laysWay_L44  am_fu _ _ _ _ q16 hs hqq16 (fun hs => ?_))
      refine g_iinc (i := 4) (z := (-1)) (v := (v4 + (-1 : Int32))) (by decide +kernel) rfl rfl rfl (by decide) (ls1 := [(0, .ref 136), (1, .int p1), (2, .int p2), (3, .int v3), (4, .int (v4 + (-1 : Int32))), (5, .int q16.1)]) rfl ?_
      refine g_goto (off := (-93)) (tgt := 28) (by decide +kernel) (by decide) ?_
      exact am_G.forget (am_subp [0, 1, 2, 3, 4] rfl) (ih _ _ _ _ hs hf kont)
def f_Mod_laysWay_L147 (p1 : Int32) (p2 : Int32) : Nat → Int32 → Int32 → Int32 → Int32 → am_H → Option (Int32 × am_H)
  | 0, _, _, _, _, _ => none
  | n + 1, v3, v4, v5, v6, h =>
    (am_rd (h.2.1 137) 3411 (26 : Int32)).bind fun x20 =>
    (f_Mod_fogIn v5 h).bind fun q21 =>
    (f_Mod_whyAct p1 v4 v6 (x20 + v5) q21 h).bind fun q22 =>
    (if q22.1 = 0 then
      (am_rd (q22.2.2.1 147) 61 (v5 + (1 : Int32))).bind fun x24 =>
      (am_rd (q22.2.2.1 137) 3411 (26 : Int32)).bind fun x25 =>
      (f_Mod_spanIn (x25 + v5) q22.2).bind fun q26 =>
      (f_Mod_leads v4 v6 q26 q22.2).bind fun q27 =>
      (f_Mod_isIn ((x24).toInt64) q27 q22.2).bind fun q28 =>
      (if q28 = true then
        some (v6, q22.2)
      else
        f_Mod_laysWay_L147 p1 p2 n v3 v4 v5 (v6 + (1 : Int32)) q22.2)
    else
      f_Mod_laysWay_L147 p1 p2 n v3 v4 v5 (v6 + (1 : Int32)) q22.2)
set_option maxRecDepth 100000 in
set_option maxHeartbeats 4000000 in
theorem t_Mod_laysWay_L147 {p1 : Int32} {p2 : Int32}  {Q : Option Value → am_H → Prop} : ∀ (n : Nat) (v3 : Int32) (v4 : Int32) (v5 : Int32) (v6 : Int32) (h : am_H) (q : Int32 × am_H), am_Sh h → f_Mod_laysWay_L147 p1 p2 n v3 v4 v5 v6 h = some q → (am_Sh q.2 → am_G 4 M_Mod_laysWay 0 0 Q 219 [(0, .ref 136), (1, .int p1), (2, .int p2), (3, .int v3), (4, .int v4), (5, .int v5), (6, .int q.1)] [] q.2 0 0) → am_G 4 M_Mod_laysWay 0 0 Q 147 [(0, .ref 136), (1, .int p1), (2, .int p2), (3, .int v3), (4, .int v4), (5, .int v5), (6, .int v6)] [] h 0 0 := by
  intro n
  induction n with
  | zero =>
    intro v3 v4 v5 v6 h q hs hf kont
    rw [f_Mod_laysWay_L147] at hf
    cases hf
  | succ n ih =>
    intro v3 v4 v5 v6 h q hs hf kont
    rw [f_Mod_laysWay_L147] at hf
    refine g_aload_n (i := 0) (by decide +kernel) rfl ?_
    refine g_iload_n (i := 1) (by decide +kernel) rfl ?_
    refine g_iload (i := 4) (by decide +kernel) rfl ?_
    refine g_iload (i := 6) (by decide +kernel) rfl ?_
    refine g_aload_n (i := 0) (by decide +kernel) rfl ?_
    refine x_getr (hs.k k_136) F_Mod_13 (by decide +kernel) rfl (hs.r r_136_1) ?_
    refine g_bipush (z := 26) (v := 26) (by decide +kernel) rfl ?_
    refine x_iald hf (hs.k k_137) (by decide +kernel) (fun x20 hf => ?_)
    refine g_iload (i := 5) (by decide +kernel) rfl ?_
    refine g_iadd (by decide +kernel) ?_
    refine g_aload_n (i := 0) (by decide +kernel) rfl ?_
    refine g_iload (i := 5) (by decide +kernel) rfl ?_
    refine x_callVIp (as := [.int v5]) Vi_Mod_fogIn Vs_Mod_fogIn (hs.k k_136) rfl hf (fun q hq => t_Mod_fogIn hs  hq) Y_Mod_fogIn L_Mod_251 (by decide +kernel) rfl rfl (Nat.le_of_ble_eq_true rfl) (by decide) (Nat.le_refl _) (Nat.le_refl _) (fun q21 hf => ?_)
    refine x_callVI (as := [.int p1, .int v4, .int v6, .int (x20 + v5), .int q21]) Vi_Mod_whyAct Vs_Mod_whyAct (hs.k k_136) rfl hf (fun q hq => t_Mod_whyAct hs  hq) Y_Mod_whyAct L_Mod_254 (by decide +kernel) rfl rfl (Nat.le_of_ble_eq_true rfl) (by decide) (Nat.le_refl _) (Nat.le_refl _) (fun q22 hf hs => ?_)
    refine x_if_ne (off := 41) (tgt := 213) hf (by decide +kernel) (by decide) (fun c23 hf => ?_) (fun c23 hf => ?_)
    · refine g_iinc (i := 6) (z := 1) (v := (v6 + (1 : Int32))) (by decide +kernel) rfl rfl rfl (by decide) (ls1 := [(0, .ref 136), (1, .int p1), (2, .int p2), (3, .int v3), (4, .int v4), (5, .int v5), (6, .int (v6 + (1 : Int32)))]) rfl ?_
      refine g_goto (off := (-69)) (tgt := 147) (by decide +kernel) (by decide) ?_
      exact am_G.forget (am_subp [0, 1, 2, 3, 4, 5, 6] rfl) (ih _ _ _ _ _ _ hs hf kont)
    · refine g_aload_n (i := 0) (by decide +kernel) rfl ?_
      refine x_getr (hs.k k_136) F_Mod_48 (by decide +kernel) rfl (hs.r r_136_24) ?_
      refine g_iload (i := 5) (by decide +kernel) rfl ?_
      refine g_iconst (z := 1) (v := 1) (by decide +kernel) rfl ?_
      refine g_iadd (by decide +kernel) ?_
      refine x_iald hf (hs.k k_147) (by decide +kernel) (fun x24 hf => ?_)
      refine g_i2l (by decide +kernel) ?_
      refine g_aload_n (i := 0) (by decide +kernel) rfl ?_
      refine g_iload (i := 4) (by decide +kernel) rfl ?_
      refine g_iload (i := 6) (by decide +kernel) rfl ?_
      refine g_aload_n (i := 0) (by decide +kernel) rfl ?_
      refine g_aload_n (i := 0) (by decide +kernel) rfl ?_
      refine x_getr (hs.k k_136) F_Mod_13 (by decide +kernel) rfl (hs.r r_136_1) ?_
      refine g_bipush (z := 26) (v := 26) (by decide +kernel) rfl ?_
      refine x_iald hf (hs.k k_137) (by decide +kernel) (fun x25 hf => ?_)
      refine g_iload (i := 5) (by decide +kernel) rfl ?_
      refine g_iadd (by decide +kernel) ?_
      refine x_callVIp (as := [.int (x25 + v5)]) Vi_Mod_spanIn Vs_Mod_spanIn (hs.k k_136) rfl hf (fun q hq => t_Mod_spanIn hs  hq) Y_Mod_spanIn L_Mod_235 (by decide +kernel) rfl rfl (Nat.le_of_ble_eq_true rfl) (by decide) (Nat.le_refl _) (Nat.le_refl _) (fun q26 hf => ?_)
      refine x_callVIp (as := [.int v4, .int v6, .int q26]) Vi_Mod_leads Vs_Mod_leads (hs.k k_136) rfl hf (fun q hq => t_Mod_leads hs  hq) Y_Mod_leads L_Mod_238 (by decide +kernel) rfl rfl (Nat.le_of_ble_eq_true rfl) (by decide) (Nat.le_refl _) (Nat.le_refl _) (fun q27 hf => ?_)
      refine x_callSBp (as := [.long ((x24).toInt64), .int q27]) St_Mod_isIn hf (fun q hq => t_Mod_isIn hs  hq) Y_Mod_isIn L_Mod_260 (by decide +kernel) rfl rfl (Nat.le_of_ble_eq_true rfl) (by decide) (Nat.le_refl _) (Nat.le_refl _) (fun q28 hf => ?_)
      refine x_ifb_ne (off := 9) (tgt := 219) hf (by decide +kernel) (by decide) (fun c29 hf => ?_) (fun c29 hf => ?_)
      · cases hf
        exact am_G.forget (am_subp [0, 1, 2, 3, 4, 5, 6] rfl) (kont hs)
      · refine g_iinc (i := 6) (z := 1) (v := (v6 + (1 : Int32))) (by decide +kernel) rfl rfl rfl (by decide) (ls1 := [(0, .ref 136), (1, .int p1), (2, .int p2), (3, .int v3), (4, .int v4), (5, .int v5), (6, .int (v6 + (1 : Int32)))]) rfl ?_
        refine g_goto (off := (-69)) (tgt := 147) (by decide +kernel) (by decide) ?_
        exact am_G.forget (am_subp [0, 1, 2, 3, 4, 5, 6] rfl) (ih _ _ _ _ _ _ hs hf kont)
def f_Mod_laysWay_L138 (p1 : Int32) (p2 : Int32) : Nat → Int32 → Int32 → Int32 → am_H → Option (Int32 × Int32 × am_H)
  | 0, _, _, _, _ => none
  | n + 1, v3, v4, v5, h =>
    (if v3 ≤ v5 then
      some (v4, v5, h)
    else
      (f_Mod_laysWay_L147 p1 p2 am_fu v3 v4 v5 (0 : Int32) h).bind fun q30 =>
      (am_wr q30.2 148 60 v5 q30.1).bind fun h31 =>
      (am_rd (h31.2.1 137) 3411 (26 : Int32)).bind fun x32 =>
      (f_Mod_spanIn (x32 + v5) h31).bind fun q33 =>
      (f_Mod_leads v4 q30.1 q33 h31).bind fun q34 =>
      f_Mod_laysWay_L138 p1 p2 n v3 q34 (v5 + (1 : Int32)) h31)
set_option maxRecDepth 100000 in
set_option maxHeartbeats 4000000 in
theorem t_Mod_laysWay_L138 {p1 : Int32} {p2 : Int32}  {Q : Option Value → am_H → Prop} : ∀ (n : Nat) (v3 : Int32) (v4 : Int32) (v5 : Int32) (h : am_H) (q : Int32 × Int32 × am_H), am_Sh h → f_Mod_laysWay_L138 p1 p2 n v3 v4 v5 h = some q → (am_Sh q.2.2 → am_G 4 M_Mod_laysWay 0 0 Q 258 [(0, .ref 136), (1, .int p1), (2, .int p2), (3, .int v3), (4, .int q.1), (5, .int q.2.1)] [] q.2.2 0 0) → am_G 4 M_Mod_laysWay 0 0 Q 138 [(0, .ref 136), (1, .int p1), (2, .int p2), (3, .int v3), (4, .int v4), (5, .int v5)] [] h 0 0 := by
  intro n
  induction n with
  | zero =>
    intro v3 v4 v5 h q hs hf kont
    rw [f_Mod_laysWay_L138] at hf
    cases hf
  | succ n ih =>
    intro v3 v4 v5 h q hs hf kont
    rw [f_Mod_laysWay_L138] at hf
    refine g_iload (i := 5) (by decide +kernel) rfl ?_
    refine g_iload_n (i := 3) (by decide +kernel) rfl ?_
    refine x_icmp_ge (off := 117) (tgt := 258) hf (by decide +kernel) (by decide) (fun c19 hf => ?_) (fun c19 hf => ?_)
    · cases hf
      exact am_G.forget (am_subp [0, 1, 2, 3, 4, 5] rfl) (kont hs)
    · refine g_iconst (z := 0) (v := 0) (by decide +kernel) rfl ?_
      refine g_istore (i := 6) (by decide +kernel) rfl (by decide) (ls1 := [(0, .ref 136), (1, .int p1), (2, .int p2), (3, .int v3), (4, .int v4), (5, .int v5), (6, .int (0 : Int32))]) rfl ?_
      obtain ⟨q30, hqq30, hf⟩ := Option.bind_eq_some_iff.mp hf
      refine am_G.forget (am_subp [0, 1, 2, 3, 4, 5, 6] rfl) (t_Mod_laysWay_L147  am_fu _ _ _ _ _ q30 hs hqq30 (fun hs => ?_))
      refine g_aload_n (i := 0) (by decide +kernel) rfl ?_
      refine x_getr (hs.k k_136) F_Mod_51 (by decide +kernel) rfl (hs.r r_136_25) ?_
      refine g_iload (i := 5) (by decide +kernel) rfl ?_
      refine g_iload (i := 6) (by decide +kernel) rfl ?_
      refine x_iast hf hs (hs.k k_148) (by decide +kernel) (fun h31 hf hs => ?_)
      refine g_aload_n (i := 0) (by decide +kernel) rfl ?_
      refine g_iload (i := 4) (by decide +kernel) rfl ?_
      refine g_iload (i := 6) (by decide +kernel) rfl ?_
      refine g_aload_n (i := 0) (by decide +kernel) rfl ?_
      refine g_aload_n (i := 0) (by decide +kernel) rfl ?_
      refine x_getr (hs.k k_136) F_Mod_13 (by decide +kernel) rfl (hs.r r_136_1) ?_
      refine g_bipush (z := 26) (v := 26) (by decide +kernel) rfl ?_
      refine x_iald hf (hs.k k_137) (by decide +kernel) (fun x32 hf => ?_)
      refine g_iload (i := 5) (by decide +kernel) rfl ?_
      refine g_iadd (by decide +kernel) ?_
      refine x_callVIp (as := [.int (x32 + v5)]) Vi_Mod_spanIn Vs_Mod_spanIn (hs.k k_136) rfl hf (fun q hq => t_Mod_spanIn hs  hq) Y_Mod_spanIn L_Mod_235 (by decide +kernel) rfl rfl (Nat.le_of_ble_eq_true rfl) (by decide) (Nat.le_refl _) (Nat.le_refl _) (fun q33 hf => ?_)
      refine x_callVIp (as := [.int v4, .int q30.1, .int q33]) Vi_Mod_leads Vs_Mod_leads (hs.k k_136) rfl hf (fun q hq => t_Mod_leads hs  hq) Y_Mod_leads L_Mod_238 (by decide +kernel) rfl rfl (Nat.le_of_ble_eq_true rfl) (by decide) (Nat.le_refl _) (Nat.le_refl _) (fun q34 hf => ?_)
      refine g_istore (i := 4) (by decide +kernel) rfl (by decide) (ls1 := [(0, .ref 136), (1, .int p1), (2, .int p2), (3, .int v3), (4, .int q34), (5, .int v5), (6, .int q30.1)]) rfl ?_
      refine g_iinc (i := 5) (z := 1) (v := (v5 + (1 : Int32))) (by decide +kernel) rfl rfl rfl (by decide) (ls1 := [(0, .ref 136), (1, .int p1), (2, .int p2), (3, .int v3), (4, .int q34), (5, .int (v5 + (1 : Int32))), (6, .int q30.1)]) rfl ?_
      refine g_goto (off := (-117)) (tgt := 138) (by decide +kernel) (by decide) ?_
      exact am_G.forget (am_subp [0, 1, 2, 3, 4, 5] rfl) (ih _ _ _ _ _ hs hf kont)
def f_Mod_laysWay (p1 : Int32) (p2 : Int32) (h : am_H) : Option (Int32 × am_H) :=
  (f_Mod_soonestOf p1 p2 h).bind fun q1 =>
  (if q1.1 = (-1 : Int32) then
    some ((-1 : Int32), q1.2)
  else
    (am_wr q1.2 147 61 q1.1 ((1 : Int32) <<< (p2 &&& 31))).bind fun h3 =>
    (f_Mod_laysWay_L28 p1 p2 am_fu q1.1 (q1.1 - (1 : Int32)) h3).bind fun q17 =>
    (am_rd (q17.2.2.1 137) 3411 ((35 : Int32) + p1)).bind fun x18 =>
    (f_Mod_laysWay_L138 p1 p2 am_fu q1.1 x18 (0 : Int32) q17.2).bind fun q35 =>
    some (q1.1, q35.2.2))
set_option maxRecDepth 100000 in
set_option maxHeartbeats 4000000 in
theorem t_Mod_laysWay {p1 : Int32} {p2 : Int32} {h : am_H} (hs : am_Sh h)  {r : Int32 × am_H} (hf : f_Mod_laysWay p1 p2 h = some r) : am_Ct 4 M_Mod_laysWay [.ref 136, .int p1, .int p2] h 0 0 (am_qI r) := by
  unfold f_Mod_laysWay at hf
  refine am_Ct.of (by decide) rfl (Nat.le_of_ble_eq_true rfl) (ls := [(0, .ref 136), (1, .int p1), (2, .int p2)]) rfl ?_
  refine g_aload_n (i := 0) (by decide +kernel) rfl ?_
  refine g_iload_n (i := 1) (by decide +kernel) rfl ?_
  refine g_iload_n (i := 2) (by decide +kernel) rfl ?_
  refine x_callVI (as := [.int p1, .int p2]) Vi_Mod_soonestOf Vs_Mod_soonestOf (hs.k k_136) rfl hf (fun q hq => t_Mod_soonestOf hs  hq) Y_Mod_soonestOf L_Mod_342 (by decide +kernel) rfl rfl (Nat.le_of_ble_eq_true rfl) (by decide) (Nat.le_refl _) (Nat.le_refl _) (fun q1 hf hs => ?_)
  refine g_istore_n (i := 3) (by decide +kernel) rfl (by decide) (ls1 := [(0, .ref 136), (1, .int p1), (2, .int p2), (3, .int q1.1)]) rfl ?_
  refine g_iload_n (i := 3) (by decide +kernel) rfl ?_
  refine g_iconst (z := (-1)) (v := (-1)) (by decide +kernel) rfl ?_
  refine x_icmp_ne (off := 5) (tgt := 14) hf (by decide +kernel) (by decide) (fun c2 hf => ?_) (fun c2 hf => ?_)
  · refine g_aload_n (i := 0) (by decide +kernel) rfl ?_
    refine x_getr (hs.k k_136) F_Mod_48 (by decide +kernel) rfl (hs.r r_136_24) ?_
    refine g_iload_n (i := 3) (by decide +kernel) rfl ?_
    refine g_iconst (z := 1) (v := 1) (by decide +kernel) rfl ?_
    refine g_iload_n (i := 2) (by decide +kernel) rfl ?_
    refine g_ishl (by decide +kernel) ?_
    refine x_iast hf hs (hs.k k_147) (by decide +kernel) (fun h3 hf hs => ?_)
    refine g_iload_n (i := 3) (by decide +kernel) rfl ?_
    refine g_iconst (z := 1) (v := 1) (by decide +kernel) rfl ?_
    refine g_isub (by decide +kernel) ?_
    refine g_istore (i := 4) (by decide +kernel) rfl (by decide) (ls1 := [(0, .ref 136), (1, .int p1), (2, .int p2), (3, .int q1.1), (4, .int (q1.1 - (1 : Int32)))]) rfl ?_
    obtain ⟨q17, hqq17, hf⟩ := Option.bind_eq_some_iff.mp hf
    refine am_G.forget (am_subp [0, 1, 2, 3, 4] rfl) (t_Mod_laysWay_L28  am_fu _ _ _ q17 hs hqq17 (fun hs => ?_))
    refine g_aload_n (i := 0) (by decide +kernel) rfl ?_
    refine x_getr (hs.k k_136) F_Mod_13 (by decide +kernel) rfl (hs.r r_136_1) ?_
    refine g_bipush (z := 35) (v := 35) (by decide +kernel) rfl ?_
    refine g_iload_n (i := 1) (by decide +kernel) rfl ?_
    refine g_iadd (by decide +kernel) ?_
    refine x_iald hf (hs.k k_137) (by decide +kernel) (fun x18 hf => ?_)
    refine g_istore (i := 4) (by decide +kernel) rfl (by decide) (ls1 := [(0, .ref 136), (1, .int p1), (2, .int p2), (3, .int q1.1), (4, .int x18)]) rfl ?_
    refine g_iconst (z := 0) (v := 0) (by decide +kernel) rfl ?_
    refine g_istore (i := 5) (by decide +kernel) rfl (by decide) (ls1 := [(0, .ref 136), (1, .int p1), (2, .int p2), (3, .int q1.1), (4, .int x18), (5, .int (0 : Int32))]) rfl ?_
    obtain ⟨q35, hqq35, hf⟩ := Option.bind_eq_some_iff.mp hf
    refine am_G.forget (am_subp [0, 1, 2, 3, 4, 5] rfl) (t_Mod_laysWay_L138  am_fu _ _ _ _ q35 hs hqq35 (fun hs => ?_))
    refine g_iload_n (i := 3) (by decide +kernel) rfl ?_
    exact x_iret hf hs (by decide +kernel) rfl (Nat.le_refl _) (Nat.le_refl _)
  · refine g_iconst (z := (-1)) (v := (-1)) (by decide +kernel) rfl ?_
    exact x_iret hf hs (by decide +kernel) rfl (Nat.le_refl _) (Nat.le_refl _)
def f_Mod_way (p1 : Int32) (p2 : Int32) (p3 : Int32) (h : am_H) : Option (Int32 × am_H) :=
  am_let (am_sI h 136 0 (0 : Int32)) fun h1 =>
  (f_Mod_isPerson ((p1).toInt64) h1).bind fun q2 =>
  (if q2 = true then
    (f_Mod_isSpot ((p2).toInt64) h1).bind fun q4 =>
    (if q4 = true then
      (if 0 ≤ p3 then
        (f_Mod_laysWay p1 p2 h1).bind fun q7 =>
        (if q7.1 ≤ p3 then
          some ((-1 : Int32), q7.2)
        else
          (am_rd (q7.2.2.1 148) 60 p3).bind fun x9 =>
          some (x9, q7.2))
      else
        some ((-3 : Int32), h1))
    else
      some ((-2 : Int32), h1))
  else
    some ((-2 : Int32), h1))
set_option maxRecDepth 100000 in
set_option maxHeartbeats 4000000 in
theorem t_Mod_way {p1 : Int32} {p2 : Int32} {p3 : Int32} {h : am_H} (hs : am_Sh h)  {r : Int32 × am_H} (hf : f_Mod_way p1 p2 p3 h = some r) : am_Ct 5 M_Mod_way [.ref 136, .int p1, .int p2, .int p3] h 0 0 (am_qI r) := by
  unfold f_Mod_way at hf
  refine am_Ct.of (by decide) rfl (Nat.le_of_ble_eq_true rfl) (ls := [(0, .ref 136), (1, .int p1), (2, .int p2), (3, .int p3)]) rfl ?_
  refine g_aload_n (i := 0) (by decide +kernel) rfl ?_
  refine g_iconst (z := 0) (v := 0) (by decide +kernel) rfl ?_
  refine x_puti hf hs (hs.k k_136) F_Mod_1 (by decide +kernel) rfl rfl rfl rfl (fun h1 hf hs => ?_)
  refine g_aload_n (i := 0) (by decide +kernel) rfl ?_
  refine g_iload_n (i := 1) (by decide +kernel) rfl ?_
  refine g_i2l (by decide +kernel) ?_
  refine x_callVBp (as := [.long ((p1).toInt64)]) Vi_Mod_isPerson Vs_Mod_isPerson (hs.k k_136) rfl hf (fun q hq => t_Mod_isPerson hs  hq) Y_Mod_isPerson L_Mod_245 (by decide +kernel) rfl rfl (Nat.le_of_ble_eq_true rfl) (by decide) (Nat.le_refl _) (Nat.le_refl _) (fun q2 hf => ?_)
  refine x_ifb_eq (off := 12) (tgt := 23) hf (by decide +kernel) (by decide) (fun c3 hf => ?_) (fun c3 hf => ?_)
  · refine g_bipush (z := (-2)) (v := (-2)) (by decide +kernel) rfl ?_
    exact x_iret hf hs (by decide +kernel) rfl (Nat.le_refl _) (Nat.le_refl _)
  · refine g_aload_n (i := 0) (by decide +kernel) rfl ?_
    refine g_iload_n (i := 2) (by decide +kernel) rfl ?_
    refine g_i2l (by decide +kernel) ?_
    refine x_callVBp (as := [.long ((p2).toInt64)]) Vi_Mod_isSpot Vs_Mod_isSpot (hs.k k_136) rfl hf (fun q hq => t_Mod_isSpot hs  hq) Y_Mod_isSpot L_Mod_339 (by decide +kernel) rfl rfl (Nat.le_of_ble_eq_true rfl) (by decide) (Nat.le_refl _) (Nat.le_refl _) (fun q4 hf => ?_)
    refine x_ifb_ne (off := 6) (tgt := 26) hf (by decide +kernel) (by decide) (fun c5 hf => ?_) (fun c5 hf => ?_)
    · refine g_iload_n (i := 3) (by decide +kernel) rfl ?_
      refine x_if_ge (off := 6) (tgt := 33) hf (by decide +kernel) (by decide) (fun c6 hf => ?_) (fun c6 hf => ?_)
      · refine g_aload_n (i := 0) (by decide +kernel) rfl ?_
        refine g_iload_n (i := 1) (by decide +kernel) rfl ?_
        refine g_iload_n (i := 2) (by decide +kernel) rfl ?_
        refine x_callVI (as := [.int p1, .int p2]) Vi_Mod_laysWay Vs_Mod_laysWay (hs.k k_136) rfl hf (fun q hq => t_Mod_laysWay hs  hq) Y_Mod_laysWay L_Mod_345 (by decide +kernel) rfl rfl (Nat.le_of_ble_eq_true rfl) (by decide) (Nat.le_refl _) (Nat.le_refl _) (fun q7 hf hs => ?_)
        refine g_istore (i := 4) (by decide +kernel) rfl (by decide) (ls1 := [(0, .ref 136), (1, .int p1), (2, .int p2), (3, .int p3), (4, .int q7.1)]) rfl ?_
        refine g_iload_n (i := 3) (by decide +kernel) rfl ?_
        refine g_iload (i := 4) (by decide +kernel) rfl ?_
        refine x_icmp_ge (off := 12) (tgt := 56) hf (by decide +kernel) (by decide) (fun c8 hf => ?_) (fun c8 hf => ?_)
        · refine g_iconst (z := (-1)) (v := (-1)) (by decide +kernel) rfl ?_
          exact x_iret hf hs (by decide +kernel) rfl (Nat.le_refl _) (Nat.le_refl _)
        · refine g_aload_n (i := 0) (by decide +kernel) rfl ?_
          refine x_getr (hs.k k_136) F_Mod_51 (by decide +kernel) rfl (hs.r r_136_25) ?_
          refine g_iload_n (i := 3) (by decide +kernel) rfl ?_
          refine x_iald hf (hs.k k_148) (by decide +kernel) (fun x9 hf => ?_)
          refine g_goto (off := 4) (tgt := 57) (by decide +kernel) (by decide) ?_
          exact x_iret hf hs (by decide +kernel) rfl (Nat.le_refl _) (Nat.le_refl _)
      · refine g_bipush (z := (-3)) (v := (-3)) (by decide +kernel) rfl ?_
        exact x_iret hf hs (by decide +kernel) rfl (Nat.le_refl _) (Nat.le_refl _)
    · refine g_bipush (z := (-2)) (v := (-2)) (by decide +kernel) rfl ?_
      exact x_iret hf hs (by decide +kernel) rfl (Nat.le_refl _) (Nat.le_refl _)
def f_Mod_ways_L46 (p1 : Int32) (p2 : Int32) (p3 : Int32) : Nat → Int32 → am_H → Option (Int32 × am_H)
  | 0, _, _ => none
  | n + 1, v4, h =>
    (if (9 : Int32) ≤ v4 then
      some (v4, h)
    else
      (am_rd (h.2.1 137) 3411 ((35 : Int32) + p1)).bind fun x9 =>
      (am_wrJ h 149 9 v4 (if v4 = x9 then (1 : Int64) else (0 : Int64))).bind fun h11 =>
      f_Mod_ways_L46 p1 p2 p3 n (v4 + (1 : Int32)) h11)
set_option maxRecDepth 100000 in
set_option maxHeartbeats 4000000 in
theorem t_Mod_ways_L46 {p1 : Int32} {p2 : Int32} {p3 : Int32}  {Q : Option Value → am_H → Prop} : ∀ (n : Nat) (v4 : Int32) (h : am_H) (q : Int32 × am_H), am_Sh h → f_Mod_ways_L46 p1 p2 p3 n v4 h = some q → (am_Sh q.2 → am_G 3 M_Mod_ways 0 0 Q 85 [(0, .ref 136), (1, .int p1), (2, .int p2), (3, .int p3), (4, .int q.1)] [] q.2 0 0) → am_G 3 M_Mod_ways 0 0 Q 46 [(0, .ref 136), (1, .int p1), (2, .int p2), (3, .int p3), (4, .int v4)] [] h 0 0 := by
  intro n
  induction n with
  | zero =>
    intro v4 h q hs hf kont
    rw [f_Mod_ways_L46] at hf
    cases hf
  | succ n ih =>
    intro v4 h q hs hf kont
    rw [f_Mod_ways_L46] at hf
    refine g_iload (i := 4) (by decide +kernel) rfl ?_
    refine g_bipush (z := 9) (v := 9) (by decide +kernel) rfl ?_
    refine x_icmp_ge (off := 35) (tgt := 85) hf (by decide +kernel) (by decide) (fun c8 hf => ?_) (fun c8 hf => ?_)
    · cases hf
      exact am_G.forget (am_subp [0, 1, 2, 3, 4] rfl) (kont hs)
    · refine g_aload_n (i := 0) (by decide +kernel) rfl ?_
      refine x_getr (hs.k k_136) F_Mod_54 (by decide +kernel) rfl (hs.r r_136_26) ?_
      refine g_iload (i := 4) (by decide +kernel) rfl ?_
      refine g_iload (i := 4) (by decide +kernel) rfl ?_
      refine g_aload_n (i := 0) (by decide +kernel) rfl ?_
      refine x_getr (hs.k k_136) F_Mod_13 (by decide +kernel) rfl (hs.r r_136_1) ?_
      refine g_bipush (z := 35) (v := 35) (by decide +kernel) rfl ?_
      refine g_iload_n (i := 1) (by decide +kernel) rfl ?_
      refine g_iadd (by decide +kernel) ?_
      refine x_iald hf (hs.k k_137) (by decide +kernel) (fun x9 hf => ?_)
      refine am_cut (J := 78) (ls' := [(0, .ref 136), (1, .int p1), (2, .int p2), (3, .int p3), (4, .int v4)]) (st' := [.long (if v4 = x9 then (1 : Int64) else (0 : Int64)), .int v4, .ref 149]) ?_ (fun K78 => ?_)
      · refine x_last hf hs (hs.k k_149) (by decide +kernel) (fun h11 hf hs => ?_)
        refine g_iinc (i := 4) (z := 1) (v := (v4 + (1 : Int32))) (by decide +kernel) rfl rfl rfl (by decide) (ls1 := [(0, .ref 136), (1, .int p1), (2, .int p2), (3, .int p3), (4, .int (v4 + (1 : Int32)))]) rfl ?_
        refine g_goto (off := (-36)) (tgt := 46) (by decide +kernel) (by decide) ?_
        exact am_G.forget (am_subp [0, 1, 2, 3, 4] rfl) (ih _ _ _ hs hf kont)
      refine p_icmp_ne (off := 7) (tgt := 77) (by decide +kernel) (by decide) (fun c10 => ?_) (fun c10 => ?_)
      · refine g_lconst (z := 0) (v := 0) (by decide +kernel) rfl ?_
        have K1 := K78
        simp only [if_neg c10] at K1
        exact am_G.forget (am_subp [0, 1, 2, 3, 4] rfl) K1
      · refine g_lconst (z := 1) (v := 1) (by decide +kernel) rfl ?_
        refine g_goto (off := 4) (tgt := 78) (by decide +kernel) (by decide) ?_
        have K1 := K78
        simp only [if_pos c10] at K1
        exact am_G.forget (am_subp [0, 1, 2, 3, 4] rfl) K1
def f_Mod_ways_L97 (p1 : Int32) (p2 : Int32) (p3 : Int32) : Nat → Int32 → Int32 → am_H → Option (Int32 × am_H)
  | 0, _, _, _ => none
  | n + 1, v4, v5, h =>
    (if (9 : Int32) ≤ v5 then
      some (v5, h)
    else
      (am_wrJ h 150 9 v5 (0 : Int64)).bind fun h15 =>
      f_Mod_ways_L97 p1 p2 p3 n v4 (v5 + (1 : Int32)) h15)
set_option maxRecDepth 100000 in
set_option maxHeartbeats 4000000 in
theorem t_Mod_ways_L97 {p1 : Int32} {p2 : Int32} {p3 : Int32}  {Q : Option Value → am_H → Prop} : ∀ (n : Nat) (v4 : Int32) (v5 : Int32) (h : am_H) (q : Int32 × am_H), am_Sh h → f_Mod_ways_L97 p1 p2 p3 n v4 v5 h = some q → (am_Sh q.2 → am_G 3 M_Mod_ways 0 0 Q 118 [(0, .ref 136), (1, .int p1), (2, .int p2), (3, .int p3), (4, .int v4), (5, .int q.1)] [] q.2 0 0) → am_G 3 M_Mod_ways 0 0 Q 97 [(0, .ref 136), (1, .int p1), (2, .int p2), (3, .int p3), (4, .int v4), (5, .int v5)] [] h 0 0 := by
  intro n
  induction n with
  | zero =>
    intro v4 v5 h q hs hf kont
    rw [f_Mod_ways_L97] at hf
    cases hf
  | succ n ih =>
    intro v4 v5 h q hs hf kont
    rw [f_Mod_ways_L97] at hf
    refine g_iload (i := 5) (by decide +kernel) rfl ?_
    refine g_bipush (z := 9) (v := 9) (by decide +kernel) rfl ?_
    refine x_icmp_ge (off := 17) (tgt := 118) hf (by decide +kernel) (by decide) (fun c14 hf => ?_) (fun c14 hf => ?_)
    · cases hf
      exact am_G.forget (am_subp [0, 1, 2, 3, 4, 5] rfl) (kont hs)
    · refine g_aload_n (i := 0) (by decide +kernel) rfl ?_
      refine x_getr (hs.k k_136) F_Mod_58 (by decide +kernel) rfl (hs.r r_136_27) ?_
      refine g_iload (i := 5) (by decide +kernel) rfl ?_
      refine g_lconst (z := 0) (v := 0) (by decide +kernel) rfl ?_
      refine x_last hf hs (hs.k k_150) (by decide +kernel) (fun h15 hf hs => ?_)
      refine g_iinc (i := 5) (z := 1) (v := (v5 + (1 : Int32))) (by decide +kernel) rfl rfl rfl (by decide) (ls1 := [(0, .ref 136), (1, .int p1), (2, .int p2), (3, .int p3), (4, .int v4), (5, .int (v5 + (1 : Int32)))]) rfl ?_
      refine g_goto (off := (-18)) (tgt := 97) (by decide +kernel) (by decide) ?_
      exact am_G.forget (am_subp [0, 1, 2, 3, 4, 5] rfl) (ih _ _ _ _ hs hf kont)
def f_Mod_ways_L131 (p1 : Int32) (p2 : Int32) (p3 : Int32) : Nat → Int32 → Int32 → Int32 → am_H → Option (Int32 × am_H)
  | 0, _, _, _, _ => none
  | n + 1, v4, v5, v6, h =>
    (if (7 : Int32) ≤ v6 then
      some (v6, h)
    else
      (am_rd (h.2.2.1 149) 9 v5).bind fun x19 =>
      (if (lg_cmp x19 (0 : Int64)) = 0 then
        f_Mod_ways_L131 p1 p2 p3 n v4 v5 (v6 + (1 : Int32)) h
      else
        (am_rd (h.2.1 137) 3411 (26 : Int32)).bind fun x21 =>
        (f_Mod_fogIn v4 h).bind fun q22 =>
        (f_Mod_whyAct p1 v5 v6 (x21 + v4) q22 h).bind fun q23 =>
        (if q23.1 = 0 then
          (am_rd (q23.2.2.1 137) 3411 (26 : Int32)).bind fun x25 =>
          (f_Mod_spanIn (x25 + v4) q23.2).bind fun q26 =>
          (f_Mod_leads v5 v6 q26 q23.2).bind fun q27 =>
          (am_rd (q23.2.2.2.1 150) 9 q27).bind fun x28 =>
          (am_rd (q23.2.2.2.1 149) 9 v5).bind fun x29 =>
          (am_wrJ q23.2 150 9 q27 (x28 + x29)).bind fun h30 =>
          f_Mod_ways_L131 p1 p2 p3 n v4 v5 (v6 + (1 : Int32)) h30
        else
          f_Mod_ways_L131 p1 p2 p3 n v4 v5 (v6 + (1 : Int32)) q23.2)))
set_option maxRecDepth 100000 in
set_option maxHeartbeats 4000000 in
theorem t_Mod_ways_L131 {p1 : Int32} {p2 : Int32} {p3 : Int32}  {Q : Option Value → am_H → Prop} : ∀ (n : Nat) (v4 : Int32) (v5 : Int32) (v6 : Int32) (h : am_H) (q : Int32 × am_H), am_Sh h → f_Mod_ways_L131 p1 p2 p3 n v4 v5 v6 h = some q → (am_Sh q.2 → am_G 3 M_Mod_ways 0 0 Q 224 [(0, .ref 136), (1, .int p1), (2, .int p2), (3, .int p3), (4, .int v4), (5, .int v5), (6, .int q.1)] [] q.2 0 0) → am_G 3 M_Mod_ways 0 0 Q 131 [(0, .ref 136), (1, .int p1), (2, .int p2), (3, .int p3), (4, .int v4), (5, .int v5), (6, .int v6)] [] h 0 0 := by
  intro n
  induction n with
  | zero =>
    intro v4 v5 v6 h q hs hf kont
    rw [f_Mod_ways_L131] at hf
    cases hf
  | succ n ih =>
    intro v4 v5 v6 h q hs hf kont
    rw [f_Mod_ways_L131] at hf
    refine g_iload (i := 6) (by decide +kernel) rfl ?_
    refine g_bipush (z := 7) (v := 7) (by decide +kernel) rfl ?_
    refine x_icmp_ge (off := 89) (tgt := 224) hf (by decide +kernel) (by decide) (fun c18 hf => ?_) (fun c18 hf => ?_)
    · cases hf
      exact am_G.forget (am_subp [0, 1, 2, 3, 4, 5, 6] rfl) (kont hs)
    · refine g_aload_n (i := 0) (by decide +kernel) rfl ?_
      refine x_getr (hs.k k_136) F_Mod_54 (by decide +kernel) rfl (hs.r r_136_26) ?_
      refine g_iload (i := 5) (by decide +kernel) rfl ?_
      refine x_lald hf (hs.k k_149) (by decide +kernel) (fun x19 hf => ?_)
      refine g_lconst (z := 0) (v := 0) (by decide +kernel) rfl ?_
      refine g_lcmp (by decide +kernel) ?_
      refine x_if_eq (off := 71) (tgt := 218) hf (by decide +kernel) (by decide) (fun c20 hf => ?_) (fun c20 hf => ?_)
      · refine g_iinc (i := 6) (z := 1) (v := (v6 + (1 : Int32))) (by decide +kernel) rfl rfl rfl (by decide) (ls1 := [(0, .ref 136), (1, .int p1), (2, .int p2), (3, .int p3), (4, .int v4), (5, .int v5), (6, .int (v6 + (1 : Int32)))]) rfl ?_
        refine g_goto (off := (-90)) (tgt := 131) (by decide +kernel) (by decide) ?_
        exact am_G.forget (am_subp [0, 1, 2, 3, 4, 5, 6] rfl) (ih _ _ _ _ _ hs hf kont)
      · refine g_aload_n (i := 0) (by decide +kernel) rfl ?_
        refine g_iload_n (i := 1) (by decide +kernel) rfl ?_
        refine g_iload (i := 5) (by decide +kernel) rfl ?_
        refine g_iload (i := 6) (by decide +kernel) rfl ?_
        refine g_aload_n (i := 0) (by decide +kernel) rfl ?_
        refine x_getr (hs.k k_136) F_Mod_13 (by decide +kernel) rfl (hs.r r_136_1) ?_
        refine g_bipush (z := 26) (v := 26) (by decide +kernel) rfl ?_
        refine x_iald hf (hs.k k_137) (by decide +kernel) (fun x21 hf => ?_)
        refine g_iload (i := 4) (by decide +kernel) rfl ?_
        refine g_iadd (by decide +kernel) ?_
        refine g_aload_n (i := 0) (by decide +kernel) rfl ?_
        refine g_iload (i := 4) (by decide +kernel) rfl ?_
        refine x_callVIp (as := [.int v4]) Vi_Mod_fogIn Vs_Mod_fogIn (hs.k k_136) rfl hf (fun q hq => t_Mod_fogIn hs  hq) Y_Mod_fogIn L_Mod_251 (by decide +kernel) rfl rfl (Nat.le_of_ble_eq_true rfl) (by decide) (Nat.le_refl _) (Nat.le_refl _) (fun q22 hf => ?_)
        refine x_callVI (as := [.int p1, .int v5, .int v6, .int (x21 + v4), .int q22]) Vi_Mod_whyAct Vs_Mod_whyAct (hs.k k_136) rfl hf (fun q hq => t_Mod_whyAct hs  hq) Y_Mod_whyAct L_Mod_254 (by decide +kernel) rfl rfl (Nat.le_of_ble_eq_true rfl) (by decide) (Nat.le_refl _) (Nat.le_refl _) (fun q23 hf hs => ?_)
        refine x_if_eq (off := 6) (tgt := 181) hf (by decide +kernel) (by decide) (fun c24 hf => ?_) (fun c24 hf => ?_)
        · refine g_aload_n (i := 0) (by decide +kernel) rfl ?_
          refine x_getr (hs.k k_136) F_Mod_58 (by decide +kernel) rfl (hs.r r_136_27) ?_
          refine g_aload_n (i := 0) (by decide +kernel) rfl ?_
          refine g_iload (i := 5) (by decide +kernel) rfl ?_
          refine g_iload (i := 6) (by decide +kernel) rfl ?_
          refine g_aload_n (i := 0) (by decide +kernel) rfl ?_
          refine g_aload_n (i := 0) (by decide +kernel) rfl ?_
          refine x_getr (hs.k k_136) F_Mod_13 (by decide +kernel) rfl (hs.r r_136_1) ?_
          refine g_bipush (z := 26) (v := 26) (by decide +kernel) rfl ?_
          refine x_iald hf (hs.k k_137) (by decide +kernel) (fun x25 hf => ?_)
          refine g_iload (i := 4) (by decide +kernel) rfl ?_
          refine g_iadd (by decide +kernel) ?_
          refine x_callVIp (as := [.int (x25 + v4)]) Vi_Mod_spanIn Vs_Mod_spanIn (hs.k k_136) rfl hf (fun q hq => t_Mod_spanIn hs  hq) Y_Mod_spanIn L_Mod_235 (by decide +kernel) rfl rfl (Nat.le_of_ble_eq_true rfl) (by decide) (Nat.le_refl _) (Nat.le_refl _) (fun q26 hf => ?_)
          refine x_callVIp (as := [.int v5, .int v6, .int q26]) Vi_Mod_leads Vs_Mod_leads (hs.k k_136) rfl hf (fun q hq => t_Mod_leads hs  hq) Y_Mod_leads L_Mod_238 (by decide +kernel) rfl rfl (Nat.le_of_ble_eq_true rfl) (by decide) (Nat.le_refl _) (Nat.le_refl _) (fun q27 hf => ?_)
          refine g_dup2_11 (by decide +kernel) rfl rfl ?_
          refine x_lald hf (hs.k k_150) (by decide +kernel) (fun x28 hf => ?_)
          refine g_aload_n (i := 0) (by decide +kernel) rfl ?_
          refine x_getr (hs.k k_136) F_Mod_54 (by decide +kernel) rfl (hs.r r_136_26) ?_
          refine g_iload (i := 5) (by decide +kernel) rfl ?_
          refine x_lald hf (hs.k k_149) (by decide +kernel) (fun x29 hf => ?_)
          refine g_ladd (by decide +kernel) ?_
          refine x_last hf hs (hs.k k_150) (by decide +kernel) (fun h30 hf hs => ?_)
          refine g_iinc (i := 6) (z := 1) (v := (v6 + (1 : Int32))) (by decide +kernel) rfl rfl rfl (by decide) (ls1 := [(0, .ref 136), (1, .int p1), (2, .int p2), (3, .int p3), (4, .int v4), (5, .int v5), (6, .int (v6 + (1 : Int32)))]) rfl ?_
          refine g_goto (off := (-90)) (tgt := 131) (by decide +kernel) (by decide) ?_
          exact am_G.forget (am_subp [0, 1, 2, 3, 4, 5, 6] rfl) (ih _ _ _ _ _ hs hf kont)
        · refine g_goto (off := 40) (tgt := 218) (by decide +kernel) (by decide) ?_
          refine g_iinc (i := 6) (z := 1) (v := (v6 + (1 : Int32))) (by decide +kernel) rfl rfl rfl (by decide) (ls1 := [(0, .ref 136), (1, .int p1), (2, .int p2), (3, .int p3), (4, .int v4), (5, .int v5), (6, .int (v6 + (1 : Int32)))]) rfl ?_
          refine g_goto (off := (-90)) (tgt := 131) (by decide +kernel) (by decide) ?_
          exact am_G.forget (am_subp [0, 1, 2, 3, 4, 5, 6] rfl) (ih _ _ _ _ _ hs hf kont)
def f_Mod_ways_L121 (p1 : Int32) (p2 : Int32) (p3 : Int32) : Nat → Int32 → Int32 → am_H → Option (Int32 × am_H)
  | 0, _, _, _ => none
  | n + 1, v4, v5, h =>
    (if (9 : Int32) ≤ v5 then
      some (v5, h)
    else
      (f_Mod_ways_L131 p1 p2 p3 am_fu v4 v5 (0 : Int32) h).bind fun q31 =>
      f_Mod_ways_L121 p1 p2 p3 n v4 (v5 + (1 : Int32)) q31.2)
set_option maxRecDepth 100000 in
set_option maxHeartbeats 4000000 in
theorem t_Mod_ways_L121 {p1 : Int32} {p2 : Int32} {p3 : Int32}  {Q : Option Value → am_H → Prop} : ∀ (n : Nat) (v4 : Int32) (v5 : Int32) (h : am_H) (q : Int32 × am_H), am_Sh h → f_Mod_ways_L121 p1 p2 p3 n v4 v5 h = some q → (am_Sh q.2 → am_G 3 M_Mod_ways 0 0 Q 230 [(0, .ref 136), (1, .int p1), (2, .int p2), (3, .int p3), (4, .int v4), (5, .int q.1)] [] q.2 0 0) → am_G 3 M_Mod_ways 0 0 Q 121 [(0, .ref 136), (1, .int p1), (2, .int p2), (3, .int p3), (4, .int v4), (5, .int v5)] [] h 0 0 := by
  intro n
  induction n with
  | zero =>
    intro v4 v5 h q hs hf kont
    rw [f_Mod_ways_L121] at hf
    cases hf
  | succ n ih =>
    intro v4 v5 h q hs hf kont
    rw [f_Mod_ways_L121] at hf
    refine g_iload (i := 5) (by decide +kernel) rfl ?_
    refine g_bipush (z := 9) (v := 9) (by decide +kernel) rfl ?_
    refine x_icmp_ge (off := 105) (tgt := 230) hf (by decide +kernel) (by decide) (fun c17 hf => ?_) (fun c17 hf => ?_)
    · cases hf
      exact am_G.forget (am_subp [0, 1, 2, 3, 4, 5] rfl) (kont hs)
    · refine g_iconst (z := 0) (v := 0) (by decide +kernel) rfl ?_
      refine g_istore (i := 6) (by decide +kernel) rfl (by decide) (ls1 := [(0, .ref 136), (1, .int p1), (2, .int p2), (3, .int p3), (4, .int v4), (5, .int v5), (6, .int (0 : Int32))]) rfl ?_
      obtain ⟨q31, hqq31, hf⟩ := Option.bind_eq_some_iff.mp hf
      refine am_G.forget (am_subp [0, 1, 2, 3, 4, 5, 6] rfl) (t_Mod_ways_L131  am_fu _ _ _ _ q31 hs hqq31 (fun hs => ?_))
      refine g_iinc (i := 5) (z := 1) (v := (v5 + (1 : Int32))) (by decide +kernel) rfl rfl rfl (by decide) (ls1 := [(0, .ref 136), (1, .int p1), (2, .int p2), (3, .int p3), (4, .int v4), (5, .int (v5 + (1 : Int32))), (6, .int q31.1)]) rfl ?_
      refine g_goto (off := (-106)) (tgt := 121) (by decide +kernel) (by decide) ?_
      exact am_G.forget (am_subp [0, 1, 2, 3, 4, 5] rfl) (ih _ _ _ _ hs hf kont)
def f_Mod_ways_L233 (p1 : Int32) (p2 : Int32) (p3 : Int32) : Nat → Int32 → Int32 → am_H → Option (Int32 × am_H)
  | 0, _, _, _ => none
  | n + 1, v4, v5, h =>
    (if (9 : Int32) ≤ v5 then
      some (v5, h)
    else
      (am_rd (h.2.2.1 150) 9 v5).bind fun x34 =>
      (am_wrJ h 149 9 v5 x34).bind fun h35 =>
      f_Mod_ways_L233 p1 p2 p3 n v4 (v5 + (1 : Int32)) h35)
set_option maxRecDepth 100000 in
set_option maxHeartbeats 4000000 in
theorem t_Mod_ways_L233 {p1 : Int32} {p2 : Int32} {p3 : Int32}  {Q : Option Value → am_H → Prop} : ∀ (n : Nat) (v4 : Int32) (v5 : Int32) (h : am_H) (q : Int32 × am_H), am_Sh h → f_Mod_ways_L233 p1 p2 p3 n v4 v5 h = some q → (am_Sh q.2 → am_G 3 M_Mod_ways 0 0 Q 260 [(0, .ref 136), (1, .int p1), (2, .int p2), (3, .int p3), (4, .int v4), (5, .int q.1)] [] q.2 0 0) → am_G 3 M_Mod_ways 0 0 Q 233 [(0, .ref 136), (1, .int p1), (2, .int p2), (3, .int p3), (4, .int v4), (5, .int v5)] [] h 0 0 := by
  intro n
  induction n with
  | zero =>
    intro v4 v5 h q hs hf kont
    rw [f_Mod_ways_L233] at hf
    cases hf
  | succ n ih =>
    intro v4 v5 h q hs hf kont
    rw [f_Mod_ways_L233] at hf
    refine g_iload (i := 5) (by decide +kernel) rfl ?_
    refine g_bipush (z := 9) (v := 9) (by decide +kernel) rfl ?_
    refine x_icmp_ge (off := 23) (tgt := 260) hf (by decide +kernel) (by decide) (fun c33 hf => ?_) (fun c33 hf => ?_)
    · cases hf
      exact am_G.forget (am_subp [0, 1, 2, 3, 4, 5] rfl) (kont hs)
    · refine g_aload_n (i := 0) (by decide +kernel) rfl ?_
      refine x_getr (hs.k k_136) F_Mod_54 (by decide +kernel) rfl (hs.r r_136_26) ?_
      refine g_iload (i := 5) (by decide +kernel) rfl ?_
      refine g_aload_n (i := 0) (by decide +kernel) rfl ?_
      refine x_getr (hs.k k_136) F_Mod_58 (by decide +kernel) rfl (hs.r r_136_27) ?_
      refine g_iload (i := 5) (by decide +kernel) rfl ?_
      refine x_lald hf (hs.k k_150) (by decide +kernel) (fun x34 hf => ?_)
      refine x_last hf hs (hs.k k_149) (by decide +kernel) (fun h35 hf hs => ?_)
      refine g_iinc (i := 5) (z := 1) (v := (v5 + (1 : Int32))) (by decide +kernel) rfl rfl rfl (by decide) (ls1 := [(0, .ref 136), (1, .int p1), (2, .int p2), (3, .int p3), (4, .int v4), (5, .int (v5 + (1 : Int32)))]) rfl ?_
      refine g_goto (off := (-24)) (tgt := 233) (by decide +kernel) (by decide) ?_
      exact am_G.forget (am_subp [0, 1, 2, 3, 4, 5] rfl) (ih _ _ _ _ hs hf kont)
def f_Mod_ways_L88 (p1 : Int32) (p2 : Int32) (p3 : Int32) : Nat → Int32 → am_H → Option (Int32 × am_H)
  | 0, _, _ => none
  | n + 1, v4, h =>
    (if p3 ≤ v4 then
      some (v4, h)
    else
      (f_Mod_ways_L97 p1 p2 p3 am_fu v4 (0 : Int32) h).bind fun q16 =>
      (f_Mod_ways_L121 p1 p2 p3 am_fu v4 (0 : Int32) q16.2).bind fun q32 =>
      (f_Mod_ways_L233 p1 p2 p3 am_fu v4 (0 : Int32) q32.2).bind fun q36 =>
      f_Mod_ways_L88 p1 p2 p3 n (v4 + (1 : Int32)) q36.2)
set_option maxRecDepth 100000 in
set_option maxHeartbeats 4000000 in
theorem t_Mod_ways_L88 {p1 : Int32} {p2 : Int32} {p3 : Int32}  {Q : Option Value → am_H → Prop} : ∀ (n : Nat) (v4 : Int32) (h : am_H) (q : Int32 × am_H), am_Sh h → f_Mod_ways_L88 p1 p2 p3 n v4 h = some q → (am_Sh q.2 → am_G 3 M_Mod_ways 0 0 Q 266 [(0, .ref 136), (1, .int p1), (2, .int p2), (3, .int p3), (4, .int q.1)] [] q.2 0 0) → am_G 3 M_Mod_ways 0 0 Q 88 [(0, .ref 136), (1, .int p1), (2, .int p2), (3, .int p3), (4, .int v4)] [] h 0 0 := by
  intro n
  induction n with
  | zero =>
    intro v4 h q hs hf kont
    rw [f_Mod_ways_L88] at hf
    cases hf
  | succ n ih =>
    intro v4 h q hs hf kont
    rw [f_Mod_ways_L88] at hf
    refine g_iload (i := 4) (by decide +kernel) rfl ?_
    refine g_iload_n (i := 3) (by decide +kernel) rfl ?_
    refine x_icmp_ge (off := 175) (tgt := 266) hf (by decide +kernel) (by decide) (fun c13 hf => ?_) (fun c13 hf => ?_)
    · cases hf
      exact am_G.forget (am_subp [0, 1, 2, 3, 4] rfl) (kont hs)
    · refine g_iconst (z := 0) (v := 0) (by decide +kernel) rfl ?_
      refine g_istore (i := 5) (by decide +kernel) rfl (by decide) (ls1 := [(0, .ref 136), (1, .int p1), (2, .int p2), (3, .int p3), (4, .int v4), (5, .int (0 : Int32))]) rfl ?_
      obtain ⟨q16, hqq16, hf⟩ := Option.bind_eq_some_iff.mp hf
      refine am_G.forget (am_subp [0, 1, 2, 3, 4, 5] rfl) (t_Mod_ways_L97  am_fu _ _ _ q16 hs hqq16 (fun hs => ?_))
      refine g_iconst (z := 0) (v := 0) (by decide +kernel) rfl ?_
      refine g_istore (i := 5) (by decide +kernel) rfl (by decide) (ls1 := [(0, .ref 136), (1, .int p1), (2, .int p2), (3, .int p3), (4, .int v4), (5, .int (0 : Int32))]) rfl ?_
      obtain ⟨q32, hqq32, hf⟩ := Option.bind_eq_some_iff.mp hf
      refine am_G.forget (am_subp [0, 1, 2, 3, 4, 5] rfl) (t_Mod_ways_L121  am_fu _ _ _ q32 hs hqq32 (fun hs => ?_))
      refine g_iconst (z := 0) (v := 0) (by decide +kernel) rfl ?_
      refine g_istore (i := 5) (by decide +kernel) rfl (by decide) (ls1 := [(0, .ref 136), (1, .int p1), (2, .int p2), (3, .int p3), (4, .int v4), (5, .int (0 : Int32))]) rfl ?_
      obtain ⟨q36, hqq36, hf⟩ := Option.bind_eq_some_iff.mp hf
      refine am_G.forget (am_subp [0, 1, 2, 3, 4, 5] rfl) (t_Mod_ways_L233  am_fu _ _ _ q36 hs hqq36 (fun hs => ?_))
      refine g_iinc (i := 4) (z := 1) (v := (v4 + (1 : Int32))) (by decide +kernel) rfl rfl rfl (by decide) (ls1 := [(0, .ref 136), (1, .int p1), (2, .int p2), (3, .int p3), (4, .int (v4 + (1 : Int32))), (5, .int q36.1)]) rfl ?_
      refine g_goto (off := (-175)) (tgt := 88) (by decide +kernel) (by decide) ?_
      exact am_G.forget (am_subp [0, 1, 2, 3, 4] rfl) (ih _ _ _ hs hf kont)
def f_Mod_ways (p1 : Int32) (p2 : Int32) (p3 : Int32) (h : am_H) : Option (Int64 × am_H) :=
  am_let (am_sI h 136 0 (0 : Int32)) fun h1 =>
  (f_Mod_isPerson ((p1).toInt64) h1).bind fun q2 =>
  (if q2 = true then
    (f_Mod_isSpot ((p2).toInt64) h1).bind fun q4 =>
    (if q4 = true then
      (f_Mod_within ((p3).toInt64) (0 : Int64) (12 : Int64) h1).bind fun q6 =>
      (if q6 = true then
        (f_Mod_ways_L46 p1 p2 p3 am_fu (0 : Int32) h1).bind fun q12 =>
        (f_Mod_ways_L88 p1 p2 p3 am_fu (0 : Int32) q12.2).bind fun q37 =>
        (am_rd (q37.2.2.2.1 149) 9 p2).bind fun x38 =>
        some (x38, q37.2)
      else
        some ((-3 : Int64), h1))
    else
      some ((-2 : Int64), h1))
  else
    some ((-2 : Int64), h1))
set_option maxRecDepth 100000 in
set_option maxHeartbeats 4000000 in
theorem t_Mod_ways {p1 : Int32} {p2 : Int32} {p3 : Int32} {h : am_H} (hs : am_Sh h)  {r : Int64 × am_H} (hf : f_Mod_ways p1 p2 p3 h = some r) : am_Ct 3 M_Mod_ways [.ref 136, .int p1, .int p2, .int p3] h 0 0 (am_qJ r) := by
  unfold f_Mod_ways at hf
  refine am_Ct.of (by decide) rfl (Nat.le_of_ble_eq_true rfl) (ls := [(0, .ref 136), (1, .int p1), (2, .int p2), (3, .int p3)]) rfl ?_
  refine g_aload_n (i := 0) (by decide +kernel) rfl ?_
  refine g_iconst (z := 0) (v := 0) (by decide +kernel) rfl ?_
  refine x_puti hf hs (hs.k k_136) F_Mod_1 (by decide +kernel) rfl rfl rfl rfl (fun h1 hf hs => ?_)
  refine g_aload_n (i := 0) (by decide +kernel) rfl ?_
  refine g_iload_n (i := 1) (by decide +kernel) rfl ?_
  refine g_i2l (by decide +kernel) ?_
  refine x_callVBp (as := [.long ((p1).toInt64)]) Vi_Mod_isPerson Vs_Mod_isPerson (hs.k k_136) rfl hf (fun q hq => t_Mod_isPerson hs  hq) Y_Mod_isPerson L_Mod_245 (by decide +kernel) rfl rfl (Nat.le_of_ble_eq_true rfl) (by decide) (Nat.le_refl _) (Nat.le_refl _) (fun q2 hf => ?_)
  refine x_ifb_eq (off := 12) (tgt := 23) hf (by decide +kernel) (by decide) (fun c3 hf => ?_) (fun c3 hf => ?_)
  · refine g_ldc2 (by decide +kernel) C_Mod_348 ?_
    exact x_lret hf hs (by decide +kernel) rfl (Nat.le_refl _) (Nat.le_refl _)
  · refine g_aload_n (i := 0) (by decide +kernel) rfl ?_
    refine g_iload_n (i := 2) (by decide +kernel) rfl ?_
    refine g_i2l (by decide +kernel) ?_
    refine x_callVBp (as := [.long ((p2).toInt64)]) Vi_Mod_isSpot Vs_Mod_isSpot (hs.k k_136) rfl hf (fun q hq => t_Mod_isSpot hs  hq) Y_Mod_isSpot L_Mod_339 (by decide +kernel) rfl rfl (Nat.le_of_ble_eq_true rfl) (by decide) (Nat.le_refl _) (Nat.le_refl _) (fun q4 hf => ?_)
    refine x_ifb_ne (off := 7) (tgt := 27) hf (by decide +kernel) (by decide) (fun c5 hf => ?_) (fun c5 hf => ?_)
    · refine g_iload_n (i := 3) (by decide +kernel) rfl ?_
      refine g_i2l (by decide +kernel) ?_
      refine g_lconst (z := 0) (v := 0) (by decide +kernel) rfl ?_
      refine g_ldc2 (by decide +kernel) C_Mod_350 ?_
      refine x_callSBp (as := [.long ((p3).toInt64), .long (0 : Int64), .long (12 : Int64)]) St_Mod_within hf (fun q hq => t_Mod_within hs  hq) Y_Mod_within L_Mod_157 (by decide +kernel) rfl rfl (Nat.le_of_ble_eq_true rfl) (by decide) (Nat.le_refl _) (Nat.le_refl _) (fun q6 hf => ?_)
      refine x_ifb_ne (off := 7) (tgt := 43) hf (by decide +kernel) (by decide) (fun c7 hf => ?_) (fun c7 hf => ?_)
      · refine g_iconst (z := 0) (v := 0) (by decide +kernel) rfl ?_
        refine g_istore (i := 4) (by decide +kernel) rfl (by decide) (ls1 := [(0, .ref 136), (1, .int p1), (2, .int p2), (3, .int p3), (4, .int (0 : Int32))]) rfl ?_
        obtain ⟨q12, hqq12, hf⟩ := Option.bind_eq_some_iff.mp hf
        refine am_G.forget (am_subp [0, 1, 2, 3, 4] rfl) (t_Mod_ways_L46  am_fu _ _ q12 hs hqq12 (fun hs => ?_))
        refine g_iconst (z := 0) (v := 0) (by decide +kernel) rfl ?_
        refine g_istore (i := 4) (by decide +kernel) rfl (by decide) (ls1 := [(0, .ref 136), (1, .int p1), (2, .int p2), (3, .int p3), (4, .int (0 : Int32))]) rfl ?_
        obtain ⟨q37, hqq37, hf⟩ := Option.bind_eq_some_iff.mp hf
        refine am_G.forget (am_subp [0, 1, 2, 3, 4] rfl) (t_Mod_ways_L88  am_fu _ _ q37 hs hqq37 (fun hs => ?_))
        refine g_aload_n (i := 0) (by decide +kernel) rfl ?_
        refine x_getr (hs.k k_136) F_Mod_54 (by decide +kernel) rfl (hs.r r_136_26) ?_
        refine g_iload_n (i := 2) (by decide +kernel) rfl ?_
        refine x_lald hf (hs.k k_149) (by decide +kernel) (fun x38 hf => ?_)
        exact x_lret hf hs (by decide +kernel) rfl (Nat.le_refl _) (Nat.le_refl _)
      · refine g_ldc2 (by decide +kernel) C_Mod_352 ?_
        exact x_lret hf hs (by decide +kernel) rfl (Nat.le_refl _) (Nat.le_refl _)
    · refine g_ldc2 (by decide +kernel) C_Mod_348 ?_
      exact x_lret hf hs (by decide +kernel) rfl (Nat.le_refl _) (Nat.le_refl _)
def f_Mod_reachOf_L20 (p1 : Int32) (p2 : Int32) : Nat → Int32 → Int32 → am_H → Option (Int32 × Int32)
  | 0, _, _, _ => none
  | n + 1, v3, v4, h =>
    (if p2 ≤ v4 then
      some (v3, v4)
    else
      (am_rd (h.2.1 137) 3411 (26 : Int32)).bind fun x4 =>
      (f_Mod_fogIn v4 h).bind fun q5 =>
      (f_Mod_goesOn v3 (x4 + v4) q5 h).bind fun q6 =>
      f_Mod_reachOf_L20 p1 p2 n q6 (v4 + (1 : Int32)) h)
set_option maxRecDepth 100000 in
set_option maxHeartbeats 4000000 in
theorem t_Mod_reachOf_L20 {p1 : Int32} {p2 : Int32}  {Q : Option Value → am_H → Prop} : ∀ (n : Nat) (v3 : Int32) (v4 : Int32) (h : am_H) (q : Int32 × Int32), am_Sh h → f_Mod_reachOf_L20 p1 p2 n v3 v4 h = some q → (am_G 3 M_Mod_reachOf 0 0 Q 54 [(0, .ref 136), (1, .int p1), (2, .int p2), (3, .int q.1), (4, .int q.2)] [] h 0 0) → am_G 3 M_Mod_reachOf 0 0 Q 20 [(0, .ref 136), (1, .int p1), (2, .int p2), (3, .int v3), (4, .int v4)] [] h 0 0 := by
  intro n
  induction n with
  | zero =>
    intro v3 v4 h q hs hf kont
    rw [f_Mod_reachOf_L20] at hf
    cases hf
  | succ n ih =>
    intro v3 v4 h q hs hf kont
    rw [f_Mod_reachOf_L20] at hf
    refine g_iload (i := 4) (by decide +kernel) rfl ?_
    refine g_iload_n (i := 2) (by decide +kernel) rfl ?_
    refine x_icmp_ge (off := 31) (tgt := 54) hf (by decide +kernel) (by decide) (fun c3 hf => ?_) (fun c3 hf => ?_)
    · cases hf
      exact am_G.forget (am_subp [0, 1, 2, 3, 4] rfl) kont
    · refine g_aload_n (i := 0) (by decide +kernel) rfl ?_
      refine g_iload_n (i := 3) (by decide +kernel) rfl ?_
      refine g_aload_n (i := 0) (by decide +kernel) rfl ?_
      refine x_getr (hs.k k_136) F_Mod_13 (by decide +kernel) rfl (hs.r r_136_1) ?_
      refine g_bipush (z := 26) (v := 26) (by decide +kernel) rfl ?_
      refine x_iald hf (hs.k k_137) (by decide +kernel) (fun x4 hf => ?_)
      refine g_iload (i := 4) (by decide +kernel) rfl ?_
      refine g_iadd (by decide +kernel) ?_
      refine g_aload_n (i := 0) (by decide +kernel) rfl ?_
      refine g_iload (i := 4) (by decide +kernel) rfl ?_
      refine x_callVIp (as := [.int v4]) Vi_Mod_fogIn Vs_Mod_fogIn (hs.k k_136) rfl hf (fun q hq => t_Mod_fogIn hs  hq) Y_Mod_fogIn L_Mod_251 (by decide +kernel) rfl rfl (Nat.le_of_ble_eq_true rfl) (by decide) (Nat.le_refl _) (Nat.le_refl _) (fun q5 hf => ?_)
      refine x_callVIp (as := [.int v3, .int (x4 + v4), .int q5]) Vi_Mod_goesOn Vs_Mod_goesOn (hs.k k_136) rfl hf (fun q hq => t_Mod_goesOn hs  hq) Y_Mod_goesOn L_Mod_330 (by decide +kernel) rfl rfl (Nat.le_of_ble_eq_true rfl) (by decide) (Nat.le_refl _) (Nat.le_refl _) (fun q6 hf => ?_)
      refine g_istore_n (i := 3) (by decide +kernel) rfl (by decide) (ls1 := [(0, .ref 136), (1, .int p1), (2, .int p2), (3, .int q6), (4, .int v4)]) rfl ?_
      refine g_iinc (i := 4) (z := 1) (v := (v4 + (1 : Int32))) (by decide +kernel) rfl rfl rfl (by decide) (ls1 := [(0, .ref 136), (1, .int p1), (2, .int p2), (3, .int q6), (4, .int (v4 + (1 : Int32)))]) rfl ?_
      refine g_goto (off := (-31)) (tgt := 20) (by decide +kernel) (by decide) ?_
      exact am_G.forget (am_subp [0, 1, 2, 3, 4] rfl) (ih _ _ _ _ hs hf kont)
def f_Mod_reachOf (p1 : Int32) (p2 : Int32) (h : am_H) : Option (Int32 × am_H) :=
  (f_Mod_laysLets p1 h).bind fun q1 =>
  (am_rd (q1.2.1 137) 3411 ((35 : Int32) + p1)).bind fun x2 =>
  (f_Mod_reachOf_L20 p1 p2 am_fu ((1 : Int32) <<< (x2 &&& 31)) (0 : Int32) q1).bind fun q7 =>
  some (q7.1, q1)
set_option maxRecDepth 100000 in
set_option maxHeartbeats 4000000 in
theorem t_Mod_reachOf {p1 : Int32} {p2 : Int32} {h : am_H} (hs : am_Sh h)  {r : Int32 × am_H} (hf : f_Mod_reachOf p1 p2 h = some r) : am_Ct 3 M_Mod_reachOf [.ref 136, .int p1, .int p2] h 0 0 (am_qI r) := by
  unfold f_Mod_reachOf at hf
  refine am_Ct.of (by decide) rfl (Nat.le_of_ble_eq_true rfl) (ls := [(0, .ref 136), (1, .int p1), (2, .int p2)]) rfl ?_
  refine g_aload_n (i := 0) (by decide +kernel) rfl ?_
  refine g_iload_n (i := 1) (by decide +kernel) rfl ?_
  refine x_callVV (as := [.int p1]) Vi_Mod_laysLets Vs_Mod_laysLets (hs.k k_136) rfl hf (fun q hq => t_Mod_laysLets hs  hq) Y_Mod_laysLets L_Mod_333 (by decide +kernel) rfl rfl (Nat.le_of_ble_eq_true rfl) (by decide) (Nat.le_refl _) (Nat.le_refl _) (fun q1 hf hs => ?_)
  refine g_iconst (z := 1) (v := 1) (by decide +kernel) rfl ?_
  refine g_aload_n (i := 0) (by decide +kernel) rfl ?_
  refine x_getr (hs.k k_136) F_Mod_13 (by decide +kernel) rfl (hs.r r_136_1) ?_
  refine g_bipush (z := 35) (v := 35) (by decide +kernel) rfl ?_
  refine g_iload_n (i := 1) (by decide +kernel) rfl ?_
  refine g_iadd (by decide +kernel) ?_
  refine x_iald hf (hs.k k_137) (by decide +kernel) (fun x2 hf => ?_)
  refine g_ishl (by decide +kernel) ?_
  refine g_istore_n (i := 3) (by decide +kernel) rfl (by decide) (ls1 := [(0, .ref 136), (1, .int p1), (2, .int p2), (3, .int ((1 : Int32) <<< (x2 &&& 31)))]) rfl ?_
  refine g_iconst (z := 0) (v := 0) (by decide +kernel) rfl ?_
  refine g_istore (i := 4) (by decide +kernel) rfl (by decide) (ls1 := [(0, .ref 136), (1, .int p1), (2, .int p2), (3, .int ((1 : Int32) <<< (x2 &&& 31))), (4, .int (0 : Int32))]) rfl ?_
  obtain ⟨q7, hqq7, hf⟩ := Option.bind_eq_some_iff.mp hf
  refine am_G.forget (am_subp [0, 1, 2, 3, 4] rfl) (t_Mod_reachOf_L20  am_fu _ _ _ q7 hs hqq7 ?_)
  refine g_iload_n (i := 3) (by decide +kernel) rfl ?_
  exact x_iret hf hs (by decide +kernel) rfl (Nat.le_refl _) (Nat.le_refl _)
def f_Mod_reach (p1 : Int32) (p2 : Int32) (h : am_H) : Option (Int32 × am_H) :=
  am_let (am_sI h 136 0 (0 : Int32)) fun h1 =>
  (f_Mod_isPerson ((p1).toInt64) h1).bind fun q2 =>
  (if q2 = true then
    (f_Mod_within ((p2).toInt64) (0 : Int64) (60 : Int64) h1).bind fun q4 =>
    (if q4 = true then
      (f_Mod_reachOf p1 p2 h1).bind fun q6 =>
      some (q6.1, q6.2)
    else
      some ((-3 : Int32), h1))
  else
    some ((-2 : Int32), h1))
set_option maxRecDepth 100000 in
set_option maxHeartbeats 4000000 in
theorem t_Mod_reach {p1 : Int32} {p2 : Int32} {h : am_H} (hs : am_Sh h)  {r : Int32 × am_H} (hf : f_Mod_reach p1 p2 h = some r) : am_Ct 4 M_Mod_reach [.ref 136, .int p1, .int p2] h 0 0 (am_qI r) := by
  unfold f_Mod_reach at hf
  refine am_Ct.of (by decide) rfl (Nat.le_of_ble_eq_true rfl) (ls := [(0, .ref 136), (1, .int p1), (2, .int p2)]) rfl ?_
  refine g_aload_n (i := 0) (by decide +kernel) rfl ?_
  refine g_iconst (z := 0) (v := 0) (by decide +kernel) rfl ?_
  refine x_puti hf hs (hs.k k_136) F_Mod_1 (by decide +kernel) rfl rfl rfl rfl (fun h1 hf hs => ?_)
  refine g_aload_n (i := 0) (by decide +kernel) rfl ?_
  refine g_iload_n (i := 1) (by decide +kernel) rfl ?_
  refine g_i2l (by decide +kernel) ?_
  refine x_callVBp (as := [.long ((p1).toInt64)]) Vi_Mod_isPerson Vs_Mod_isPerson (hs.k k_136) rfl hf (fun q hq => t_Mod_isPerson hs  hq) Y_Mod_isPerson L_Mod_245 (by decide +kernel) rfl rfl (Nat.le_of_ble_eq_true rfl) (by decide) (Nat.le_refl _) (Nat.le_refl _) (fun q2 hf => ?_)
  refine x_ifb_ne (off := 8) (tgt := 19) hf (by decide +kernel) (by decide) (fun c3 hf => ?_) (fun c3 hf => ?_)
  · refine g_iload_n (i := 2) (by decide +kernel) rfl ?_
    refine g_i2l (by decide +kernel) ?_
    refine g_lconst (z := 0) (v := 0) (by decide +kernel) rfl ?_
    refine g_ldc2 (by decide +kernel) C_Mod_354 ?_
    refine x_callSBp (as := [.long ((p2).toInt64), .long (0 : Int64), .long (60 : Int64)]) St_Mod_within hf (fun q hq => t_Mod_within hs  hq) Y_Mod_within L_Mod_157 (by decide +kernel) rfl rfl (Nat.le_of_ble_eq_true rfl) (by decide) (Nat.le_refl _) (Nat.le_refl _) (fun q4 hf => ?_)
    refine x_ifb_eq (off := 12) (tgt := 40) hf (by decide +kernel) (by decide) (fun c5 hf => ?_) (fun c5 hf => ?_)
    · refine g_bipush (z := (-3)) (v := (-3)) (by decide +kernel) rfl ?_
      exact x_iret hf hs (by decide +kernel) rfl (Nat.le_refl _) (Nat.le_refl _)
    · refine g_aload_n (i := 0) (by decide +kernel) rfl ?_
      refine g_iload_n (i := 1) (by decide +kernel) rfl ?_
      refine g_iload_n (i := 2) (by decide +kernel) rfl ?_
      refine x_callVI (as := [.int p1, .int p2]) Vi_Mod_reachOf Vs_Mod_reachOf (hs.k k_136) rfl hf (fun q hq => t_Mod_reachOf hs  hq) Y_Mod_reachOf L_Mod_356 (by decide +kernel) rfl rfl (Nat.le_of_ble_eq_true rfl) (by decide) (Nat.le_refl _) (Nat.le_refl _) (fun q6 hf hs => ?_)
      refine g_goto (off := 5) (tgt := 42) (by decide +kernel) (by decide) ?_
      exact x_iret hf hs (by decide +kernel) rfl (Nat.le_refl _) (Nat.le_refl _)
  · refine g_bipush (z := (-2)) (v := (-2)) (by decide +kernel) rfl ?_
    refine g_goto (off := 26) (tgt := 42) (by decide +kernel) (by decide) ?_
    exact x_iret hf hs (by decide +kernel) rfl (Nat.le_refl _) (Nat.le_refl _)
def f_Mod_meetIn_L2 (p1 : Int32) (p2 : Int32) : Nat → Int32 → am_H → Option (Int32 × am_H)
  | 0, _, _ => none
  | n + 1, v3, h =>
    (if (60 : Int32) < v3 then
      some ((-1 : Int32), h)
    else
      (f_Mod_reachOf p1 v3 h).bind fun q2 =>
      (f_Mod_reachOf p2 v3 q2.2).bind fun q3 =>
      (if (q2.1 &&& q3.1) = 0 then
        f_Mod_meetIn_L2 p1 p2 n (v3 + (1 : Int32)) q3.2
      else
        some (v3, q3.2)))
set_option maxRecDepth 100000 in
set_option maxHeartbeats 4000000 in
theorem t_Mod_meetIn_L2 {p1 : Int32} {p2 : Int32}  : ∀ (n : Nat) (v3 : Int32) (h : am_H) (r : Int32 × am_H), am_Sh h → f_Mod_meetIn_L2 p1 p2 n v3 h = some r → am_G 4 M_Mod_meetIn 0 0 (am_qI r) 2 [(0, .ref 136), (1, .int p1), (2, .int p2), (3, .int v3)] [] h 0 0 := by
  intro n
  induction n with
  | zero =>
    intro v3 h r hs hf
    rw [f_Mod_meetIn_L2] at hf
    cases hf
  | succ n ih =>
    intro v3 h r hs hf
    rw [f_Mod_meetIn_L2] at hf
    refine g_iload_n (i := 3) (by decide +kernel) rfl ?_
    refine g_bipush (z := 60) (v := 60) (by decide +kernel) rfl ?_
    refine x_icmp_gt (off := 27) (tgt := 32) hf (by decide +kernel) (by decide) (fun c1 hf => ?_) (fun c1 hf => ?_)
    · refine g_iconst (z := (-1)) (v := (-1)) (by decide +kernel) rfl ?_
      exact x_iret hf hs (by decide +kernel) rfl (Nat.le_refl _) (Nat.le_refl _)
    · refine g_aload_n (i := 0) (by decide +kernel) rfl ?_
      refine g_iload_n (i := 1) (by decide +kernel) rfl ?_
      refine g_iload_n (i := 3) (by decide +kernel) rfl ?_
      refine x_callVI (as := [.int p1, .int v3]) Vi_Mod_reachOf Vs_Mod_reachOf (hs.k k_136) rfl hf (fun q hq => t_Mod_reachOf hs  hq) Y_Mod_reachOf L_Mod_356 (by decide +kernel) rfl rfl (Nat.le_of_ble_eq_true rfl) (by decide) (Nat.le_refl _) (Nat.le_refl _) (fun q2 hf hs => ?_)
      refine g_aload_n (i := 0) (by decide +kernel) rfl ?_
      refine g_iload_n (i := 2) (by decide +kernel) rfl ?_
      refine g_iload_n (i := 3) (by decide +kernel) rfl ?_
      refine x_callVI (as := [.int p2, .int v3]) Vi_Mod_reachOf Vs_Mod_reachOf (hs.k k_136) rfl hf (fun q hq => t_Mod_reachOf hs  hq) Y_Mod_reachOf L_Mod_356 (by decide +kernel) rfl rfl (Nat.le_of_ble_eq_true rfl) (by decide) (Nat.le_refl _) (Nat.le_refl _) (fun q3 hf hs => ?_)
      refine g_iand (by decide +kernel) ?_
      refine x_if_eq (off := 5) (tgt := 26) hf (by decide +kernel) (by decide) (fun c4 hf => ?_) (fun c4 hf => ?_)
      · refine g_iinc (i := 3) (z := 1) (v := (v3 + (1 : Int32))) (by decide +kernel) rfl rfl rfl (by decide) (ls1 := [(0, .ref 136), (1, .int p1), (2, .int p2), (3, .int (v3 + (1 : Int32)))]) rfl ?_
        refine g_goto (off := (-27)) (tgt := 2) (by decide +kernel) (by decide) ?_
        exact am_G.forget (am_subp [0, 1, 2, 3] rfl) (ih _ _ _ hs hf)
      · refine g_iload_n (i := 3) (by decide +kernel) rfl ?_
        exact x_iret hf hs (by decide +kernel) rfl (Nat.le_refl _) (Nat.le_refl _)
def f_Mod_meetIn (p1 : Int32) (p2 : Int32) (h : am_H) : Option (Int32 × am_H) :=
  f_Mod_meetIn_L2 p1 p2 am_fu (0 : Int32) h
set_option maxRecDepth 100000 in
set_option maxHeartbeats 4000000 in
theorem t_Mod_meetIn {p1 : Int32} {p2 : Int32} {h : am_H} (hs : am_Sh h)  {r : Int32 × am_H} (hf : f_Mod_meetIn p1 p2 h = some r) : am_Ct 4 M_Mod_meetIn [.ref 136, .int p1, .int p2] h 0 0 (am_qI r) := by
  unfold f_Mod_meetIn at hf
  refine am_Ct.of (by decide) rfl (Nat.le_of_ble_eq_true rfl) (ls := [(0, .ref 136), (1, .int p1), (2, .int p2)]) rfl ?_
  refine g_iconst (z := 0) (v := 0) (by decide +kernel) rfl ?_
  refine g_istore_n (i := 3) (by decide +kernel) rfl (by decide) (ls1 := [(0, .ref 136), (1, .int p1), (2, .int p2), (3, .int (0 : Int32))]) rfl ?_
  exact am_G.forget (am_subp [0, 1, 2, 3] rfl) (t_Mod_meetIn_L2  am_fu _ _ _ hs hf)
def f_Mod_meet (p1 : Int32) (p2 : Int32) (h : am_H) : Option (Int32 × am_H) :=
  am_let (am_sI h 136 0 (0 : Int32)) fun h1 =>
  (f_Mod_isPerson ((p1).toInt64) h1).bind fun q2 =>
  (if q2 = true then
    (f_Mod_isPerson ((p2).toInt64) h1).bind fun q4 =>
    (if q4 = true then
      (if p1 = p2 then
        some ((-2 : Int32), h1)
      else
        (f_Mod_meetIn p1 p2 h1).bind fun q7 =>
        some (q7.1, q7.2))
    else
      some ((-2 : Int32), h1))
  else
    some ((-2 : Int32), h1))
set_option maxRecDepth 100000 in
set_option maxHeartbeats 4000000 in
theorem t_Mod_meet {p1 : Int32} {p2 : Int32} {h : am_H} (hs : am_Sh h)  {r : Int32 × am_H} (hf : f_Mod_meet p1 p2 h = some r) : am_Ct 5 M_Mod_meet [.ref 136, .int p1, .int p2] h 0 0 (am_qI r) := by
  unfold f_Mod_meet at hf
  refine am_Ct.of (by decide) rfl (Nat.le_of_ble_eq_true rfl) (ls := [(0, .ref 136), (1, .int p1), (2, .int p2)]) rfl ?_
  refine g_aload_n (i := 0) (by decide +kernel) rfl ?_
  refine g_iconst (z := 0) (v := 0) (by decide +kernel) rfl ?_
  refine x_puti hf hs (hs.k k_136) F_Mod_1 (by decide +kernel) rfl rfl rfl rfl (fun h1 hf hs => ?_)
  refine g_aload_n (i := 0) (by decide +kernel) rfl ?_
  refine g_iload_n (i := 1) (by decide +kernel) rfl ?_
  refine g_i2l (by decide +kernel) ?_
  refine x_callVBp (as := [.long ((p1).toInt64)]) Vi_Mod_isPerson Vs_Mod_isPerson (hs.k k_136) rfl hf (fun q hq => t_Mod_isPerson hs  hq) Y_Mod_isPerson L_Mod_245 (by decide +kernel) rfl rfl (Nat.le_of_ble_eq_true rfl) (by decide) (Nat.le_refl _) (Nat.le_refl _) (fun q2 hf => ?_)
  refine x_ifb_eq (off := 26) (tgt := 37) hf (by decide +kernel) (by decide) (fun c3 hf => ?_) (fun c3 hf => ?_)
  · refine g_bipush (z := (-2)) (v := (-2)) (by decide +kernel) rfl ?_
    exact x_iret hf hs (by decide +kernel) rfl (Nat.le_refl _) (Nat.le_refl _)
  · refine g_aload_n (i := 0) (by decide +kernel) rfl ?_
    refine g_iload_n (i := 2) (by decide +kernel) rfl ?_
    refine g_i2l (by decide +kernel) ?_
    refine x_callVBp (as := [.long ((p2).toInt64)]) Vi_Mod_isPerson Vs_Mod_isPerson (hs.k k_136) rfl hf (fun q hq => t_Mod_isPerson hs  hq) Y_Mod_isPerson L_Mod_245 (by decide +kernel) rfl rfl (Nat.le_of_ble_eq_true rfl) (by decide) (Nat.le_refl _) (Nat.le_refl _) (fun q4 hf => ?_)
    refine x_ifb_eq (off := 17) (tgt := 37) hf (by decide +kernel) (by decide) (fun c5 hf => ?_) (fun c5 hf => ?_)
    · refine g_bipush (z := (-2)) (v := (-2)) (by decide +kernel) rfl ?_
      exact x_iret hf hs (by decide +kernel) rfl (Nat.le_refl _) (Nat.le_refl _)
    · refine g_iload_n (i := 1) (by decide +kernel) rfl ?_
      refine g_iload_n (i := 2) (by decide +kernel) rfl ?_
      refine x_icmp_eq (off := 12) (tgt := 37) hf (by decide +kernel) (by decide) (fun c6 hf => ?_) (fun c6 hf => ?_)
      · refine g_bipush (z := (-2)) (v := (-2)) (by decide +kernel) rfl ?_
        exact x_iret hf hs (by decide +kernel) rfl (Nat.le_refl _) (Nat.le_refl _)
      · refine g_aload_n (i := 0) (by decide +kernel) rfl ?_
        refine g_iload_n (i := 1) (by decide +kernel) rfl ?_
        refine g_iload_n (i := 2) (by decide +kernel) rfl ?_
        refine x_callVI (as := [.int p1, .int p2]) Vi_Mod_meetIn Vs_Mod_meetIn (hs.k k_136) rfl hf (fun q hq => t_Mod_meetIn hs  hq) Y_Mod_meetIn L_Mod_359 (by decide +kernel) rfl rfl (Nat.le_of_ble_eq_true rfl) (by decide) (Nat.le_refl _) (Nat.le_refl _) (fun q7 hf hs => ?_)
        refine g_goto (off := 5) (tgt := 39) (by decide +kernel) (by decide) ?_
        exact x_iret hf hs (by decide +kernel) rfl (Nat.le_refl _) (Nat.le_refl _)
def f_Mod_meetAt_L63 (p1 : Int32) (p2 : Int32) : Nat → Int32 → Int32 → Int32 → am_H → Option (Int32)
  | 0, _, _, _, _ => none
  | n + 1, v3, v4, v5, h =>
    (f_Mod_isIn ((v4).toInt64) v5 h).bind fun q11 =>
    (if q11 = true then
      some v5
    else
      f_Mod_meetAt_L63 p1 p2 n v3 v4 (v5 + (1 : Int32)) h)
set_option maxRecDepth 100000 in
set_option maxHeartbeats 4000000 in
theorem t_Mod_meetAt_L63 {p1 : Int32} {p2 : Int32}  {Q : Option Value → am_H → Prop} : ∀ (n : Nat) (v3 : Int32) (v4 : Int32) (v5 : Int32) (h : am_H) (q : Int32), am_Sh h → f_Mod_meetAt_L63 p1 p2 n v3 v4 v5 h = some q → (am_G 5 M_Mod_meetAt 0 0 Q 80 [(0, .ref 136), (1, .int p1), (2, .int p2), (3, .int v3), (4, .int v4), (5, .int q)] [] h 0 0) → am_G 5 M_Mod_meetAt 0 0 Q 63 [(0, .ref 136), (1, .int p1), (2, .int p2), (3, .int v3), (4, .int v4), (5, .int v5)] [] h 0 0 := by
  intro n
  induction n with
  | zero =>
    intro v3 v4 v5 h q hs hf kont
    rw [f_Mod_meetAt_L63] at hf
    cases hf
  | succ n ih =>
    intro v3 v4 v5 h q hs hf kont
    rw [f_Mod_meetAt_L63] at hf
    refine g_iload (i := 4) (by decide +kernel) rfl ?_
    refine g_i2l (by decide +kernel) ?_
    refine g_iload (i := 5) (by decide +kernel) rfl ?_
    refine x_callSBp (as := [.long ((v4).toInt64), .int v5]) St_Mod_isIn hf (fun q hq => t_Mod_isIn hs  hq) Y_Mod_isIn L_Mod_260 (by decide +kernel) rfl rfl (Nat.le_of_ble_eq_true rfl) (by decide) (Nat.le_refl _) (Nat.le_refl _) (fun q11 hf => ?_)
    refine x_ifb_ne (off := 9) (tgt := 80) hf (by decide +kernel) (by decide) (fun c12 hf => ?_) (fun c12 hf => ?_)
    · cases hf
      exact am_G.forget (am_subp [0, 1, 2, 3, 4, 5] rfl) kont
    · refine g_iinc (i := 5) (z := 1) (v := (v5 + (1 : Int32))) (by decide +kernel) rfl rfl rfl (by decide) (ls1 := [(0, .ref 136), (1, .int p1), (2, .int p2), (3, .int v3), (4, .int v4), (5, .int (v5 + (1 : Int32)))]) rfl ?_
      refine g_goto (off := (-14)) (tgt := 63) (by decide +kernel) (by decide) ?_
      exact am_G.forget (am_subp [0, 1, 2, 3, 4, 5] rfl) (ih _ _ _ _ _ hs hf kont)
def f_Mod_meetAt (p1 : Int32) (p2 : Int32) (h : am_H) : Option (Int32 × am_H) :=
  am_let (am_sI h 136 0 (0 : Int32)) fun h1 =>
  (f_Mod_isPerson ((p1).toInt64) h1).bind fun q2 =>
  (if q2 = true then
    (f_Mod_isPerson ((p2).toInt64) h1).bind fun q4 =>
    (if q4 = true then
      (if p1 = p2 then
        some ((-2 : Int32), h1)
      else
        (f_Mod_meetIn p1 p2 h1).bind fun q7 =>
        (if q7.1 = (-1 : Int32) then
          some ((-1 : Int32), q7.2)
        else
          (f_Mod_reachOf p1 q7.1 q7.2).bind fun q9 =>
          (f_Mod_reachOf p2 q7.1 q9.2).bind fun q10 =>
          (f_Mod_meetAt_L63 p1 p2 am_fu q7.1 (q9.1 &&& q10.1) (0 : Int32) q10.2).bind fun q13 =>
          some (q13, q10.2)))
    else
      some ((-2 : Int32), h1))
  else
    some ((-2 : Int32), h1))
set_option maxRecDepth 100000 in
set_option maxHeartbeats 4000000 in
theorem t_Mod_meetAt {p1 : Int32} {p2 : Int32} {h : am_H} (hs : am_Sh h)  {r : Int32 × am_H} (hf : f_Mod_meetAt p1 p2 h = some r) : am_Ct 5 M_Mod_meetAt [.ref 136, .int p1, .int p2] h 0 0 (am_qI r) := by
  unfold f_Mod_meetAt at hf
  refine am_Ct.of (by decide) rfl (Nat.le_of_ble_eq_true rfl) (ls := [(0, .ref 136), (1, .int p1), (2, .int p2)]) rfl ?_
  refine g_aload_n (i := 0) (by decide +kernel) rfl ?_
  refine g_iconst (z := 0) (v := 0) (by decide +kernel) rfl ?_
  refine x_puti hf hs (hs.k k_136) F_Mod_1 (by decide +kernel) rfl rfl rfl rfl (fun h1 hf hs => ?_)
  refine g_aload_n (i := 0) (by decide +kernel) rfl ?_
  refine g_iload_n (i := 1) (by decide +kernel) rfl ?_
  refine g_i2l (by decide +kernel) ?_
  refine x_callVBp (as := [.long ((p1).toInt64)]) Vi_Mod_isPerson Vs_Mod_isPerson (hs.k k_136) rfl hf (fun q hq => t_Mod_isPerson hs  hq) Y_Mod_isPerson L_Mod_245 (by decide +kernel) rfl rfl (Nat.le_of_ble_eq_true rfl) (by decide) (Nat.le_refl _) (Nat.le_refl _) (fun q2 hf => ?_)
  refine x_ifb_eq (off := 17) (tgt := 28) hf (by decide +kernel) (by decide) (fun c3 hf => ?_) (fun c3 hf => ?_)
  · refine g_bipush (z := (-2)) (v := (-2)) (by decide +kernel) rfl ?_
    exact x_iret hf hs (by decide +kernel) rfl (Nat.le_refl _) (Nat.le_refl _)
  · refine g_aload_n (i := 0) (by decide +kernel) rfl ?_
    refine g_iload_n (i := 2) (by decide +kernel) rfl ?_
    refine g_i2l (by decide +kernel) ?_
    refine x_callVBp (as := [.long ((p2).toInt64)]) Vi_Mod_isPerson Vs_Mod_isPerson (hs.k k_136) rfl hf (fun q hq => t_Mod_isPerson hs  hq) Y_Mod_isPerson L_Mod_245 (by decide +kernel) rfl rfl (Nat.le_of_ble_eq_true rfl) (by decide) (Nat.le_refl _) (Nat.le_refl _) (fun q4 hf => ?_)
    refine x_ifb_eq (off := 8) (tgt := 28) hf (by decide +kernel) (by decide) (fun c5 hf => ?_) (fun c5 hf => ?_)
    · refine g_bipush (z := (-2)) (v := (-2)) (by decide +kernel) rfl ?_
      exact x_iret hf hs (by decide +kernel) rfl (Nat.le_refl _) (Nat.le_refl _)
    · refine g_iload_n (i := 1) (by decide +kernel) rfl ?_
      refine g_iload_n (i := 2) (by decide +kernel) rfl ?_
      refine x_icmp_ne (off := 6) (tgt := 31) hf (by decide +kernel) (by decide) (fun c6 hf => ?_) (fun c6 hf => ?_)
      · refine g_aload_n (i := 0) (by decide +kernel) rfl ?_
        refine g_iload_n (i := 1) (by decide +kernel) rfl ?_
        refine g_iload_n (i := 2) (by decide +kernel) rfl ?_
        refine x_callVI (as := [.int p1, .int p2]) Vi_Mod_meetIn Vs_Mod_meetIn (hs.k k_136) rfl hf (fun q hq => t_Mod_meetIn hs  hq) Y_Mod_meetIn L_Mod_359 (by decide +kernel) rfl rfl (Nat.le_of_ble_eq_true rfl) (by decide) (Nat.le_refl _) (Nat.le_refl _) (fun q7 hf hs => ?_)
        refine g_istore_n (i := 3) (by decide +kernel) rfl (by decide) (ls1 := [(0, .ref 136), (1, .int p1), (2, .int p2), (3, .int q7.1)]) rfl ?_
        refine g_iload_n (i := 3) (by decide +kernel) rfl ?_
        refine g_iconst (z := (-1)) (v := (-1)) (by decide +kernel) rfl ?_
        refine x_icmp_ne (off := 5) (tgt := 45) hf (by decide +kernel) (by decide) (fun c8 hf => ?_) (fun c8 hf => ?_)
        · refine g_aload_n (i := 0) (by decide +kernel) rfl ?_
          refine g_iload_n (i := 1) (by decide +kernel) rfl ?_
          refine g_iload_n (i := 3) (by decide +kernel) rfl ?_
          refine x_callVI (as := [.int p1, .int q7.1]) Vi_Mod_reachOf Vs_Mod_reachOf (hs.k k_136) rfl hf (fun q hq => t_Mod_reachOf hs  hq) Y_Mod_reachOf L_Mod_356 (by decide +kernel) rfl rfl (Nat.le_of_ble_eq_true rfl) (by decide) (Nat.le_refl _) (Nat.le_refl _) (fun q9 hf hs => ?_)
          refine g_aload_n (i := 0) (by decide +kernel) rfl ?_
          refine g_iload_n (i := 2) (by decide +kernel) rfl ?_
          refine g_iload_n (i := 3) (by decide +kernel) rfl ?_
          refine x_callVI (as := [.int p2, .int q7.1]) Vi_Mod_reachOf Vs_Mod_reachOf (hs.k k_136) rfl hf (fun q hq => t_Mod_reachOf hs  hq) Y_Mod_reachOf L_Mod_356 (by decide +kernel) rfl rfl (Nat.le_of_ble_eq_true rfl) (by decide) (Nat.le_refl _) (Nat.le_refl _) (fun q10 hf hs => ?_)
          refine g_iand (by decide +kernel) ?_
          refine g_istore (i := 4) (by decide +kernel) rfl (by decide) (ls1 := [(0, .ref 136), (1, .int p1), (2, .int p2), (3, .int q7.1), (4, .int (q9.1 &&& q10.1))]) rfl ?_
          refine g_iconst (z := 0) (v := 0) (by decide +kernel) rfl ?_
          refine g_istore (i := 5) (by decide +kernel) rfl (by decide) (ls1 := [(0, .ref 136), (1, .int p1), (2, .int p2), (3, .int q7.1), (4, .int (q9.1 &&& q10.1)), (5, .int (0 : Int32))]) rfl ?_
          obtain ⟨q13, hqq13, hf⟩ := Option.bind_eq_some_iff.mp hf
          refine am_G.forget (am_subp [0, 1, 2, 3, 4, 5] rfl) (t_Mod_meetAt_L63  am_fu _ _ _ _ q13 hs hqq13 ?_)
          refine g_iload (i := 5) (by decide +kernel) rfl ?_
          exact x_iret hf hs (by decide +kernel) rfl (Nat.le_refl _) (Nat.le_refl _)
        · refine g_iconst (z := (-1)) (v := (-1)) (by decide +kernel) rfl ?_
          exact x_iret hf hs (by decide +kernel) rfl (Nat.le_refl _) (Nat.le_refl _)
      · refine g_bipush (z := (-2)) (v := (-2)) (by decide +kernel) rfl ?_
        exact x_iret hf hs (by decide +kernel) rfl (Nat.le_refl _) (Nat.le_refl _)
def f_Mod_isErrand (p1 : Int32) (h : am_H) : Option (Bool) :=
  (am_rd (h.2.1 137) 3411 ((16 : Int32) + p1)).bind fun x1 =>
  (if x1 = (-1 : Int32) then
    some false
  else
    some true)
set_option maxRecDepth 100000 in
set_option maxHeartbeats 4000000 in
theorem t_Mod_isErrand {p1 : Int32} {h : am_H} (hs : am_Sh h)  {r : Bool} (hf : f_Mod_isErrand p1 h = some r) : am_Ct 0 M_Mod_isErrand [.ref 136, .int p1] h 0 0 (am_pB h r) := by
  unfold f_Mod_isErrand at hf
  refine am_Ct.of (by decide) rfl (Nat.le_of_ble_eq_true rfl) (ls := [(0, .ref 136), (1, .int p1)]) rfl ?_
  refine g_aload_n (i := 0) (by decide +kernel) rfl ?_
  refine x_getr (hs.k k_136) F_Mod_13 (by decide +kernel) rfl (hs.r r_136_1) ?_
  refine g_bipush (z := 16) (v := 16) (by decide +kernel) rfl ?_
  refine g_iload_n (i := 1) (by decide +kernel) rfl ?_
  refine g_iadd (by decide +kernel) ?_
  refine x_iald hf (hs.k k_137) (by decide +kernel) (fun x1 hf => ?_)
  refine g_iconst (z := (-1)) (v := (-1)) (by decide +kernel) rfl ?_
  refine x_icmp_eq (off := 7) (tgt := 17) hf (by decide +kernel) (by decide) (fun c2 hf => ?_) (fun c2 hf => ?_)
  · refine g_iconst (z := 0) (v := 0) (by decide +kernel) rfl ?_
    exact x_zretp rfl hf (by decide +kernel) rfl (Nat.le_refl _) (Nat.le_refl _)
  · refine g_iconst (z := 1) (v := 1) (by decide +kernel) rfl ?_
    refine g_goto (off := 4) (tgt := 18) (by decide +kernel) (by decide) ?_
    exact x_zretp rfl hf (by decide +kernel) rfl (Nat.le_refl _) (Nat.le_refl _)
def f_Mod_isInTime (p1 : Int32) (p2 : Int32) (h : am_H) : Option (Bool) :=
  (am_rd (h.2.1 137) 3411 (28 : Int32)).bind fun x1 =>
  (f_Mod_isIn ((x1).toInt64) p1 h).bind fun q2 =>
  (if q2 = true then
    some true
  else
    (am_rd (h.2.1 137) 3411 ((35 : Int32) + p1)).bind fun x4 =>
    (am_rd (h.2.1 137) 3411 ((16 : Int32) + p1)).bind fun x5 =>
    (f_Mod_hoursTo x4 x5 p2 h).bind fun q6 =>
    (if q6 = (-1 : Int32) then
      some false
    else
      (am_rd (h.2.1 137) 3411 (26 : Int32)).bind fun x8 =>
      (am_rd (h.2.1 137) 3411 ((21 : Int32) + p1)).bind fun x9 =>
      (if x9 < ((x8 + p2) + q6) then
        some false
      else
        some true)))
set_option maxRecDepth 100000 in
set_option maxHeartbeats 4000000 in
theorem t_Mod_isInTime {p1 : Int32} {p2 : Int32} {h : am_H} (hs : am_Sh h)  {r : Bool} (hf : f_Mod_isInTime p1 p2 h = some r) : am_Ct 3 M_Mod_isInTime [.ref 136, .int p1, .int p2] h 0 0 (am_pB h r) := by
  unfold f_Mod_isInTime at hf
  refine am_Ct.of (by decide) rfl (Nat.le_of_ble_eq_true rfl) (ls := [(0, .ref 136), (1, .int p1), (2, .int p2)]) rfl ?_
  refine g_aload_n (i := 0) (by decide +kernel) rfl ?_
  refine x_getr (hs.k k_136) F_Mod_13 (by decide +kernel) rfl (hs.r r_136_1) ?_
  refine g_bipush (z := 28) (v := 28) (by decide +kernel) rfl ?_
  refine x_iald hf (hs.k k_137) (by decide +kernel) (fun x1 hf => ?_)
  refine g_i2l (by decide +kernel) ?_
  refine g_iload_n (i := 1) (by decide +kernel) rfl ?_
  refine x_callSBp (as := [.long ((x1).toInt64), .int p1]) St_Mod_isIn hf (fun q hq => t_Mod_isIn hs  hq) Y_Mod_isIn L_Mod_260 (by decide +kernel) rfl rfl (Nat.le_of_ble_eq_true rfl) (by decide) (Nat.le_refl _) (Nat.le_refl _) (fun q2 hf => ?_)
  refine x_ifb_eq (off := 5) (tgt := 17) hf (by decide +kernel) (by decide) (fun c3 hf => ?_) (fun c3 hf => ?_)
  · refine g_aload_n (i := 0) (by decide +kernel) rfl ?_
    refine g_aload_n (i := 0) (by decide +kernel) rfl ?_
    refine x_getr (hs.k k_136) F_Mod_13 (by decide +kernel) rfl (hs.r r_136_1) ?_
    refine g_bipush (z := 35) (v := 35) (by decide +kernel) rfl ?_
    refine g_iload_n (i := 1) (by decide +kernel) rfl ?_
    refine g_iadd (by decide +kernel) ?_
    refine x_iald hf (hs.k k_137) (by decide +kernel) (fun x4 hf => ?_)
    refine g_aload_n (i := 0) (by decide +kernel) rfl ?_
    refine x_getr (hs.k k_136) F_Mod_13 (by decide +kernel) rfl (hs.r r_136_1) ?_
    refine g_bipush (z := 16) (v := 16) (by decide +kernel) rfl ?_
    refine g_iload_n (i := 1) (by decide +kernel) rfl ?_
    refine g_iadd (by decide +kernel) ?_
    refine x_iald hf (hs.k k_137) (by decide +kernel) (fun x5 hf => ?_)
    refine g_iload_n (i := 2) (by decide +kernel) rfl ?_
    refine x_callVIp (as := [.int x4, .int x5, .int p2]) Vi_Mod_hoursTo Vs_Mod_hoursTo (hs.k k_136) rfl hf (fun q hq => t_Mod_hoursTo hs  hq) Y_Mod_hoursTo L_Mod_336 (by decide +kernel) rfl rfl (Nat.le_of_ble_eq_true rfl) (by decide) (Nat.le_refl _) (Nat.le_refl _) (fun q6 hf => ?_)
    refine g_istore_n (i := 3) (by decide +kernel) rfl (by decide) (ls1 := [(0, .ref 136), (1, .int p1), (2, .int p2), (3, .int q6)]) rfl ?_
    refine g_iload_n (i := 3) (by decide +kernel) rfl ?_
    refine g_iconst (z := (-1)) (v := (-1)) (by decide +kernel) rfl ?_
    refine x_icmp_eq (off := 30) (tgt := 73) hf (by decide +kernel) (by decide) (fun c7 hf => ?_) (fun c7 hf => ?_)
    · refine g_iconst (z := 0) (v := 0) (by decide +kernel) rfl ?_
      exact x_zretp rfl hf (by decide +kernel) rfl (Nat.le_refl _) (Nat.le_refl _)
    · refine g_aload_n (i := 0) (by decide +kernel) rfl ?_
      refine x_getr (hs.k k_136) F_Mod_13 (by decide +kernel) rfl (hs.r r_136_1) ?_
      refine g_bipush (z := 26) (v := 26) (by decide +kernel) rfl ?_
      refine x_iald hf (hs.k k_137) (by decide +kernel) (fun x8 hf => ?_)
      refine g_iload_n (i := 2) (by decide +kernel) rfl ?_
      refine g_iadd (by decide +kernel) ?_
      refine g_iload_n (i := 3) (by decide +kernel) rfl ?_
      refine g_iadd (by decide +kernel) ?_
      refine g_aload_n (i := 0) (by decide +kernel) rfl ?_
      refine x_getr (hs.k k_136) F_Mod_13 (by decide +kernel) rfl (hs.r r_136_1) ?_
      refine g_bipush (z := 21) (v := 21) (by decide +kernel) rfl ?_
      refine g_iload_n (i := 1) (by decide +kernel) rfl ?_
      refine g_iadd (by decide +kernel) ?_
      refine x_iald hf (hs.k k_137) (by decide +kernel) (fun x9 hf => ?_)
      refine x_icmp_gt (off := 7) (tgt := 73) hf (by decide +kernel) (by decide) (fun c10 hf => ?_) (fun c10 hf => ?_)
      · refine g_iconst (z := 0) (v := 0) (by decide +kernel) rfl ?_
        exact x_zretp rfl hf (by decide +kernel) rfl (Nat.le_refl _) (Nat.le_refl _)
      · refine g_iconst (z := 1) (v := 1) (by decide +kernel) rfl ?_
        refine g_goto (off := 4) (tgt := 74) (by decide +kernel) (by decide) ?_
        exact x_zretp rfl hf (by decide +kernel) rfl (Nat.le_refl _) (Nat.le_refl _)
  · refine g_iconst (z := 1) (v := 1) (by decide +kernel) rfl ?_
    exact x_zretp rfl hf (by decide +kernel) rfl (Nat.le_refl _) (Nat.le_refl _)
