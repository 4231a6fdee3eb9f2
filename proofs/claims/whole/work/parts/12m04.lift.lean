def f_Mod_does (p1 : Int32) (h : am_H) : Option (am_H) :=
  (if p1 = (-1 : Int32) then
    (f_Mod_goesHour  h).bind fun q8 =>
    some q8.2
  else
    (if (50 : Int32) ≤ p1 then
      (if (200 : Int32) ≤ p1 then
        (am_wr h 137 3411 (27 : Int32) (p1 - (200 : Int32))).bind fun h4 =>
        some h4
      else
        (am_wr h 137 3411 ((29 : Int32) + ((p1 - (100 : Int32)) / (10 : Int32))) (if (p1 - p1 / (10 : Int32) * (10 : Int32)) = (9 : Int32) then (-1 : Int32) else (p1 - p1 / (10 : Int32) * (10 : Int32)))).bind fun h6 =>
        some h6)
    else
      (am_wr h 137 3411 ((40 : Int32) + (p1 / (10 : Int32))) (p1 - p1 / (10 : Int32) * (10 : Int32))).bind fun h7 =>
      some h7))
set_option maxRecDepth 100000 in
set_option maxHeartbeats 4000000 in
theorem t_Mod_does {p1 : Int32} {h : am_H} (hs : am_Sh h)  {r : am_H} (hf : f_Mod_does p1 h = some r) : am_Ct 5 M_Mod_does [.ref 136, .int p1] h 0 0 (am_qV r) := by
  unfold f_Mod_does at hf
  refine am_Ct.of (by decide) rfl (Nat.le_of_ble_eq_true rfl) (ls := [(0, .ref 136), (1, .int p1)]) rfl ?_
  refine g_iload_n (i := 1) (by decide +kernel) rfl ?_
  refine g_iconst (z := (-1)) (v := (-1)) (by decide +kernel) rfl ?_
  refine x_icmp_ne (off := 11) (tgt := 13) hf (by decide +kernel) (by decide) (fun c1 hf => ?_) (fun c1 hf => ?_)
  · refine g_iload_n (i := 1) (by decide +kernel) rfl ?_
    refine g_bipush (z := 50) (v := 50) (by decide +kernel) rfl ?_
    refine x_icmp_ge (off := 22) (tgt := 38) hf (by decide +kernel) (by decide) (fun c2 hf => ?_) (fun c2 hf => ?_)
    · refine g_iload_n (i := 1) (by decide +kernel) rfl ?_
      refine g_sipush (z := 200) (v := 200) (by decide +kernel) rfl ?_
      refine x_icmp_ge (off := 38) (tgt := 80) hf (by decide +kernel) (by decide) (fun c3 hf => ?_) (fun c3 hf => ?_)
      · refine g_aload_n (i := 0) (by decide +kernel) rfl ?_
        refine x_getr (hs.k k_136) F_Mod_13 (by decide +kernel) rfl (hs.r r_136_1) ?_
        refine g_bipush (z := 27) (v := 27) (by decide +kernel) rfl ?_
        refine g_iload_n (i := 1) (by decide +kernel) rfl ?_
        refine g_sipush (z := 200) (v := 200) (by decide +kernel) rfl ?_
        refine g_isub (by decide +kernel) ?_
        refine x_iast hf hs (hs.k k_137) (by decide +kernel) (fun h4 hf hs => ?_)
        exact x_vret hf hs (by decide +kernel) rfl (Nat.le_refl _) (Nat.le_refl _)
      · refine g_aload_n (i := 0) (by decide +kernel) rfl ?_
        refine x_getr (hs.k k_136) F_Mod_13 (by decide +kernel) rfl (hs.r r_136_1) ?_
        refine g_bipush (z := 29) (v := 29) (by decide +kernel) rfl ?_
        refine g_iload_n (i := 1) (by decide +kernel) rfl ?_
        refine g_bipush (z := 100) (v := 100) (by decide +kernel) rfl ?_
        refine g_isub (by decide +kernel) ?_
        refine g_bipush (z := 10) (v := 10) (by decide +kernel) rfl ?_
        refine g_idiv (by decide +kernel) (by decide) ?_
        refine g_iadd (by decide +kernel) ?_
        refine g_iload_n (i := 1) (by decide +kernel) rfl ?_
        refine g_bipush (z := 10) (v := 10) (by decide +kernel) rfl ?_
        refine g_irem (by decide +kernel) (by decide) ?_
        refine g_bipush (z := 9) (v := 9) (by decide +kernel) rfl ?_
        refine am_cut (J := 76) (ls' := [(0, .ref 136), (1, .int p1)]) (st' := [.int (if (p1 - p1 / (10 : Int32) * (10 : Int32)) = (9 : Int32) then (-1 : Int32) else (p1 - p1 / (10 : Int32) * (10 : Int32))), .int ((29 : Int32) + ((p1 - (100 : Int32)) / (10 : Int32))), .ref 137]) ?_ (fun K76 => ?_)
        · refine x_iast hf hs (hs.k k_137) (by decide +kernel) (fun h6 hf hs => ?_)
          refine g_goto (off := 15) (tgt := 92) (by decide +kernel) (by decide) ?_
          exact x_vret hf hs (by decide +kernel) rfl (Nat.le_refl _) (Nat.le_refl _)
        refine p_icmp_ne (off := 7) (tgt := 72) (by decide +kernel) (by decide) (fun c5 => ?_) (fun c5 => ?_)
        · refine g_iload_n (i := 1) (by decide +kernel) rfl ?_
          refine g_bipush (z := 10) (v := 10) (by decide +kernel) rfl ?_
          refine g_irem (by decide +kernel) (by decide) ?_
          have K1 := K76
          simp only [if_neg c5] at K1
          exact am_G.forget (am_subp [0, 1] rfl) K1
        · refine g_iconst (z := (-1)) (v := (-1)) (by decide +kernel) rfl ?_
          refine g_goto (off := 7) (tgt := 76) (by decide +kernel) (by decide) ?_
          have K1 := K76
          simp only [if_pos c5] at K1
          exact am_G.forget (am_subp [0, 1] rfl) K1
    · refine g_aload_n (i := 0) (by decide +kernel) rfl ?_
      refine x_getr (hs.k k_136) F_Mod_13 (by decide +kernel) rfl (hs.r r_136_1) ?_
      refine g_bipush (z := 40) (v := 40) (by decide +kernel) rfl ?_
      refine g_iload_n (i := 1) (by decide +kernel) rfl ?_
      refine g_bipush (z := 10) (v := 10) (by decide +kernel) rfl ?_
      refine g_idiv (by decide +kernel) (by decide) ?_
      refine g_iadd (by decide +kernel) ?_
      refine g_iload_n (i := 1) (by decide +kernel) rfl ?_
      refine g_bipush (z := 10) (v := 10) (by decide +kernel) rfl ?_
      refine g_irem (by decide +kernel) (by decide) ?_
      refine x_iast hf hs (hs.k k_137) (by decide +kernel) (fun h7 hf hs => ?_)
      refine g_goto (off := 57) (tgt := 92) (by decide +kernel) (by decide) ?_
      exact x_vret hf hs (by decide +kernel) rfl (Nat.le_refl _) (Nat.le_refl _)
  · refine g_aload_n (i := 0) (by decide +kernel) rfl ?_
    refine x_callVI (as := []) Vi_Mod_goesHour Vs_Mod_goesHour (hs.k k_136) rfl hf (fun q hq => t_Mod_goesHour hs  hq) Y_Mod_goesHour L_Mod_280 (by decide +kernel) rfl rfl (Nat.le_of_ble_eq_true rfl) (by decide) (Nat.le_refl _) (Nat.le_refl _) (fun q8 hf hs => ?_)
    refine g_pop (by decide +kernel) rfl ?_
    refine g_goto (off := 82) (tgt := 92) (by decide +kernel) (by decide) ?_
    exact x_vret hf hs (by decide +kernel) rfl (Nat.le_refl _) (Nat.le_refl _)
def f_Mod_tells_L7 (p1 : Int32) : Nat → Int32 → am_H → Option (Int32 × am_H)
  | 0, _, _ => none
  | n + 1, v2, h =>
    (am_rd (h.2.1 159) 4 p1).bind fun x2 =>
    (if x2 ≤ v2 then
      (am_rd (h.2.1 159) 4 p1).bind fun x4 =>
      some (x4, h)
    else
      (am_rd (h.2.2.1 160) 160 (((40 : Int32) * p1) + v2)).bind fun x5 =>
      (f_Mod_whyNot x5 h).bind fun q6 =>
      am_let (am_sI q6.2 136 19 q6.1) fun h7 =>
      (if (h7.2.1 136 19) = 0 then
        (am_rd (h7.2.2.1 160) 160 (((40 : Int32) * p1) + v2)).bind fun x9 =>
        (f_Mod_does ((x9).toInt32) h7).bind fun q10 =>
        f_Mod_tells_L7 p1 n (v2 + (1 : Int32)) q10
      else
        some (v2, h7)))
set_option maxRecDepth 100000 in
set_option maxHeartbeats 4000000 in
theorem t_Mod_tells_L7 {p1 : Int32}  : ∀ (n : Nat) (v2 : Int32) (h : am_H) (r : Int32 × am_H), am_Sh h → f_Mod_tells_L7 p1 n v2 h = some r → am_G 6 M_Mod_tells 0 0 (am_qI r) 7 [(0, .ref 136), (1, .int p1), (2, .int v2)] [] h 0 0 := by
  intro n
  induction n with
  | zero =>
    intro v2 h r hs hf
    rw [f_Mod_tells_L7] at hf
    cases hf
  | succ n ih =>
    intro v2 h r hs hf
    rw [f_Mod_tells_L7] at hf
    refine g_iload_n (i := 2) (by decide +kernel) rfl ?_
    refine g_aload_n (i := 0) (by decide +kernel) rfl ?_
    refine x_getr (hs.k k_136) F_Mod_85 (by decide +kernel) rfl (hs.r r_136_39) ?_
    refine g_iload_n (i := 1) (by decide +kernel) rfl ?_
    refine x_iald hf (hs.k k_159) (by decide +kernel) (fun x2 hf => ?_)
    refine x_icmp_ge (off := 53) (tgt := 67) hf (by decide +kernel) (by decide) (fun c3 hf => ?_) (fun c3 hf => ?_)
    · refine g_aload_n (i := 0) (by decide +kernel) rfl ?_
      refine x_getr (hs.k k_136) F_Mod_85 (by decide +kernel) rfl (hs.r r_136_39) ?_
      refine g_iload_n (i := 1) (by decide +kernel) rfl ?_
      refine x_iald hf (hs.k k_159) (by decide +kernel) (fun x4 hf => ?_)
      exact x_iret hf hs (by decide +kernel) rfl (Nat.le_refl _) (Nat.le_refl _)
    · refine g_aload_n (i := 0) (by decide +kernel) rfl ?_
      refine g_aload_n (i := 0) (by decide +kernel) rfl ?_
      refine g_aload_n (i := 0) (by decide +kernel) rfl ?_
      refine x_getr (hs.k k_136) F_Mod_88 (by decide +kernel) rfl (hs.r r_136_40) ?_
      refine g_bipush (z := 40) (v := 40) (by decide +kernel) rfl ?_
      refine g_iload_n (i := 1) (by decide +kernel) rfl ?_
      refine g_imul (by decide +kernel) ?_
      refine g_iload_n (i := 2) (by decide +kernel) rfl ?_
      refine g_iadd (by decide +kernel) ?_
      refine x_lald hf (hs.k k_160) (by decide +kernel) (fun x5 hf => ?_)
      refine x_callVI (as := [.long x5]) Vi_Mod_whyNot Vs_Mod_whyNot (hs.k k_136) rfl hf (fun q hq => t_Mod_whyNot hs  hq) Y_Mod_whyNot L_Mod_300 (by decide +kernel) rfl rfl (Nat.le_of_ble_eq_true rfl) (by decide) (Nat.le_refl _) (Nat.le_refl _) (fun q6 hf hs => ?_)
      refine x_puti hf hs (hs.k k_136) F_Mod_297 (by decide +kernel) rfl rfl rfl rfl (fun h7 hf hs => ?_)
      refine g_aload_n (i := 0) (by decide +kernel) rfl ?_
      refine x_geti (hs.k k_136) F_Mod_297 (by decide +kernel) rfl ?_
      refine x_if_eq (off := 5) (tgt := 45) hf (by decide +kernel) (by decide) (fun c8 hf => ?_) (fun c8 hf => ?_)
      · refine g_aload_n (i := 0) (by decide +kernel) rfl ?_
        refine g_aload_n (i := 0) (by decide +kernel) rfl ?_
        refine x_getr (hs.k k_136) F_Mod_88 (by decide +kernel) rfl (hs.r r_136_40) ?_
        refine g_bipush (z := 40) (v := 40) (by decide +kernel) rfl ?_
        refine g_iload_n (i := 1) (by decide +kernel) rfl ?_
        refine g_imul (by decide +kernel) ?_
        refine g_iload_n (i := 2) (by decide +kernel) rfl ?_
        refine g_iadd (by decide +kernel) ?_
        refine x_lald hf (hs.k k_160) (by decide +kernel) (fun x9 hf => ?_)
        refine g_l2i (by decide +kernel) ?_
        refine x_callVV (as := [.int ((x9).toInt32)]) Vi_Mod_does Vs_Mod_does (hs.k k_136) rfl hf (fun q hq => t_Mod_does hs  hq) Y_Mod_does L_Mod_304 (by decide +kernel) rfl rfl (Nat.le_of_ble_eq_true rfl) (by decide) (Nat.le_refl _) (Nat.le_refl _) (fun q10 hf hs => ?_)
        refine g_iinc (i := 2) (z := 1) (v := (v2 + (1 : Int32))) (by decide +kernel) rfl rfl rfl (by decide) (ls1 := [(0, .ref 136), (1, .int p1), (2, .int (v2 + (1 : Int32)))]) rfl ?_
        refine g_goto (off := (-57)) (tgt := 7) (by decide +kernel) (by decide) ?_
        exact am_G.forget (am_subp [0, 1, 2] rfl) (ih _ _ _ hs hf)
      · refine g_iload_n (i := 2) (by decide +kernel) rfl ?_
        exact x_iret hf hs (by decide +kernel) rfl (Nat.le_refl _) (Nat.le_refl _)
def f_Mod_tells (p1 : Int32) (h : am_H) : Option (Int32 × am_H) :=
  am_let (am_sI h 136 19 (0 : Int32)) fun h1 =>
  f_Mod_tells_L7 p1 am_fu (0 : Int32) h1
set_option maxRecDepth 100000 in
set_option maxHeartbeats 4000000 in
theorem t_Mod_tells {p1 : Int32} {h : am_H} (hs : am_Sh h)  {r : Int32 × am_H} (hf : f_Mod_tells p1 h = some r) : am_Ct 6 M_Mod_tells [.ref 136, .int p1] h 0 0 (am_qI r) := by
  unfold f_Mod_tells at hf
  refine am_Ct.of (by decide) rfl (Nat.le_of_ble_eq_true rfl) (ls := [(0, .ref 136), (1, .int p1)]) rfl ?_
  refine g_aload_n (i := 0) (by decide +kernel) rfl ?_
  refine g_iconst (z := 0) (v := 0) (by decide +kernel) rfl ?_
  refine x_puti hf hs (hs.k k_136) F_Mod_297 (by decide +kernel) rfl rfl rfl rfl (fun h1 hf hs => ?_)
  refine g_iconst (z := 0) (v := 0) (by decide +kernel) rfl ?_
  refine g_istore_n (i := 2) (by decide +kernel) rfl (by decide) (ls1 := [(0, .ref 136), (1, .int p1), (2, .int (0 : Int32))]) rfl ?_
  exact am_G.forget (am_subp [0, 1, 2] rfl) (t_Mod_tells_L7  am_fu _ _ _ hs hf)
def f_Mod_noTray (p1 : Int32) (h : am_H) : Option (Int32) :=
  (f_Mod_within ((p1).toInt64) (0 : Int64) (3 : Int64) h).bind fun q1 =>
  (if q1 = true then
    (am_rd (h.2.1 158) 4 p1).bind fun x3 =>
    (if x3 = (-1 : Int32) then
      some (-6 : Int32)
    else
      some (0 : Int32))
  else
    some (-2 : Int32))
set_option maxRecDepth 100000 in
set_option maxHeartbeats 4000000 in
theorem t_Mod_noTray {p1 : Int32} {h : am_H} (hs : am_Sh h)  {r : Int32} (hf : f_Mod_noTray p1 h = some r) : am_Ct 1 M_Mod_noTray [.ref 136, .int p1] h 0 0 (am_pI h r) := by
  unfold f_Mod_noTray at hf
  refine am_Ct.of (by decide) rfl (Nat.le_of_ble_eq_true rfl) (ls := [(0, .ref 136), (1, .int p1)]) rfl ?_
  refine g_iload_n (i := 1) (by decide +kernel) rfl ?_
  refine g_i2l (by decide +kernel) ?_
  refine g_lconst (z := 0) (v := 0) (by decide +kernel) rfl ?_
  refine g_ldc2 (by decide +kernel) C_Mod_307 ?_
  refine x_callSBp (as := [.long ((p1).toInt64), .long (0 : Int64), .long (3 : Int64)]) St_Mod_within hf (fun q hq => t_Mod_within hs  hq) Y_Mod_within L_Mod_157 (by decide +kernel) rfl rfl (Nat.le_of_ble_eq_true rfl) (by decide) (Nat.le_refl _) (Nat.le_refl _) (fun q1 hf => ?_)
  refine x_ifb_ne (off := 8) (tgt := 17) hf (by decide +kernel) (by decide) (fun c2 hf => ?_) (fun c2 hf => ?_)
  · refine g_aload_n (i := 0) (by decide +kernel) rfl ?_
    refine x_getr (hs.k k_136) F_Mod_82 (by decide +kernel) rfl (hs.r r_136_38) ?_
    refine g_iload_n (i := 1) (by decide +kernel) rfl ?_
    refine x_iald hf (hs.k k_158) (by decide +kernel) (fun x3 hf => ?_)
    refine g_iconst (z := (-1)) (v := (-1)) (by decide +kernel) rfl ?_
    refine x_icmp_ne (off := 8) (tgt := 32) hf (by decide +kernel) (by decide) (fun c4 hf => ?_) (fun c4 hf => ?_)
    · refine g_iconst (z := 0) (v := 0) (by decide +kernel) rfl ?_
      exact x_iretp hf (by decide +kernel) rfl (Nat.le_refl _) (Nat.le_refl _)
    · refine g_bipush (z := (-6)) (v := (-6)) (by decide +kernel) rfl ?_
      refine g_goto (off := 4) (tgt := 33) (by decide +kernel) (by decide) ?_
      exact x_iretp hf (by decide +kernel) rfl (Nat.le_refl _) (Nat.le_refl _)
  · refine g_bipush (z := (-2)) (v := (-2)) (by decide +kernel) rfl ?_
    refine g_goto (off := 19) (tgt := 33) (by decide +kernel) (by decide) ?_
    exact x_iretp hf (by decide +kernel) rfl (Nat.le_refl _) (Nat.le_refl _)
def f_Mod_judge (p1 : Int32) (p2 : Int32) (h : am_H) : Option (Int32 × am_H) :=
  am_let (am_sI h 136 0 (0 : Int32)) fun h1 =>
  (f_Mod_within ((p2).toInt64) (0 : Int64) (3 : Int64) h1).bind fun q2 =>
  (if q2 = true then
    (f_Mod_noTray p1 h1).bind fun q4 =>
    (if q4 = 0 then
      (f_Mod_keeps  h1).bind fun q6 =>
      (f_Mod_tells p1 q6).bind fun q7 =>
      (am_rd (q7.2.2.1 137) 3411 (28 : Int32)).bind fun x8 =>
      (am_rd (q7.2.2.1 137) 3411 (26 : Int32)).bind fun x9 =>
      (f_Mod_isAgain  q7.2).bind fun q10 =>
      (if p2 = 0 then
        (if (q10.2.1 136 19) = 0 then
          some ((-1 : Int32), q10)
        else
          some (q7.1, q10))
      else
        (if p2 = (1 : Int32) then
          some ((q10.2.1 136 19), q10)
        else
          (if p2 = (2 : Int32) then
            some (x8, q10)
          else
            some (x9, q10))))
    else
      some (q4, h1))
  else
    some ((-2 : Int32), h1))
set_option maxRecDepth 100000 in
set_option maxHeartbeats 4000000 in
theorem t_Mod_judge {p1 : Int32} {p2 : Int32} {h : am_H} (hs : am_Sh h)  {r : Int32 × am_H} (hf : f_Mod_judge p1 p2 h = some r) : am_Ct 7 M_Mod_judge [.ref 136, .int p1, .int p2] h 0 0 (am_qI r) := by
  unfold f_Mod_judge at hf
  refine am_Ct.of (by decide) rfl (Nat.le_of_ble_eq_true rfl) (ls := [(0, .ref 136), (1, .int p1), (2, .int p2)]) rfl ?_
  refine g_aload_n (i := 0) (by decide +kernel) rfl ?_
  refine g_iconst (z := 0) (v := 0) (by decide +kernel) rfl ?_
  refine x_puti hf hs (hs.k k_136) F_Mod_1 (by decide +kernel) rfl rfl rfl rfl (fun h1 hf hs => ?_)
  refine g_iload_n (i := 2) (by decide +kernel) rfl ?_
  refine g_i2l (by decide +kernel) ?_
  refine g_lconst (z := 0) (v := 0) (by decide +kernel) rfl ?_
  refine g_ldc2 (by decide +kernel) C_Mod_307 ?_
  refine x_callSBp (as := [.long ((p2).toInt64), .long (0 : Int64), .long (3 : Int64)]) St_Mod_within hf (fun q hq => t_Mod_within hs  hq) Y_Mod_within L_Mod_157 (by decide +kernel) rfl rfl (Nat.le_of_ble_eq_true rfl) (by decide) (Nat.le_refl _) (Nat.le_refl _) (fun q2 hf => ?_)
  refine x_ifb_ne (off := 6) (tgt := 20) hf (by decide +kernel) (by decide) (fun c3 hf => ?_) (fun c3 hf => ?_)
  · refine g_aload_n (i := 0) (by decide +kernel) rfl ?_
    refine g_iload_n (i := 1) (by decide +kernel) rfl ?_
    refine x_callVIp (as := [.int p1]) Vi_Mod_noTray Vs_Mod_noTray (hs.k k_136) rfl hf (fun q hq => t_Mod_noTray hs  hq) Y_Mod_noTray L_Mod_309 (by decide +kernel) rfl rfl (Nat.le_of_ble_eq_true rfl) (by decide) (Nat.le_refl _) (Nat.le_refl _) (fun q4 hf => ?_)
    refine g_istore_n (i := 3) (by decide +kernel) rfl (by decide) (ls1 := [(0, .ref 136), (1, .int p1), (2, .int p2), (3, .int q4)]) rfl ?_
    refine g_iload_n (i := 3) (by decide +kernel) rfl ?_
    refine x_if_eq (off := 5) (tgt := 32) hf (by decide +kernel) (by decide) (fun c5 hf => ?_) (fun c5 hf => ?_)
    · refine g_aload_n (i := 0) (by decide +kernel) rfl ?_
      refine x_callVV (as := []) Vi_Mod_keeps Vs_Mod_keeps (hs.k k_136) rfl hf (fun q hq => t_Mod_keeps hs  hq) Y_Mod_keeps L_Mod_268 (by decide +kernel) rfl rfl (Nat.le_of_ble_eq_true rfl) (by decide) (Nat.le_refl _) (Nat.le_refl _) (fun q6 hf hs => ?_)
      refine g_aload_n (i := 0) (by decide +kernel) rfl ?_
      refine g_iload_n (i := 1) (by decide +kernel) rfl ?_
      refine x_callVI (as := [.int p1]) Vi_Mod_tells Vs_Mod_tells (hs.k k_136) rfl hf (fun q hq => t_Mod_tells hs  hq) Y_Mod_tells L_Mod_312 (by decide +kernel) rfl rfl (Nat.le_of_ble_eq_true rfl) (by decide) (Nat.le_refl _) (Nat.le_refl _) (fun q7 hf hs => ?_)
      refine g_istore (i := 4) (by decide +kernel) rfl (by decide) (ls1 := [(0, .ref 136), (1, .int p1), (2, .int p2), (3, .int q4), (4, .int q7.1)]) rfl ?_
      refine g_aload_n (i := 0) (by decide +kernel) rfl ?_
      refine x_getr (hs.k k_136) F_Mod_13 (by decide +kernel) rfl (hs.r r_136_1) ?_
      refine g_bipush (z := 28) (v := 28) (by decide +kernel) rfl ?_
      refine x_iald hf (hs.k k_137) (by decide +kernel) (fun x8 hf => ?_)
      refine g_istore (i := 5) (by decide +kernel) rfl (by decide) (ls1 := [(0, .ref 136), (1, .int p1), (2, .int p2), (3, .int q4), (4, .int q7.1), (5, .int x8)]) rfl ?_
      refine g_aload_n (i := 0) (by decide +kernel) rfl ?_
      refine x_getr (hs.k k_136) F_Mod_13 (by decide +kernel) rfl (hs.r r_136_1) ?_
      refine g_bipush (z := 26) (v := 26) (by decide +kernel) rfl ?_
      refine x_iald hf (hs.k k_137) (by decide +kernel) (fun x9 hf => ?_)
      refine g_istore (i := 6) (by decide +kernel) rfl (by decide) (ls1 := [(0, .ref 136), (1, .int p1), (2, .int p2), (3, .int q4), (4, .int q7.1), (5, .int x8), (6, .int x9)]) rfl ?_
      refine g_aload_n (i := 0) (by decide +kernel) rfl ?_
      refine x_callVV (as := []) Vi_Mod_isAgain Vs_Mod_isAgain (hs.k k_136) rfl hf (fun q hq => t_Mod_isAgain hs  hq) Y_Mod_isAgain L_Mod_315 (by decide +kernel) rfl rfl (Nat.le_of_ble_eq_true rfl) (by decide) (Nat.le_refl _) (Nat.le_refl _) (fun q10 hf hs => ?_)
      refine g_iload_n (i := 2) (by decide +kernel) rfl ?_
      refine x_if_ne (off := 19) (tgt := 85) hf (by decide +kernel) (by decide) (fun c11 hf => ?_) (fun c11 hf => ?_)
      · refine g_iload_n (i := 2) (by decide +kernel) rfl ?_
        refine g_iconst (z := 1) (v := 1) (by decide +kernel) rfl ?_
        refine x_icmp_ne (off := 10) (tgt := 97) hf (by decide +kernel) (by decide) (fun c12 hf => ?_) (fun c12 hf => ?_)
        · refine g_iload_n (i := 2) (by decide +kernel) rfl ?_
          refine g_iconst (z := 2) (v := 2) (by decide +kernel) rfl ?_
          refine x_icmp_ne (off := 8) (tgt := 107) hf (by decide +kernel) (by decide) (fun c13 hf => ?_) (fun c13 hf => ?_)
          · refine g_iload (i := 6) (by decide +kernel) rfl ?_
            exact x_iret hf hs (by decide +kernel) rfl (Nat.le_refl _) (Nat.le_refl _)
          · refine g_iload (i := 5) (by decide +kernel) rfl ?_
            refine g_goto (off := 5) (tgt := 109) (by decide +kernel) (by decide) ?_
            exact x_iret hf hs (by decide +kernel) rfl (Nat.le_refl _) (Nat.le_refl _)
        · refine g_aload_n (i := 0) (by decide +kernel) rfl ?_
          refine x_geti (hs.k k_136) F_Mod_297 (by decide +kernel) rfl ?_
          refine g_goto (off := 15) (tgt := 109) (by decide +kernel) (by decide) ?_
          exact x_iret hf hs (by decide +kernel) rfl (Nat.le_refl _) (Nat.le_refl _)
      · refine g_aload_n (i := 0) (by decide +kernel) rfl ?_
        refine x_geti (hs.k k_136) F_Mod_297 (by decide +kernel) rfl ?_
        refine x_if_ne (off := 7) (tgt := 80) hf (by decide +kernel) (by decide) (fun c14 hf => ?_) (fun c14 hf => ?_)
        · refine g_iload (i := 4) (by decide +kernel) rfl ?_
          refine g_goto (off := 27) (tgt := 109) (by decide +kernel) (by decide) ?_
          exact x_iret hf hs (by decide +kernel) rfl (Nat.le_refl _) (Nat.le_refl _)
        · refine g_iconst (z := (-1)) (v := (-1)) (by decide +kernel) rfl ?_
          refine g_goto (off := 32) (tgt := 109) (by decide +kernel) (by decide) ?_
          exact x_iret hf hs (by decide +kernel) rfl (Nat.le_refl _) (Nat.le_refl _)
    · refine g_iload_n (i := 3) (by decide +kernel) rfl ?_
      exact x_iret hf hs (by decide +kernel) rfl (Nat.le_refl _) (Nat.le_refl _)
  · refine g_bipush (z := (-2)) (v := (-2)) (by decide +kernel) rfl ?_
    exact x_iret hf hs (by decide +kernel) rfl (Nat.le_refl _) (Nat.le_refl _)
def f_Mod_perform (p1 : Int32) (h : am_H) : Option (Int32 × am_H) :=
  am_let (am_sI h 136 0 (0 : Int32)) fun h1 =>
  (f_Mod_noTray p1 h1).bind fun q2 =>
  (if q2 = 0 then
    (f_Mod_keeps  h1).bind fun q4 =>
    (f_Mod_tells p1 q4).bind fun q5 =>
    (if q5.1 ≤ 0 then
      some (q5.1, q5.2)
    else
      (f_Mod_notes  q5.2).bind fun q7 =>
      some (q5.1, q7))
  else
    some (q2, h1))
set_option maxRecDepth 100000 in
set_option maxHeartbeats 4000000 in
theorem t_Mod_perform {p1 : Int32} {h : am_H} (hs : am_Sh h)  {r : Int32 × am_H} (hf : f_Mod_perform p1 h = some r) : am_Ct 7 M_Mod_perform [.ref 136, .int p1] h 0 0 (am_qI r) := by
  unfold f_Mod_perform at hf
  refine am_Ct.of (by decide) rfl (Nat.le_of_ble_eq_true rfl) (ls := [(0, .ref 136), (1, .int p1)]) rfl ?_
  refine g_aload_n (i := 0) (by decide +kernel) rfl ?_
  refine g_iconst (z := 0) (v := 0) (by decide +kernel) rfl ?_
  refine x_puti hf hs (hs.k k_136) F_Mod_1 (by decide +kernel) rfl rfl rfl rfl (fun h1 hf hs => ?_)
  refine g_aload_n (i := 0) (by decide +kernel) rfl ?_
  refine g_iload_n (i := 1) (by decide +kernel) rfl ?_
  refine x_callVIp (as := [.int p1]) Vi_Mod_noTray Vs_Mod_noTray (hs.k k_136) rfl hf (fun q hq => t_Mod_noTray hs  hq) Y_Mod_noTray L_Mod_309 (by decide +kernel) rfl rfl (Nat.le_of_ble_eq_true rfl) (by decide) (Nat.le_refl _) (Nat.le_refl _) (fun q2 hf => ?_)
  refine g_istore_n (i := 2) (by decide +kernel) rfl (by decide) (ls1 := [(0, .ref 136), (1, .int p1), (2, .int q2)]) rfl ?_
  refine g_iload_n (i := 2) (by decide +kernel) rfl ?_
  refine x_if_eq (off := 5) (tgt := 17) hf (by decide +kernel) (by decide) (fun c3 hf => ?_) (fun c3 hf => ?_)
  · refine g_aload_n (i := 0) (by decide +kernel) rfl ?_
    refine x_callVV (as := []) Vi_Mod_keeps Vs_Mod_keeps (hs.k k_136) rfl hf (fun q hq => t_Mod_keeps hs  hq) Y_Mod_keeps L_Mod_268 (by decide +kernel) rfl rfl (Nat.le_of_ble_eq_true rfl) (by decide) (Nat.le_refl _) (Nat.le_refl _) (fun q4 hf hs => ?_)
    refine g_aload_n (i := 0) (by decide +kernel) rfl ?_
    refine g_iload_n (i := 1) (by decide +kernel) rfl ?_
    refine x_callVI (as := [.int p1]) Vi_Mod_tells Vs_Mod_tells (hs.k k_136) rfl hf (fun q hq => t_Mod_tells hs  hq) Y_Mod_tells L_Mod_312 (by decide +kernel) rfl rfl (Nat.le_of_ble_eq_true rfl) (by decide) (Nat.le_refl _) (Nat.le_refl _) (fun q5 hf hs => ?_)
    refine g_istore_n (i := 3) (by decide +kernel) rfl (by decide) (ls1 := [(0, .ref 136), (1, .int p1), (2, .int q2), (3, .int q5.1)]) rfl ?_
    refine g_iload_n (i := 3) (by decide +kernel) rfl ?_
    refine x_if_le (off := 7) (tgt := 35) hf (by decide +kernel) (by decide) (fun c6 hf => ?_) (fun c6 hf => ?_)
    · refine g_iload_n (i := 3) (by decide +kernel) rfl ?_
      exact x_iret hf hs (by decide +kernel) rfl (Nat.le_refl _) (Nat.le_refl _)
    · refine g_aload_n (i := 0) (by decide +kernel) rfl ?_
      refine x_callVV (as := []) Vi_Mod_notes Vs_Mod_notes (hs.k k_136) rfl hf (fun q hq => t_Mod_notes hs  hq) Y_Mod_notes L_Mod_271 (by decide +kernel) rfl rfl (Nat.le_of_ble_eq_true rfl) (by decide) (Nat.le_refl _) (Nat.le_refl _) (fun q7 hf hs => ?_)
      refine g_iload_n (i := 3) (by decide +kernel) rfl ?_
      exact x_iret hf hs (by decide +kernel) rfl (Nat.le_refl _) (Nat.le_refl _)
  · refine g_iload_n (i := 2) (by decide +kernel) rfl ?_
    exact x_iret hf hs (by decide +kernel) rfl (Nat.le_refl _) (Nat.le_refl _)
def f_Mod_draw (p1 : Int32) (h : am_H) : Option (Int32 × am_H) :=
  am_let (am_sI h 136 20 (((1103515245 : Int32) * (h.2.1 136 20)) + (12345 : Int32))) fun h1 =>
  (am_md ((((h1.2.1 136 20)).toUInt32 >>> (((16 : Int32)).toUInt32 &&& Int32.toUInt32 31)).toInt32) p1).bind fun x2 =>
  some (x2, h1)
set_option maxRecDepth 100000 in
set_option maxHeartbeats 4000000 in
theorem t_Mod_draw {p1 : Int32} {h : am_H} (hs : am_Sh h)  {r : Int32 × am_H} (hf : f_Mod_draw p1 h = some r) : am_Ct 0 M_Mod_draw [.ref 136, .int p1] h 0 0 (am_qI r) := by
  unfold f_Mod_draw at hf
  refine am_Ct.of (by decide) rfl (Nat.le_of_ble_eq_true rfl) (ls := [(0, .ref 136), (1, .int p1)]) rfl ?_
  refine g_aload_n (i := 0) (by decide +kernel) rfl ?_
  refine g_ldcw (by decide +kernel) C_Mod_318 ?_
  refine g_aload_n (i := 0) (by decide +kernel) rfl ?_
  refine x_geti (hs.k k_136) F_Mod_319 (by decide +kernel) rfl ?_
  refine g_imul (by decide +kernel) ?_
  refine g_sipush (z := 12345) (v := 12345) (by decide +kernel) rfl ?_
  refine g_iadd (by decide +kernel) ?_
  refine x_puti hf hs (hs.k k_136) F_Mod_319 (by decide +kernel) rfl rfl rfl rfl (fun h1 hf hs => ?_)
  refine g_aload_n (i := 0) (by decide +kernel) rfl ?_
  refine x_geti (hs.k k_136) F_Mod_319 (by decide +kernel) rfl ?_
  refine g_bipush (z := 16) (v := 16) (by decide +kernel) rfl ?_
  refine g_iushr (by decide +kernel) ?_
  refine g_iload_n (i := 1) (by decide +kernel) rfl ?_
  refine x_irem hf (by decide +kernel) (fun x2 hf => ?_)
  exact x_iret hf hs (by decide +kernel) rfl (Nat.le_refl _) (Nat.le_refl _)
def f_Mod_drawn  (h : am_H) : Option (Int32 × am_H) :=
  (f_Mod_draw (4 : Int32) h).bind fun q1 =>
  (if q1.1 = 0 then
    some ((-1 : Int32), q1.2)
  else
    (if q1.1 = (3 : Int32) then
      (f_Mod_draw (3 : Int32) q1.2).bind fun q9 =>
      some (((200 : Int32) + q9.1), q9.2)
    else
      (am_rd (q1.2.2.1 137) 3411 (3 : Int32)).bind fun x4 =>
      (if x4 = 0 then
        some ((-9 : Int32), q1.2)
      else
        (am_rd (q1.2.2.1 137) 3411 (3 : Int32)).bind fun x6 =>
        (f_Mod_draw x6 q1.2).bind fun q7 =>
        (f_Mod_draw (7 : Int32) q7.2).bind fun q8 =>
        some ((((10 : Int32) * q7.1) + q8.1), q8.2))))
set_option maxRecDepth 100000 in
set_option maxHeartbeats 4000000 in
theorem t_Mod_drawn  {h : am_H} (hs : am_Sh h)  {r : Int32 × am_H} (hf : f_Mod_drawn  h = some r) : am_Ct 1 M_Mod_drawn [.ref 136] h 0 0 (am_qI r) := by
  unfold f_Mod_drawn at hf
  refine am_Ct.of (by decide) rfl (Nat.le_of_ble_eq_true rfl) (ls := [(0, .ref 136)]) rfl ?_
  refine g_aload_n (i := 0) (by decide +kernel) rfl ?_
  refine g_iconst (z := 4) (v := 4) (by decide +kernel) rfl ?_
  refine x_callVI (as := [.int (4 : Int32)]) Vi_Mod_draw Vs_Mod_draw (hs.k k_136) rfl hf (fun q hq => t_Mod_draw hs  hq) Y_Mod_draw L_Mod_322 (by decide +kernel) rfl rfl (Nat.le_of_ble_eq_true rfl) (by decide) (Nat.le_refl _) (Nat.le_refl _) (fun q1 hf hs => ?_)
  refine g_istore_n (i := 1) (by decide +kernel) rfl (by decide) (ls1 := [(0, .ref 136), (1, .int q1.1)]) rfl ?_
  refine g_iload_n (i := 1) (by decide +kernel) rfl ?_
  refine x_if_ne (off := 5) (tgt := 12) hf (by decide +kernel) (by decide) (fun c2 hf => ?_) (fun c2 hf => ?_)
  · refine g_iload_n (i := 1) (by decide +kernel) rfl ?_
    refine g_iconst (z := 3) (v := 3) (by decide +kernel) rfl ?_
    refine x_icmp_ne (off := 13) (tgt := 27) hf (by decide +kernel) (by decide) (fun c3 hf => ?_) (fun c3 hf => ?_)
    · refine g_aload_n (i := 0) (by decide +kernel) rfl ?_
      refine x_getr (hs.k k_136) F_Mod_13 (by decide +kernel) rfl (hs.r r_136_1) ?_
      refine g_iconst (z := 3) (v := 3) (by decide +kernel) rfl ?_
      refine x_iald hf (hs.k k_137) (by decide +kernel) (fun x4 hf => ?_)
      refine x_if_ne (off := 6) (tgt := 39) hf (by decide +kernel) (by decide) (fun c5 hf => ?_) (fun c5 hf => ?_)
      · refine g_aload_n (i := 0) (by decide +kernel) rfl ?_
        refine g_aload_n (i := 0) (by decide +kernel) rfl ?_
        refine x_getr (hs.k k_136) F_Mod_13 (by decide +kernel) rfl (hs.r r_136_1) ?_
        refine g_iconst (z := 3) (v := 3) (by decide +kernel) rfl ?_
        refine x_iald hf (hs.k k_137) (by decide +kernel) (fun x6 hf => ?_)
        refine x_callVI (as := [.int x6]) Vi_Mod_draw Vs_Mod_draw (hs.k k_136) rfl hf (fun q hq => t_Mod_draw hs  hq) Y_Mod_draw L_Mod_322 (by decide +kernel) rfl rfl (Nat.le_of_ble_eq_true rfl) (by decide) (Nat.le_refl _) (Nat.le_refl _) (fun q7 hf hs => ?_)
        refine g_istore_n (i := 2) (by decide +kernel) rfl (by decide) (ls1 := [(0, .ref 136), (1, .int q1.1), (2, .int q7.1)]) rfl ?_
        refine g_bipush (z := 10) (v := 10) (by decide +kernel) rfl ?_
        refine g_iload_n (i := 2) (by decide +kernel) rfl ?_
        refine g_imul (by decide +kernel) ?_
        refine g_aload_n (i := 0) (by decide +kernel) rfl ?_
        refine g_bipush (z := 7) (v := 7) (by decide +kernel) rfl ?_
        refine x_callVI (as := [.int (7 : Int32)]) Vi_Mod_draw Vs_Mod_draw (hs.k k_136) rfl hf (fun q hq => t_Mod_draw hs  hq) Y_Mod_draw L_Mod_322 (by decide +kernel) rfl rfl (Nat.le_of_ble_eq_true rfl) (by decide) (Nat.le_refl _) (Nat.le_refl _) (fun q8 hf hs => ?_)
        refine g_iadd (by decide +kernel) ?_
        exact x_iret hf hs (by decide +kernel) rfl (Nat.le_refl _) (Nat.le_refl _)
      · refine g_bipush (z := (-9)) (v := (-9)) (by decide +kernel) rfl ?_
        exact x_iret hf hs (by decide +kernel) rfl (Nat.le_refl _) (Nat.le_refl _)
    · refine g_sipush (z := 200) (v := 200) (by decide +kernel) rfl ?_
      refine g_aload_n (i := 0) (by decide +kernel) rfl ?_
      refine g_iconst (z := 3) (v := 3) (by decide +kernel) rfl ?_
      refine x_callVI (as := [.int (3 : Int32)]) Vi_Mod_draw Vs_Mod_draw (hs.k k_136) rfl hf (fun q hq => t_Mod_draw hs  hq) Y_Mod_draw L_Mod_322 (by decide +kernel) rfl rfl (Nat.le_of_ble_eq_true rfl) (by decide) (Nat.le_refl _) (Nat.le_refl _) (fun q9 hf hs => ?_)
      refine g_iadd (by decide +kernel) ?_
      exact x_iret hf hs (by decide +kernel) rfl (Nat.le_refl _) (Nat.le_refl _)
  · refine g_iconst (z := (-1)) (v := (-1)) (by decide +kernel) rfl ?_
    exact x_iret hf hs (by decide +kernel) rfl (Nat.le_refl _) (Nat.le_refl _)
def f_Mod_year_L34 (p1 : Int32) (p2 : Int32) : Nat → Int32 → Int32 → am_H → Option (Int32 × Int32 × am_H)
  | 0, _, _, _ => none
  | n + 1, v3, v4, h =>
    (if p2 ≤ v4 then
      some (v3, v4, h)
    else
      (f_Mod_drawn  h).bind fun q7 =>
      (f_Mod_whyNot ((q7.1).toInt64) q7.2).bind fun q8 =>
      (if q8.1 = 0 then
        (f_Mod_does q7.1 q8.2).bind fun q10 =>
        f_Mod_year_L34 p1 p2 n (v3 + (1 : Int32)) (v4 + (1 : Int32)) q10
      else
        f_Mod_year_L34 p1 p2 n v3 (v4 + (1 : Int32)) q8.2))
set_option maxRecDepth 100000 in
set_option maxHeartbeats 4000000 in
theorem t_Mod_year_L34 {p1 : Int32} {p2 : Int32}  {Q : Option Value → am_H → Prop} : ∀ (n : Nat) (v3 : Int32) (v4 : Int32) (h : am_H) (q : Int32 × Int32 × am_H), am_Sh h → f_Mod_year_L34 p1 p2 n v3 v4 h = some q → (am_Sh q.2.2 → am_G 6 M_Mod_year 0 0 Q 74 [(0, .ref 136), (1, .int p1), (2, .int p2), (3, .int q.1), (4, .int q.2.1)] [] q.2.2 0 0) → am_G 6 M_Mod_year 0 0 Q 34 [(0, .ref 136), (1, .int p1), (2, .int p2), (3, .int v3), (4, .int v4)] [] h 0 0 := by
  intro n
  induction n with
  | zero =>
    intro v3 v4 h q hs hf kont
    rw [f_Mod_year_L34] at hf
    cases hf
  | succ n ih =>
    intro v3 v4 h q hs hf kont
    rw [f_Mod_year_L34] at hf
    refine g_iload (i := 4) (by decide +kernel) rfl ?_
    refine g_iload_n (i := 2) (by decide +kernel) rfl ?_
    refine x_icmp_ge (off := 37) (tgt := 74) hf (by decide +kernel) (by decide) (fun c6 hf => ?_) (fun c6 hf => ?_)
    · cases hf
      exact am_G.forget (am_subp [0, 1, 2, 3, 4] rfl) (kont hs)
    · refine g_aload_n (i := 0) (by decide +kernel) rfl ?_
      refine x_callVI (as := []) Vi_Mod_drawn Vs_Mod_drawn (hs.k k_136) rfl hf (fun q hq => t_Mod_drawn hs  hq) Y_Mod_drawn L_Mod_327 (by decide +kernel) rfl rfl (Nat.le_of_ble_eq_true rfl) (by decide) (Nat.le_refl _) (Nat.le_refl _) (fun q7 hf hs => ?_)
      refine g_istore (i := 5) (by decide +kernel) rfl (by decide) (ls1 := [(0, .ref 136), (1, .int p1), (2, .int p2), (3, .int v3), (4, .int v4), (5, .int q7.1)]) rfl ?_
      refine g_aload_n (i := 0) (by decide +kernel) rfl ?_
      refine g_iload (i := 5) (by decide +kernel) rfl ?_
      refine g_i2l (by decide +kernel) ?_
      refine x_callVI (as := [.long ((q7.1).toInt64)]) Vi_Mod_whyNot Vs_Mod_whyNot (hs.k k_136) rfl hf (fun q hq => t_Mod_whyNot hs  hq) Y_Mod_whyNot L_Mod_300 (by decide +kernel) rfl rfl (Nat.le_of_ble_eq_true rfl) (by decide) (Nat.le_refl _) (Nat.le_refl _) (fun q8 hf hs => ?_)
      refine x_if_eq (off := 6) (tgt := 59) hf (by decide +kernel) (by decide) (fun c9 hf => ?_) (fun c9 hf => ?_)
      · refine g_aload_n (i := 0) (by decide +kernel) rfl ?_
        refine g_iload (i := 5) (by decide +kernel) rfl ?_
        refine x_callVV (as := [.int q7.1]) Vi_Mod_does Vs_Mod_does (hs.k k_136) rfl hf (fun q hq => t_Mod_does hs  hq) Y_Mod_does L_Mod_304 (by decide +kernel) rfl rfl (Nat.le_of_ble_eq_true rfl) (by decide) (Nat.le_refl _) (Nat.le_refl _) (fun q10 hf hs => ?_)
        refine g_iinc (i := 3) (z := 1) (v := (v3 + (1 : Int32))) (by decide +kernel) rfl rfl rfl (by decide) (ls1 := [(0, .ref 136), (1, .int p1), (2, .int p2), (3, .int (v3 + (1 : Int32))), (4, .int v4), (5, .int q7.1)]) rfl ?_
        refine g_iinc (i := 4) (z := 1) (v := (v4 + (1 : Int32))) (by decide +kernel) rfl rfl rfl (by decide) (ls1 := [(0, .ref 136), (1, .int p1), (2, .int p2), (3, .int (v3 + (1 : Int32))), (4, .int (v4 + (1 : Int32))), (5, .int q7.1)]) rfl ?_
        refine g_goto (off := (-37)) (tgt := 34) (by decide +kernel) (by decide) ?_
        exact am_G.forget (am_subp [0, 1, 2, 3, 4] rfl) (ih _ _ _ _ hs hf kont)
      · refine g_goto (off := 12) (tgt := 68) (by decide +kernel) (by decide) ?_
        refine g_iinc (i := 4) (z := 1) (v := (v4 + (1 : Int32))) (by decide +kernel) rfl rfl rfl (by decide) (ls1 := [(0, .ref 136), (1, .int p1), (2, .int p2), (3, .int v3), (4, .int (v4 + (1 : Int32))), (5, .int q7.1)]) rfl ?_
        refine g_goto (off := (-37)) (tgt := 34) (by decide +kernel) (by decide) ?_
        exact am_G.forget (am_subp [0, 1, 2, 3, 4] rfl) (ih _ _ _ _ hs hf kont)
def f_Mod_year (p1 : Int32) (p2 : Int32) (h : am_H) : Option (Int32 × am_H) :=
  am_let (am_sI h 136 0 (0 : Int32)) fun h1 =>
  (f_Mod_within ((p2).toInt64) (1 : Int64) (40 : Int64) h1).bind fun q2 =>
  (if q2 = true then
    (f_Mod_keeps  h1).bind fun q4 =>
    am_let (am_sI q4 136 20 p1) fun h5 =>
    (f_Mod_year_L34 p1 p2 am_fu (0 : Int32) (0 : Int32) h5).bind fun q11 =>
    (if q11.1 ≤ 0 then
      some (q11.1, q11.2.2)
    else
      (f_Mod_notes  q11.2.2).bind fun q13 =>
      some (q11.1, q13))
  else
    some ((-3 : Int32), h1))
set_option maxRecDepth 100000 in
set_option maxHeartbeats 4000000 in
theorem t_Mod_year {p1 : Int32} {p2 : Int32} {h : am_H} (hs : am_Sh h)  {r : Int32 × am_H} (hf : f_Mod_year p1 p2 h = some r) : am_Ct 6 M_Mod_year [.ref 136, .int p1, .int p2] h 0 0 (am_qI r) := by
  unfold f_Mod_year at hf
  refine am_Ct.of (by decide) rfl (Nat.le_of_ble_eq_true rfl) (ls := [(0, .ref 136), (1, .int p1), (2, .int p2)]) rfl ?_
  refine g_aload_n (i := 0) (by decide +kernel) rfl ?_
  refine g_iconst (z := 0) (v := 0) (by decide +kernel) rfl ?_
  refine x_puti hf hs (hs.k k_136) F_Mod_1 (by decide +kernel) rfl rfl rfl rfl (fun h1 hf hs => ?_)
  refine g_iload_n (i := 2) (by decide +kernel) rfl ?_
  refine g_i2l (by decide +kernel) ?_
  refine g_lconst (z := 1) (v := 1) (by decide +kernel) rfl ?_
  refine g_ldc2 (by decide +kernel) C_Mod_325 ?_
  refine x_callSBp (as := [.long ((p2).toInt64), .long (1 : Int64), .long (40 : Int64)]) St_Mod_within hf (fun q hq => t_Mod_within hs  hq) Y_Mod_within L_Mod_157 (by decide +kernel) rfl rfl (Nat.le_of_ble_eq_true rfl) (by decide) (Nat.le_refl _) (Nat.le_refl _) (fun q2 hf => ?_)
  refine x_ifb_ne (off := 6) (tgt := 20) hf (by decide +kernel) (by decide) (fun c3 hf => ?_) (fun c3 hf => ?_)
  · refine g_aload_n (i := 0) (by decide +kernel) rfl ?_
    refine x_callVV (as := []) Vi_Mod_keeps Vs_Mod_keeps (hs.k k_136) rfl hf (fun q hq => t_Mod_keeps hs  hq) Y_Mod_keeps L_Mod_268 (by decide +kernel) rfl rfl (Nat.le_of_ble_eq_true rfl) (by decide) (Nat.le_refl _) (Nat.le_refl _) (fun q4 hf hs => ?_)
    refine g_aload_n (i := 0) (by decide +kernel) rfl ?_
    refine g_iload_n (i := 1) (by decide +kernel) rfl ?_
    refine x_puti hf hs (hs.k k_136) F_Mod_319 (by decide +kernel) rfl rfl rfl rfl (fun h5 hf hs => ?_)
    refine g_iconst (z := 0) (v := 0) (by decide +kernel) rfl ?_
    refine g_istore_n (i := 3) (by decide +kernel) rfl (by decide) (ls1 := [(0, .ref 136), (1, .int p1), (2, .int p2), (3, .int (0 : Int32))]) rfl ?_
    refine g_iconst (z := 0) (v := 0) (by decide +kernel) rfl ?_
    refine g_istore (i := 4) (by decide +kernel) rfl (by decide) (ls1 := [(0, .ref 136), (1, .int p1), (2, .int p2), (3, .int (0 : Int32)), (4, .int (0 : Int32))]) rfl ?_
    obtain ⟨q11, hqq11, hf⟩ := Option.bind_eq_some_iff.mp hf
    refine am_G.forget (am_subp [0, 1, 2, 3, 4] rfl) (t_Mod_year_L34  am_fu _ _ _ q11 hs hqq11 (fun hs => ?_))
    refine g_iload_n (i := 3) (by decide +kernel) rfl ?_
    refine x_if_le (off := 7) (tgt := 82) hf (by decide +kernel) (by decide) (fun c12 hf => ?_) (fun c12 hf => ?_)
    · refine g_iload_n (i := 3) (by decide +kernel) rfl ?_
      exact x_iret hf hs (by decide +kernel) rfl (Nat.le_refl _) (Nat.le_refl _)
    · refine g_aload_n (i := 0) (by decide +kernel) rfl ?_
      refine x_callVV (as := []) Vi_Mod_notes Vs_Mod_notes (hs.k k_136) rfl hf (fun q hq => t_Mod_notes hs  hq) Y_Mod_notes L_Mod_271 (by decide +kernel) rfl rfl (Nat.le_of_ble_eq_true rfl) (by decide) (Nat.le_refl _) (Nat.le_refl _) (fun q13 hf hs => ?_)
      refine g_iload_n (i := 3) (by decide +kernel) rfl ?_
      exact x_iret hf hs (by decide +kernel) rfl (Nat.le_refl _) (Nat.le_refl _)
  · refine g_bipush (z := (-3)) (v := (-3)) (by decide +kernel) rfl ?_
    exact x_iret hf hs (by decide +kernel) rfl (Nat.le_refl _) (Nat.le_refl _)
def f_Mod_laysLets_L53 (p1 : Int32) : Nat → Int32 → Int32 → Int32 → Int32 → am_H → Option (Int32 × am_H)
  | 0, _, _, _, _, _ => none
  | n + 1, v2, v3, v4, v5, h =>
    (am_rd (h.2.1 137) 3411 (1 : Int32)).bind fun x7 =>
    (if ((2 : Int32) * x7) ≤ v5 then
      some (v5, h)
    else
      (f_Mod_lets (0 : Int32) p1 (v5 / (2 : Int32)) v2 v3 (v5 - v5 / (2 : Int32) * (2 : Int32)) h).bind fun q9 =>
      (if q9.1 = true then
        (am_rd (q9.2.2.1 137) 3411 (1 : Int32)).bind fun x11 =>
        ((if (x11 - (1 : Int32)) ≤ (v5 / (2 : Int32)) then
            some q9.2
          else
            (am_rd (q9.2.2.1 144) 12 v4).bind fun x13 =>
            (am_wr q9.2 144 12 v4 (x13 ||| ((1 : Int32) <<< (v5 &&& 31)))).bind fun h14 =>
            some h14) : Option (am_H)).bind fun m15 =>
        (if v5 ≤ (1 : Int32) then
          f_Mod_laysLets_L53 p1 n v2 v3 v4 (v5 + (1 : Int32)) m15
        else
          (am_rd (m15.2.1 145) 12 v4).bind fun x17 =>
          (am_wr m15 145 12 v4 (x17 ||| ((1 : Int32) <<< (v5 &&& 31)))).bind fun h18 =>
          f_Mod_laysLets_L53 p1 n v2 v3 v4 (v5 + (1 : Int32)) h18)
      else
        f_Mod_laysLets_L53 p1 n v2 v3 v4 (v5 + (1 : Int32)) q9.2))
set_option maxRecDepth 100000 in
set_option maxHeartbeats 4000000 in
theorem t_Mod_laysLets_L53 {p1 : Int32}  {Q : Option Value → am_H → Prop} : ∀ (n : Nat) (v2 : Int32) (v3 : Int32) (v4 : Int32) (v5 : Int32) (h : am_H) (q : Int32 × am_H), am_Sh h → f_Mod_laysLets_L53 p1 n v2 v3 v4 v5 h = some q → (am_Sh q.2 → am_G 2 M_Mod_laysLets 0 0 Q 143 [(0, .ref 136), (1, .int p1), (2, .int v2), (3, .int v3), (4, .int v4), (5, .int q.1)] [] q.2 0 0) → am_G 2 M_Mod_laysLets 0 0 Q 53 [(0, .ref 136), (1, .int p1), (2, .int v2), (3, .int v3), (4, .int v4), (5, .int v5)] [] h 0 0 := by
  intro n
  induction n with
  | zero =>
    intro v2 v3 v4 v5 h q hs hf kont
    rw [f_Mod_laysLets_L53] at hf
    cases hf
  | succ n ih =>
    intro v2 v3 v4 v5 h q hs hf kont
    rw [f_Mod_laysLets_L53] at hf
    refine g_iload (i := 5) (by decide +kernel) rfl ?_
    refine g_iconst (z := 2) (v := 2) (by decide +kernel) rfl ?_
    refine g_aload_n (i := 0) (by decide +kernel) rfl ?_
    refine x_getr (hs.k k_136) F_Mod_13 (by decide +kernel) rfl (hs.r r_136_1) ?_
    refine g_iconst (z := 1) (v := 1) (by decide +kernel) rfl ?_
    refine x_iald hf (hs.k k_137) (by decide +kernel) (fun x7 hf => ?_)
    refine g_imul (by decide +kernel) ?_
    refine x_icmp_ge (off := 80) (tgt := 143) hf (by decide +kernel) (by decide) (fun c8 hf => ?_) (fun c8 hf => ?_)
    · cases hf
      exact am_G.forget (am_subp [0, 1, 2, 3, 4, 5] rfl) (kont hs)
    · refine g_aload_n (i := 0) (by decide +kernel) rfl ?_
      refine g_iconst (z := 0) (v := 0) (by decide +kernel) rfl ?_
      refine g_iload_n (i := 1) (by decide +kernel) rfl ?_
      refine g_iload (i := 5) (by decide +kernel) rfl ?_
      refine g_iconst (z := 2) (v := 2) (by decide +kernel) rfl ?_
      refine g_idiv (by decide +kernel) (by decide) ?_
      refine g_iload_n (i := 2) (by decide +kernel) rfl ?_
      refine g_iload_n (i := 3) (by decide +kernel) rfl ?_
      refine g_iload (i := 5) (by decide +kernel) rfl ?_
      refine g_iconst (z := 2) (v := 2) (by decide +kernel) rfl ?_
      refine g_irem (by decide +kernel) (by decide) ?_
      refine x_callVB (as := [.int (0 : Int32), .int p1, .int (v5 / (2 : Int32)), .int v2, .int v3, .int (v5 - v5 / (2 : Int32) * (2 : Int32))]) Vi_Mod_lets Vs_Mod_lets (hs.k k_136) rfl hf (fun q hq => t_Mod_lets hs  hq) Y_Mod_lets L_Mod_241 (by decide +kernel) rfl rfl (Nat.le_of_ble_eq_true rfl) (by decide) (Nat.le_refl _) (Nat.le_refl _) (fun q9 hf hs => ?_)
      refine x_ifb_ne (off := 6) (tgt := 88) hf (by decide +kernel) (by decide) (fun c10 hf => ?_) (fun c10 hf => ?_)
      · refine g_iload (i := 5) (by decide +kernel) rfl ?_
        refine g_iconst (z := 2) (v := 2) (by decide +kernel) rfl ?_
        refine g_idiv (by decide +kernel) (by decide) ?_
        refine g_aload_n (i := 0) (by decide +kernel) rfl ?_
        refine x_getr (hs.k k_136) F_Mod_13 (by decide +kernel) rfl (hs.r r_136_1) ?_
        refine g_iconst (z := 1) (v := 1) (by decide +kernel) rfl ?_
        refine x_iald hf (hs.k k_137) (by decide +kernel) (fun x11 hf => ?_)
        refine g_iconst (z := 1) (v := 1) (by decide +kernel) rfl ?_
        refine g_isub (by decide +kernel) ?_
        obtain ⟨m15, hm117, hf⟩ := Option.bind_eq_some_iff.mp hf
        refine am_cutS (J := 117) (ls' := [(0, .ref 136), (1, .int p1), (2, .int v2), (3, .int v3), (4, .int v4), (5, .int v5)]) (st' := []) (h' := m15) (fun hs => ?_) (fun K117 => ?_)
        · refine g_iload (i := 5) (by decide +kernel) rfl ?_
          refine g_iconst (z := 1) (v := 1) (by decide +kernel) rfl ?_
          refine x_icmp_le (off := 17) (tgt := 137) hf (by decide +kernel) (by decide) (fun c16 hf => ?_) (fun c16 hf => ?_)
          · refine g_iinc (i := 5) (z := 1) (v := (v5 + (1 : Int32))) (by decide +kernel) rfl rfl rfl (by decide) (ls1 := [(0, .ref 136), (1, .int p1), (2, .int v2), (3, .int v3), (4, .int v4), (5, .int (v5 + (1 : Int32)))]) rfl ?_
            refine g_goto (off := (-87)) (tgt := 53) (by decide +kernel) (by decide) ?_
            exact am_G.forget (am_subp [0, 1, 2, 3, 4, 5] rfl) (ih _ _ _ _ _ _ hs hf kont)
          · refine g_aload_n (i := 0) (by decide +kernel) rfl ?_
            refine x_getr (hs.k k_136) F_Mod_42 (by decide +kernel) rfl (hs.r r_136_22) ?_
            refine g_iload (i := 4) (by decide +kernel) rfl ?_
            refine g_dup2_11 (by decide +kernel) rfl rfl ?_
            refine x_iald hf (hs.k k_145) (by decide +kernel) (fun x17 hf => ?_)
            refine g_iconst (z := 1) (v := 1) (by decide +kernel) rfl ?_
            refine g_iload (i := 5) (by decide +kernel) rfl ?_
            refine g_ishl (by decide +kernel) ?_
            refine g_ior (by decide +kernel) ?_
            refine x_iast hf hs (hs.k k_145) (by decide +kernel) (fun h18 hf hs => ?_)
            refine g_iinc (i := 5) (z := 1) (v := (v5 + (1 : Int32))) (by decide +kernel) rfl rfl rfl (by decide) (ls1 := [(0, .ref 136), (1, .int p1), (2, .int v2), (3, .int v3), (4, .int v4), (5, .int (v5 + (1 : Int32)))]) rfl ?_
            refine g_goto (off := (-87)) (tgt := 53) (by decide +kernel) (by decide) ?_
            exact am_G.forget (am_subp [0, 1, 2, 3, 4, 5] rfl) (ih _ _ _ _ _ _ hs hf kont)
        refine x_icmp_ge (off := 17) (tgt := 117) hm117 (by decide +kernel) (by decide) (fun c12 hm117 => ?_) (fun c12 hm117 => ?_)
        · cases hm117
          exact am_G.forget (am_subp [0, 1, 2, 3, 4, 5] rfl) (K117 hs)
        · refine g_aload_n (i := 0) (by decide +kernel) rfl ?_
          refine x_getr (hs.k k_136) F_Mod_39 (by decide +kernel) rfl (hs.r r_136_21) ?_
          refine g_iload (i := 4) (by decide +kernel) rfl ?_
          refine g_dup2_11 (by decide +kernel) rfl rfl ?_
          refine x_iald hm117 (hs.k k_144) (by decide +kernel) (fun x13 hm117 => ?_)
          refine g_iconst (z := 1) (v := 1) (by decide +kernel) rfl ?_
          refine g_iload (i := 5) (by decide +kernel) rfl ?_
          refine g_ishl (by decide +kernel) ?_
          refine g_ior (by decide +kernel) ?_
          refine x_iast hm117 hs (hs.k k_144) (by decide +kernel) (fun h14 hm117 hs => ?_)
          cases hm117
          exact am_G.forget (am_subp [0, 1, 2, 3, 4, 5] rfl) (K117 hs)
      · refine g_goto (off := 52) (tgt := 137) (by decide +kernel) (by decide) ?_
        refine g_iinc (i := 5) (z := 1) (v := (v5 + (1 : Int32))) (by decide +kernel) rfl rfl rfl (by decide) (ls1 := [(0, .ref 136), (1, .int p1), (2, .int v2), (3, .int v3), (4, .int v4), (5, .int (v5 + (1 : Int32)))]) rfl ?_
        refine g_goto (off := (-87)) (tgt := 53) (by decide +kernel) (by decide) ?_
        exact am_G.forget (am_subp [0, 1, 2, 3, 4, 5] rfl) (ih _ _ _ _ _ _ hs hf kont)
def f_Mod_laysLets_L146 (p1 : Int32) : Nat → Int32 → Int32 → Int32 → Int32 → am_H → Option (Int32 × am_H)
  | 0, _, _, _, _, _ => none
  | n + 1, v2, v3, v4, v5, h =>
    (am_rd (h.2.1 137) 3411 (1 : Int32)).bind fun x20 =>
    (if x20 ≤ v5 then
      some (v5, h)
    else
      (am_rd (h.2.1 146) 12 v4).bind fun x22 =>
      (f_Mod_lets (1 : Int32) p1 v5 v2 v3 (0 : Int32) h).bind fun q23 =>
      (am_wr q23.2 146 12 v4 (x22 ||| (if q23.1 = true then ((1 : Int32) <<< (v5 &&& 31)) else (0 : Int32)))).bind fun h25 =>
      f_Mod_laysLets_L146 p1 n v2 v3 v4 (v5 + (1 : Int32)) h25)
set_option maxRecDepth 100000 in
set_option maxHeartbeats 4000000 in
theorem t_Mod_laysLets_L146 {p1 : Int32}  {Q : Option Value → am_H → Prop} : ∀ (n : Nat) (v2 : Int32) (v3 : Int32) (v4 : Int32) (v5 : Int32) (h : am_H) (q : Int32 × am_H), am_Sh h → f_Mod_laysLets_L146 p1 n v2 v3 v4 v5 h = some q → (am_Sh q.2 → am_G 2 M_Mod_laysLets 0 0 Q 195 [(0, .ref 136), (1, .int p1), (2, .int v2), (3, .int v3), (4, .int v4), (5, .int q.1)] [] q.2 0 0) → am_G 2 M_Mod_laysLets 0 0 Q 146 [(0, .ref 136), (1, .int p1), (2, .int v2), (3, .int v3), (4, .int v4), (5, .int v5)] [] h 0 0 := by
  intro n
  induction n with
  | zero =>
    intro v2 v3 v4 v5 h q hs hf kont
    rw [f_Mod_laysLets_L146] at hf
    cases hf
  | succ n ih =>
    intro v2 v3 v4 v5 h q hs hf kont
    rw [f_Mod_laysLets_L146] at hf
    refine g_iload (i := 5) (by decide +kernel) rfl ?_
    refine g_aload_n (i := 0) (by decide +kernel) rfl ?_
    refine x_getr (hs.k k_136) F_Mod_13 (by decide +kernel) rfl (hs.r r_136_1) ?_
    refine g_iconst (z := 1) (v := 1) (by decide +kernel) rfl ?_
    refine x_iald hf (hs.k k_137) (by decide +kernel) (fun x20 hf => ?_)
    refine x_icmp_ge (off := 41) (tgt := 195) hf (by decide +kernel) (by decide) (fun c21 hf => ?_) (fun c21 hf => ?_)
    · cases hf
      exact am_G.forget (am_subp [0, 1, 2, 3, 4, 5] rfl) (kont hs)
    · refine g_aload_n (i := 0) (by decide +kernel) rfl ?_
      refine x_getr (hs.k k_136) F_Mod_45 (by decide +kernel) rfl (hs.r r_136_23) ?_
      refine g_iload (i := 4) (by decide +kernel) rfl ?_
      refine g_dup2_11 (by decide +kernel) rfl rfl ?_
      refine x_iald hf (hs.k k_146) (by decide +kernel) (fun x22 hf => ?_)
      refine g_aload_n (i := 0) (by decide +kernel) rfl ?_
      refine g_iconst (z := 1) (v := 1) (by decide +kernel) rfl ?_
      refine g_iload_n (i := 1) (by decide +kernel) rfl ?_
      refine g_iload (i := 5) (by decide +kernel) rfl ?_
      refine g_iload_n (i := 2) (by decide +kernel) rfl ?_
      refine g_iload_n (i := 3) (by decide +kernel) rfl ?_
      refine g_iconst (z := 0) (v := 0) (by decide +kernel) rfl ?_
      refine x_callVB (as := [.int (1 : Int32), .int p1, .int v5, .int v2, .int v3, .int (0 : Int32)]) Vi_Mod_lets Vs_Mod_lets (hs.k k_136) rfl hf (fun q hq => t_Mod_lets hs  hq) Y_Mod_lets L_Mod_241 (by decide +kernel) rfl rfl (Nat.le_of_ble_eq_true rfl) (by decide) (Nat.le_refl _) (Nat.le_refl _) (fun q23 hf hs => ?_)
      refine am_cut (J := 187) (ls' := [(0, .ref 136), (1, .int p1), (2, .int v2), (3, .int v3), (4, .int v4), (5, .int v5)]) (st' := [.int (if q23.1 = true then ((1 : Int32) <<< (v5 &&& 31)) else (0 : Int32)), .int x22, .int v4, .ref 146]) ?_ (fun K187 => ?_)
      · refine g_ior (by decide +kernel) ?_
        refine x_iast hf hs (hs.k k_146) (by decide +kernel) (fun h25 hf hs => ?_)
        refine g_iinc (i := 5) (z := 1) (v := (v5 + (1 : Int32))) (by decide +kernel) rfl rfl rfl (by decide) (ls1 := [(0, .ref 136), (1, .int p1), (2, .int v2), (3, .int v3), (4, .int v4), (5, .int (v5 + (1 : Int32)))]) rfl ?_
        refine g_goto (off := (-46)) (tgt := 146) (by decide +kernel) (by decide) ?_
        exact am_G.forget (am_subp [0, 1, 2, 3, 4, 5] rfl) (ih _ _ _ _ _ _ hs hf kont)
      refine p_ifb_eq (off := 10) (tgt := 186) (by decide +kernel) (by decide) (fun c24 => ?_) (fun c24 => ?_)
      · refine g_iconst (z := 0) (v := 0) (by decide +kernel) rfl ?_
        have K1 := K187
        simp only [if_neg c24] at K1
        exact am_G.forget (am_subp [0, 1, 2, 3, 4, 5] rfl) K1
      · refine g_iconst (z := 1) (v := 1) (by decide +kernel) rfl ?_
        refine g_iload (i := 5) (by decide +kernel) rfl ?_
        refine g_ishl (by decide +kernel) ?_
        refine g_goto (off := 4) (tgt := 187) (by decide +kernel) (by decide) ?_
        have K1 := K187
        simp only [if_pos c24] at K1
        exact am_G.forget (am_subp [0, 1, 2, 3, 4, 5] rfl) K1
def f_Mod_laysLets_L14 (p1 : Int32) : Nat → Int32 → Int32 → am_H → Option (Int32 × am_H)
  | 0, _, _, _ => none
  | n + 1, v2, v3, h =>
    (if (2 : Int32) ≤ v3 then
      some (v3, h)
    else
      (am_wr h 144 12 (((2 : Int32) * v2) + v3) (0 : Int32)).bind fun h4 =>
      (am_wr h4 145 12 (((2 : Int32) * v2) + v3) (0 : Int32)).bind fun h5 =>
      (am_wr h5 146 12 (((2 : Int32) * v2) + v3) (0 : Int32)).bind fun h6 =>
      (f_Mod_laysLets_L53 p1 am_fu v2 v3 (((2 : Int32) * v2) + v3) (0 : Int32) h6).bind fun q19 =>
      (f_Mod_laysLets_L146 p1 am_fu v2 v3 (((2 : Int32) * v2) + v3) (0 : Int32) q19.2).bind fun q26 =>
      f_Mod_laysLets_L14 p1 n v2 (v3 + (1 : Int32)) q26.2)
set_option maxRecDepth 100000 in
set_option maxHeartbeats 4000000 in
theorem t_Mod_laysLets_L14 {p1 : Int32}  {Q : Option Value → am_H → Prop} : ∀ (n : Nat) (v2 : Int32) (v3 : Int32) (h : am_H) (q : Int32 × am_H), am_Sh h → f_Mod_laysLets_L14 p1 n v2 v3 h = some q → (am_Sh q.2 → am_G 2 M_Mod_laysLets 0 0 Q 201 [(0, .ref 136), (1, .int p1), (2, .int v2), (3, .int q.1)] [] q.2 0 0) → am_G 2 M_Mod_laysLets 0 0 Q 14 [(0, .ref 136), (1, .int p1), (2, .int v2), (3, .int v3)] [] h 0 0 := by
  intro n
  induction n with
  | zero =>
    intro v2 v3 h q hs hf kont
    rw [f_Mod_laysLets_L14] at hf
    cases hf
  | succ n ih =>
    intro v2 v3 h q hs hf kont
    rw [f_Mod_laysLets_L14] at hf
    refine g_iload_n (i := 3) (by decide +kernel) rfl ?_
    refine g_iconst (z := 2) (v := 2) (by decide +kernel) rfl ?_
    refine x_icmp_ge (off := 185) (tgt := 201) hf (by decide +kernel) (by decide) (fun c3 hf => ?_) (fun c3 hf => ?_)
    · cases hf
      exact am_G.forget (am_subp [0, 1, 2, 3] rfl) (kont hs)
    · refine g_iconst (z := 2) (v := 2) (by decide +kernel) rfl ?_
      refine g_iload_n (i := 2) (by decide +kernel) rfl ?_
      refine g_imul (by decide +kernel) ?_
      refine g_iload_n (i := 3) (by decide +kernel) rfl ?_
      refine g_iadd (by decide +kernel) ?_
      refine g_istore (i := 4) (by decide +kernel) rfl (by decide) (ls1 := [(0, .ref 136), (1, .int p1), (2, .int v2), (3, .int v3), (4, .int (((2 : Int32) * v2) + v3))]) rfl ?_
      refine g_aload_n (i := 0) (by decide +kernel) rfl ?_
      refine x_getr (hs.k k_136) F_Mod_39 (by decide +kernel) rfl (hs.r r_136_21) ?_
      refine g_iload (i := 4) (by decide +kernel) rfl ?_
      refine g_iconst (z := 0) (v := 0) (by decide +kernel) rfl ?_
      refine x_iast hf hs (hs.k k_144) (by decide +kernel) (fun h4 hf hs => ?_)
      refine g_aload_n (i := 0) (by decide +kernel) rfl ?_
      refine x_getr (hs.k k_136) F_Mod_42 (by decide +kernel) rfl (hs.r r_136_22) ?_
      refine g_iload (i := 4) (by decide +kernel) rfl ?_
      refine g_iconst (z := 0) (v := 0) (by decide +kernel) rfl ?_
      refine x_iast hf hs (hs.k k_145) (by decide +kernel) (fun h5 hf hs => ?_)
      refine g_aload_n (i := 0) (by decide +kernel) rfl ?_
      refine x_getr (hs.k k_136) F_Mod_45 (by decide +kernel) rfl (hs.r r_136_23) ?_
      refine g_iload (i := 4) (by decide +kernel) rfl ?_
      refine g_iconst (z := 0) (v := 0) (by decide +kernel) rfl ?_
      refine x_iast hf hs (hs.k k_146) (by decide +kernel) (fun h6 hf hs => ?_)
      refine g_iconst (z := 0) (v := 0) (by decide +kernel) rfl ?_
      refine g_istore (i := 5) (by decide +kernel) rfl (by decide) (ls1 := [(0, .ref 136), (1, .int p1), (2, .int v2), (3, .int v3), (4, .int (((2 : Int32) * v2) + v3)), (5, .int (0 : Int32))]) rfl ?_
      obtain ⟨q19, hqq19, hf⟩ := Option.bind_eq_some_iff.mp hf
      refine am_G.forget (am_subp [0, 1, 2, 3, 4, 5] rfl) (t_Mod_laysLets_L53  am_fu _ _ _ _ _ q19 hs hqq19 (fun hs => ?_))
      refine g_iconst (z := 0) (v := 0) (by decide +kernel) rfl ?_
      refine g_istore (i := 5) (by decide +kernel) rfl (by decide) (ls1 := [(0, .ref 136), (1, .int p1), (2, .int v2), (3, .int v3), (4, .int (((2 : Int32) * v2) + v3)), (5, .int (0 : Int32))]) rfl ?_
      obtain ⟨q26, hqq26, hf⟩ := Option.bind_eq_some_iff.mp hf
      refine am_G.forget (am_subp [0, 1, 2, 3, 4, 5] rfl) (t_Mod_laysLets_L146  am_fu _ _ _ _ _ q26 hs hqq26 (fun hs => ?_))
      refine g_iinc (i := 3) (z := 1) (v := (v3 + (1 : Int32))) (by decide +kernel) rfl rfl rfl (by decide) (ls1 := [(0, .ref 136), (1, .int p1), (2, .int v2), (3, .int (v3 + (1 : Int32))), (4, .int (((2 : Int32) * v2) + v3)), (5, .int q26.1)]) rfl ?_
      refine g_goto (off := (-184)) (tgt := 14) (by decide +kernel) (by decide) ?_
      exact am_G.forget (am_subp [0, 1, 2, 3] rfl) (ih _ _ _ _ hs hf kont)
def f_Mod_laysLets_L2 (p1 : Int32) : Nat → Int32 → am_H → Option (Int32 × am_H)
  | 0, _, _ => none
  | n + 1, v2, h =>
    (am_rd (h.2.1 137) 3411 (2 : Int32)).bind fun x1 =>
    (if x1 ≤ v2 then
      some (v2, h)
    else
      (f_Mod_laysLets_L14 p1 am_fu v2 (0 : Int32) h).bind fun q27 =>
      f_Mod_laysLets_L2 p1 n (v2 + (1 : Int32)) q27.2)
set_option maxRecDepth 100000 in
set_option maxHeartbeats 4000000 in
theorem t_Mod_laysLets_L2 {p1 : Int32}  {Q : Option Value → am_H → Prop} : ∀ (n : Nat) (v2 : Int32) (h : am_H) (q : Int32 × am_H), am_Sh h → f_Mod_laysLets_L2 p1 n v2 h = some q → (am_Sh q.2 → am_G 2 M_Mod_laysLets 0 0 Q 207 [(0, .ref 136), (1, .int p1), (2, .int q.1)] [] q.2 0 0) → am_G 2 M_Mod_laysLets 0 0 Q 2 [(0, .ref 136), (1, .int p1), (2, .int v2)] [] h 0 0 := by
  intro n
  induction n with
  | zero =>
    intro v2 h q hs hf kont
    rw [f_Mod_laysLets_L2] at hf
    cases hf
  | succ n ih =>
    intro v2 h q hs hf kont
    rw [f_Mod_laysLets_L2] at hf
    refine g_iload_n (i := 2) (by decide +kernel) rfl ?_
    refine g_aload_n (i := 0) (by decide +kernel) rfl ?_
    refine x_getr (hs.k k_136) F_Mod_13 (by decide +kernel) rfl (hs.r r_136_1) ?_
    refine g_iconst (z := 2) (v := 2) (by decide +kernel) rfl ?_
    refine x_iald hf (hs.k k_137) (by decide +kernel) (fun x1 hf => ?_)
    refine x_icmp_ge (off := 198) (tgt := 207) hf (by decide +kernel) (by decide) (fun c2 hf => ?_) (fun c2 hf => ?_)
    · cases hf
      exact am_G.forget (am_subp [0, 1, 2] rfl) (kont hs)
    · refine g_iconst (z := 0) (v := 0) (by decide +kernel) rfl ?_
      refine g_istore_n (i := 3) (by decide +kernel) rfl (by decide) (ls1 := [(0, .ref 136), (1, .int p1), (2, .int v2), (3, .int (0 : Int32))]) rfl ?_
      obtain ⟨q27, hqq27, hf⟩ := Option.bind_eq_some_iff.mp hf
      refine am_G.forget (am_subp [0, 1, 2, 3] rfl) (t_Mod_laysLets_L14  am_fu _ _ _ q27 hs hqq27 (fun hs => ?_))
      refine g_iinc (i := 2) (z := 1) (v := (v2 + (1 : Int32))) (by decide +kernel) rfl rfl rfl (by decide) (ls1 := [(0, .ref 136), (1, .int p1), (2, .int (v2 + (1 : Int32))), (3, .int q27.1)]) rfl ?_
      refine g_goto (off := (-202)) (tgt := 2) (by decide +kernel) (by decide) ?_
      exact am_G.forget (am_subp [0, 1, 2] rfl) (ih _ _ _ hs hf kont)
def f_Mod_laysLets (p1 : Int32) (h : am_H) : Option (am_H) :=
  (f_Mod_laysLets_L2 p1 am_fu (0 : Int32) h).bind fun q28 =>
  some q28.2
set_option maxRecDepth 100000 in
set_option maxHeartbeats 4000000 in
theorem t_Mod_laysLets {p1 : Int32} {h : am_H} (hs : am_Sh h)  {r : am_H} (hf : f_Mod_laysLets p1 h = some r) : am_Ct 2 M_Mod_laysLets [.ref 136, .int p1] h 0 0 (am_qV r) := by
  unfold f_Mod_laysLets at hf
  refine am_Ct.of (by decide) rfl (Nat.le_of_ble_eq_true rfl) (ls := [(0, .ref 136), (1, .int p1)]) rfl ?_
  refine g_iconst (z := 0) (v := 0) (by decide +kernel) rfl ?_
  refine g_istore_n (i := 2) (by decide +kernel) rfl (by decide) (ls1 := [(0, .ref 136), (1, .int p1), (2, .int (0 : Int32))]) rfl ?_
  obtain ⟨q28, hqq28, hf⟩ := Option.bind_eq_some_iff.mp hf
  refine am_G.forget (am_subp [0, 1, 2] rfl) (t_Mod_laysLets_L2  am_fu _ _ q28 hs hqq28 (fun hs => ?_))
  exact x_vret hf hs (by decide +kernel) rfl (Nat.le_refl _) (Nat.le_refl _)
def f_Mod_goesOn (p1 : Int32) (p2 : Int32) (p3 : Int32) (h : am_H) : Option (Int32) :=
  (am_rd (h.2.1 137) 3411 (2 : Int32)).bind fun x1 =>
  (am_md p2 x1).bind fun x2 =>
  (am_rd (h.2.1 144) 12 (((2 : Int32) * x2) + p3)).bind fun x3 =>
  (am_rd (h.2.1 145) 12 (((2 : Int32) * x2) + p3)).bind fun x4 =>
  am_let ((p1 ||| ((p1 &&& x3) <<< ((2 : Int32) &&& 31))) ||| ((p1 &&& x4) >>> ((2 : Int32) &&& 31))) fun y5 =>
  (f_Mod_spanIn p2 h).bind fun q6 =>
  (if q6 = (-1 : Int32) then
    some y5
  else
    (am_rd (h.2.1 146) 12 (((2 : Int32) * x2) + p3)).bind fun x8 =>
    (f_Mod_isIn ((x8).toInt64) q6 h).bind fun q9 =>
    (if q9 = true then
      am_let (((1 : Int32) <<< (((2 : Int32) * q6) &&& 31)) <<< ((1 : Int32) &&& 31)) fun y11 =>
      ((if (p1 &&& y11) = 0 then
          some (if (p1 &&& ((1 : Int32) <<< (((2 : Int32) * q6) &&& 31))) = 0 then y5 else (y5 ||| (y11 ||| (256 : Int32))))
        else
          am_let ((if (p1 &&& ((1 : Int32) <<< (((2 : Int32) * q6) &&& 31))) = 0 then y5 else (y5 ||| (y11 ||| (256 : Int32)))) ||| (((1 : Int32) <<< (((2 : Int32) * q6) &&& 31)) ||| (256 : Int32))) fun y14 =>
          some y14) : Option (Int32)).bind fun m15 =>
      (f_Mod_isIn ((p1).toInt64) (8 : Int32) h).bind fun q16 =>
      (if q16 = true then
        am_let (m15 ||| (((1 : Int32) <<< (((2 : Int32) * q6) &&& 31)) ||| y11)) fun y18 =>
        some y18
      else
        some m15)
    else
      some y5))
set_option maxRecDepth 100000 in
set_option maxHeartbeats 4000000 in
theorem t_Mod_goesOn {p1 : Int32} {p2 : Int32} {p3 : Int32} {h : am_H} (hs : am_Sh h)  {r : Int32} (hf : f_Mod_goesOn p1 p2 p3 h = some r) : am_Ct 1 M_Mod_goesOn [.ref 136, .int p1, .int p2, .int p3] h 0 0 (am_pI h r) := by
  unfold f_Mod_goesOn at hf
  refine am_Ct.of (by decide) rfl (Nat.le_of_ble_eq_true rfl) (ls := [(0, .ref 136), (1, .int p1), (2, .int p2), (3, .int p3)]) rfl ?_
  refine g_iconst (z := 2) (v := 2) (by decide +kernel) rfl ?_
  refine g_iload_n (i := 2) (by decide +kernel) rfl ?_
  refine g_aload_n (i := 0) (by decide +kernel) rfl ?_
  refine x_getr (hs.k k_136) F_Mod_13 (by decide +kernel) rfl (hs.r r_136_1) ?_
  refine g_iconst (z := 2) (v := 2) (by decide +kernel) rfl ?_
  refine x_iald hf (hs.k k_137) (by decide +kernel) (fun x1 hf => ?_)
  refine x_irem hf (by decide +kernel) (fun x2 hf => ?_)
  refine g_imul (by decide +kernel) ?_
  refine g_iload_n (i := 3) (by decide +kernel) rfl ?_
  refine g_iadd (by decide +kernel) ?_
  refine g_istore (i := 4) (by decide +kernel) rfl (by decide) (ls1 := [(0, .ref 136), (1, .int p1), (2, .int p2), (3, .int p3), (4, .int (((2 : Int32) * x2) + p3))]) rfl ?_
  refine g_iload_n (i := 1) (by decide +kernel) rfl ?_
  refine g_iload_n (i := 1) (by decide +kernel) rfl ?_
  refine g_aload_n (i := 0) (by decide +kernel) rfl ?_
  refine x_getr (hs.k k_136) F_Mod_39 (by decide +kernel) rfl (hs.r r_136_21) ?_
  refine g_iload (i := 4) (by decide +kernel) rfl ?_
  refine x_iald hf (hs.k k_144) (by decide +kernel) (fun x3 hf => ?_)
  refine g_iand (by decide +kernel) ?_
  refine g_iconst (z := 2) (v := 2) (by decide +kernel) rfl ?_
  refine g_ishl (by decide +kernel) ?_
  refine g_ior (by decide +kernel) ?_
  refine g_iload_n (i := 1) (by decide +kernel) rfl ?_
  refine g_aload_n (i := 0) (by decide +kernel) rfl ?_
  refine x_getr (hs.k k_136) F_Mod_42 (by decide +kernel) rfl (hs.r r_136_22) ?_
  refine g_iload (i := 4) (by decide +kernel) rfl ?_
  refine x_iald hf (hs.k k_145) (by decide +kernel) (fun x4 hf => ?_)
  refine g_iand (by decide +kernel) ?_
  refine g_iconst (z := 2) (v := 2) (by decide +kernel) rfl ?_
  refine g_ishr (by decide +kernel) ?_
  refine g_ior (by decide +kernel) ?_
  refine x_nmI hf (fun y5 hf => ?_)
  refine g_istore (i := 5) (by decide +kernel) rfl (by decide) (ls1 := [(0, .ref 136), (1, .int p1), (2, .int p2), (3, .int p3), (4, .int (((2 : Int32) * x2) + p3)), (5, .int y5)]) rfl ?_
  refine g_aload_n (i := 0) (by decide +kernel) rfl ?_
  refine g_iload_n (i := 2) (by decide +kernel) rfl ?_
  refine x_callVIp (as := [.int p2]) Vi_Mod_spanIn Vs_Mod_spanIn (hs.k k_136) rfl hf (fun q hq => t_Mod_spanIn hs  hq) Y_Mod_spanIn L_Mod_235 (by decide +kernel) rfl rfl (Nat.le_of_ble_eq_true rfl) (by decide) (Nat.le_refl _) (Nat.le_refl _) (fun q6 hf => ?_)
  refine g_istore (i := 6) (by decide +kernel) rfl (by decide) (ls1 := [(0, .ref 136), (1, .int p1), (2, .int p2), (3, .int p3), (4, .int (((2 : Int32) * x2) + p3)), (5, .int y5), (6, .int q6)]) rfl ?_
  refine g_iload (i := 6) (by decide +kernel) rfl ?_
  refine g_iconst (z := (-1)) (v := (-1)) (by decide +kernel) rfl ?_
  refine x_icmp_eq (off := 19) (tgt := 70) hf (by decide +kernel) (by decide) (fun c7 hf => ?_) (fun c7 hf => ?_)
  · refine g_iload (i := 5) (by decide +kernel) rfl ?_
    exact x_iretp hf (by decide +kernel) rfl (Nat.le_refl _) (Nat.le_refl _)
  · refine g_aload_n (i := 0) (by decide +kernel) rfl ?_
    refine x_getr (hs.k k_136) F_Mod_45 (by decide +kernel) rfl (hs.r r_136_23) ?_
    refine g_iload (i := 4) (by decide +kernel) rfl ?_
    refine x_iald hf (hs.k k_146) (by decide +kernel) (fun x8 hf => ?_)
    refine g_i2l (by decide +kernel) ?_
    refine g_iload (i := 6) (by decide +kernel) rfl ?_
    refine x_callSBp (as := [.long ((x8).toInt64), .int q6]) St_Mod_isIn hf (fun q hq => t_Mod_isIn hs  hq) Y_Mod_isIn L_Mod_260 (by decide +kernel) rfl rfl (Nat.le_of_ble_eq_true rfl) (by decide) (Nat.le_refl _) (Nat.le_refl _) (fun q9 hf => ?_)
    refine x_ifb_ne (off := 6) (tgt := 73) hf (by decide +kernel) (by decide) (fun c10 hf => ?_) (fun c10 hf => ?_)
    · refine g_iconst (z := 1) (v := 1) (by decide +kernel) rfl ?_
      refine g_iconst (z := 2) (v := 2) (by decide +kernel) rfl ?_
      refine g_iload (i := 6) (by decide +kernel) rfl ?_
      refine g_imul (by decide +kernel) ?_
      refine g_ishl (by decide +kernel) ?_
      refine g_istore (i := 7) (by decide +kernel) rfl (by decide) (ls1 := [(0, .ref 136), (1, .int p1), (2, .int p2), (3, .int p3), (4, .int (((2 : Int32) * x2) + p3)), (5, .int y5), (6, .int q6), (7, .int ((1 : Int32) <<< (((2 : Int32) * q6) &&& 31)))]) rfl ?_
      refine g_iload (i := 7) (by decide +kernel) rfl ?_
      refine g_iconst (z := 1) (v := 1) (by decide +kernel) rfl ?_
      refine g_ishl (by decide +kernel) ?_
      refine x_nmI hf (fun y11 hf => ?_)
      refine g_istore (i := 8) (by decide +kernel) rfl (by decide) (ls1 := [(0, .ref 136), (1, .int p1), (2, .int p2), (3, .int p3), (4, .int (((2 : Int32) * x2) + p3)), (5, .int y5), (6, .int q6), (7, .int ((1 : Int32) <<< (((2 : Int32) * q6) &&& 31))), (8, .int y11)]) rfl ?_
      refine g_iload_n (i := 1) (by decide +kernel) rfl ?_
      refine g_iload (i := 7) (by decide +kernel) rfl ?_
      refine g_iand (by decide +kernel) ?_
      refine am_cut (J := 105) (ls' := [(0, .ref 136), (1, .int p1), (2, .int p2), (3, .int p3), (4, .int (((2 : Int32) * x2) + p3)), (5, .int (if (p1 &&& ((1 : Int32) <<< (((2 : Int32) * q6) &&& 31))) = 0 then y5 else (y5 ||| (y11 ||| (256 : Int32))))), (6, .int q6), (7, .int ((1 : Int32) <<< (((2 : Int32) * q6) &&& 31))), (8, .int y11)]) (st' := []) ?_ (fun K105 => ?_)
      · refine g_iload_n (i := 1) (by decide +kernel) rfl ?_
        refine g_iload (i := 8) (by decide +kernel) rfl ?_
        refine g_iand (by decide +kernel) ?_
        obtain ⟨m15, hm123, hf⟩ := Option.bind_eq_some_iff.mp hf
        refine am_cut (J := 123) (ls' := [(0, .ref 136), (1, .int p1), (2, .int p2), (3, .int p3), (4, .int (((2 : Int32) * x2) + p3)), (5, .int m15), (6, .int q6), (7, .int ((1 : Int32) <<< (((2 : Int32) * q6) &&& 31))), (8, .int y11)]) (st' := []) ?_ (fun K123 => ?_)
        · refine g_iload_n (i := 1) (by decide +kernel) rfl ?_
          refine g_i2l (by decide +kernel) ?_
          refine g_bipush (z := 8) (v := 8) (by decide +kernel) rfl ?_
          refine x_callSBp (as := [.long ((p1).toInt64), .int (8 : Int32)]) St_Mod_isIn hf (fun q hq => t_Mod_isIn hs  hq) Y_Mod_isIn L_Mod_260 (by decide +kernel) rfl rfl (Nat.le_of_ble_eq_true rfl) (by decide) (Nat.le_refl _) (Nat.le_refl _) (fun q16 hf => ?_)
          refine x_ifb_eq (off := 13) (tgt := 143) hf (by decide +kernel) (by decide) (fun c17 hf => ?_) (fun c17 hf => ?_)
          · refine g_iload (i := 5) (by decide +kernel) rfl ?_
            exact x_iretp hf (by decide +kernel) rfl (Nat.le_refl _) (Nat.le_refl _)
          · refine g_iload (i := 5) (by decide +kernel) rfl ?_
            refine g_iload (i := 7) (by decide +kernel) rfl ?_
            refine g_iload (i := 8) (by decide +kernel) rfl ?_
            refine g_ior (by decide +kernel) ?_
            refine g_ior (by decide +kernel) ?_
            refine x_nmI hf (fun y18 hf => ?_)
            refine g_istore (i := 5) (by decide +kernel) rfl (by decide) (ls1 := [(0, .ref 136), (1, .int p1), (2, .int p2), (3, .int p3), (4, .int (((2 : Int32) * x2) + p3)), (5, .int y18), (6, .int q6), (7, .int ((1 : Int32) <<< (((2 : Int32) * q6) &&& 31))), (8, .int y11)]) rfl ?_
            refine g_iload (i := 5) (by decide +kernel) rfl ?_
            exact x_iretp hf (by decide +kernel) rfl (Nat.le_refl _) (Nat.le_refl _)
        refine x_if_eq (off := 14) (tgt := 123) hm123 (by decide +kernel) (by decide) (fun c13 hm123 => ?_) (fun c13 hm123 => ?_)
        · cases hm123
          exact am_G.forget (am_subp [0, 1, 2, 3, 4, 5, 6, 7, 8] rfl) K123
        · refine g_iload (i := 5) (by decide +kernel) rfl ?_
          refine g_iload (i := 7) (by decide +kernel) rfl ?_
          refine g_sipush (z := 256) (v := 256) (by decide +kernel) rfl ?_
          refine g_ior (by decide +kernel) ?_
          refine g_ior (by decide +kernel) ?_
          refine x_nmI hm123 (fun y14 hm123 => ?_)
          refine g_istore (i := 5) (by decide +kernel) rfl (by decide) (ls1 := [(0, .ref 136), (1, .int p1), (2, .int p2), (3, .int p3), (4, .int (((2 : Int32) * x2) + p3)), (5, .int y14), (6, .int q6), (7, .int ((1 : Int32) <<< (((2 : Int32) * q6) &&& 31))), (8, .int y11)]) rfl ?_
          cases hm123
          exact am_G.forget (am_subp [0, 1, 2, 3, 4, 5, 6, 7, 8] rfl) K123
      refine p_if_eq (off := 14) (tgt := 105) (by decide +kernel) (by decide) (fun c12 => ?_) (fun c12 => ?_)
      · have K1 := K105
        simp only [if_pos c12] at K1
        exact am_G.forget (am_subp [0, 1, 2, 3, 4, 5, 6, 7, 8] rfl) K1
      · refine g_iload (i := 5) (by decide +kernel) rfl ?_
        refine g_iload (i := 8) (by decide +kernel) rfl ?_
        refine g_sipush (z := 256) (v := 256) (by decide +kernel) rfl ?_
        refine g_ior (by decide +kernel) ?_
        refine g_ior (by decide +kernel) ?_
        refine g_istore (i := 5) (by decide +kernel) rfl (by decide) (ls1 := [(0, .ref 136), (1, .int p1), (2, .int p2), (3, .int p3), (4, .int (((2 : Int32) * x2) + p3)), (5, .int (y5 ||| (y11 ||| (256 : Int32)))), (6, .int q6), (7, .int ((1 : Int32) <<< (((2 : Int32) * q6) &&& 31))), (8, .int y11)]) rfl ?_
        have K1 := K105
        simp only [if_neg c12] at K1
        exact am_G.forget (am_subp [0, 1, 2, 3, 4, 5, 6, 7, 8] rfl) K1
    · refine g_iload (i := 5) (by decide +kernel) rfl ?_
      exact x_iretp hf (by decide +kernel) rfl (Nat.le_refl _) (Nat.le_refl _)
def f_Mod_hoursTo_L8 (p1 : Int32) (p2 : Int32) (p3 : Int32) : Nat → Int32 → Int32 → am_H → Option (Int32)
  | 0, _, _, _ => none
  | n + 1, v4, v5, h =>
    (if (60 : Int32) < v5 then
      some (-1 : Int32)
    else
      (f_Mod_isIn ((v4).toInt64) p2 h).bind fun q2 =>
      (if q2 = true then
        some v5
      else
        (am_rd (h.2.1 137) 3411 (26 : Int32)).bind fun x4 =>
        (f_Mod_fogIn (p3 + v5) h).bind fun q5 =>
        (f_Mod_goesOn v4 ((x4 + p3) + v5) q5 h).bind fun q6 =>
        f_Mod_hoursTo_L8 p1 p2 p3 n q6 (v5 + (1 : Int32)) h))
set_option maxRecDepth 100000 in
set_option maxHeartbeats 4000000 in
theorem t_Mod_hoursTo_L8 {p1 : Int32} {p2 : Int32} {p3 : Int32}  : ∀ (n : Nat) (v4 : Int32) (v5 : Int32) (h : am_H) (r : Int32), am_Sh h → f_Mod_hoursTo_L8 p1 p2 p3 n v4 v5 h = some r → am_G 2 M_Mod_hoursTo 0 0 (am_pI h r) 8 [(0, .ref 136), (1, .int p1), (2, .int p2), (3, .int p3), (4, .int v4), (5, .int v5)] [] h 0 0 := by
  intro n
  induction n with
  | zero =>
    intro v4 v5 h r hs hf
    rw [f_Mod_hoursTo_L8] at hf
    cases hf
  | succ n ih =>
    intro v4 v5 h r hs hf
    rw [f_Mod_hoursTo_L8] at hf
    refine g_iload (i := 5) (by decide +kernel) rfl ?_
    refine g_bipush (z := 60) (v := 60) (by decide +kernel) rfl ?_
    refine x_icmp_gt (off := 50) (tgt := 62) hf (by decide +kernel) (by decide) (fun c1 hf => ?_) (fun c1 hf => ?_)
    · refine g_iconst (z := (-1)) (v := (-1)) (by decide +kernel) rfl ?_
      exact x_iretp hf (by decide +kernel) rfl (Nat.le_refl _) (Nat.le_refl _)
    · refine g_iload (i := 4) (by decide +kernel) rfl ?_
      refine g_i2l (by decide +kernel) ?_
      refine g_iload_n (i := 2) (by decide +kernel) rfl ?_
      refine x_callSBp (as := [.long ((v4).toInt64), .int p2]) St_Mod_isIn hf (fun q hq => t_Mod_isIn hs  hq) Y_Mod_isIn L_Mod_260 (by decide +kernel) rfl rfl (Nat.le_of_ble_eq_true rfl) (by decide) (Nat.le_refl _) (Nat.le_refl _) (fun q2 hf => ?_)
      refine x_ifb_eq (off := 6) (tgt := 28) hf (by decide +kernel) (by decide) (fun c3 hf => ?_) (fun c3 hf => ?_)
      · refine g_aload_n (i := 0) (by decide +kernel) rfl ?_
        refine g_iload (i := 4) (by decide +kernel) rfl ?_
        refine g_aload_n (i := 0) (by decide +kernel) rfl ?_
        refine x_getr (hs.k k_136) F_Mod_13 (by decide +kernel) rfl (hs.r r_136_1) ?_
        refine g_bipush (z := 26) (v := 26) (by decide +kernel) rfl ?_
        refine x_iald hf (hs.k k_137) (by decide +kernel) (fun x4 hf => ?_)
        refine g_iload_n (i := 3) (by decide +kernel) rfl ?_
        refine g_iadd (by decide +kernel) ?_
        refine g_iload (i := 5) (by decide +kernel) rfl ?_
        refine g_iadd (by decide +kernel) ?_
        refine g_aload_n (i := 0) (by decide +kernel) rfl ?_
        refine g_iload_n (i := 3) (by decide +kernel) rfl ?_
        refine g_iload (i := 5) (by decide +kernel) rfl ?_
        refine g_iadd (by decide +kernel) ?_
        refine x_callVIp (as := [.int (p3 + v5)]) Vi_Mod_fogIn Vs_Mod_fogIn (hs.k k_136) rfl hf (fun q hq => t_Mod_fogIn hs  hq) Y_Mod_fogIn L_Mod_251 (by decide +kernel) rfl rfl (Nat.le_of_ble_eq_true rfl) (by decide) (Nat.le_refl _) (Nat.le_refl _) (fun q5 hf => ?_)
        refine x_callVIp (as := [.int v4, .int ((x4 + p3) + v5), .int q5]) Vi_Mod_goesOn Vs_Mod_goesOn (hs.k k_136) rfl hf (fun q hq => t_Mod_goesOn hs  hq) Y_Mod_goesOn L_Mod_330 (by decide +kernel) rfl rfl (Nat.le_of_ble_eq_true rfl) (by decide) (Nat.le_refl _) (Nat.le_refl _) (fun q6 hf => ?_)
        refine g_istore (i := 4) (by decide +kernel) rfl (by decide) (ls1 := [(0, .ref 136), (1, .int p1), (2, .int p2), (3, .int p3), (4, .int q6), (5, .int v5)]) rfl ?_
        refine g_iinc (i := 5) (z := 1) (v := (v5 + (1 : Int32))) (by decide +kernel) rfl rfl rfl (by decide) (ls1 := [(0, .ref 136), (1, .int p1), (2, .int p2), (3, .int p3), (4, .int q6), (5, .int (v5 + (1 : Int32)))]) rfl ?_
        refine g_goto (off := (-51)) (tgt := 8) (by decide +kernel) (by decide) ?_
        exact am_G.forget (am_subp [0, 1, 2, 3, 4, 5] rfl) (ih _ _ _ _ hs hf)
      · refine g_iload (i := 5) (by decide +kernel) rfl ?_
        exact x_iretp hf (by decide +kernel) rfl (Nat.le_refl _) (Nat.le_refl _)
def f_Mod_hoursTo (p1 : Int32) (p2 : Int32) (p3 : Int32) (h : am_H) : Option (Int32) :=
  f_Mod_hoursTo_L8 p1 p2 p3 am_fu ((1 : Int32) <<< (p1 &&& 31)) (0 : Int32) h
set_option maxRecDepth 100000 in
set_option maxHeartbeats 4000000 in
theorem t_Mod_hoursTo {p1 : Int32} {p2 : Int32} {p3 : Int32} {h : am_H} (hs : am_Sh h)  {r : Int32} (hf : f_Mod_hoursTo p1 p2 p3 h = some r) : am_Ct 2 M_Mod_hoursTo [.ref 136, .int p1, .int p2, .int p3] h 0 0 (am_pI h r) := by
  unfold f_Mod_hoursTo at hf
  refine am_Ct.of (by decide) rfl (Nat.le_of_ble_eq_true rfl) (ls := [(0, .ref 136), (1, .int p1), (2, .int p2), (3, .int p3)]) rfl ?_
  refine g_iconst (z := 1) (v := 1) (by decide +kernel) rfl ?_
  refine g_iload_n (i := 1) (by decide +kernel) rfl ?_
  refine g_ishl (by decide +kernel) ?_
  refine g_istore (i := 4) (by decide +kernel) rfl (by decide) (ls1 := [(0, .ref 136), (1, .int p1), (2, .int p2), (3, .int p3), (4, .int ((1 : Int32) <<< (p1 &&& 31)))]) rfl ?_
  refine g_iconst (z := 0) (v := 0) (by decide +kernel) rfl ?_
  refine g_istore (i := 5) (by decide +kernel) rfl (by decide) (ls1 := [(0, .ref 136), (1, .int p1), (2, .int p2), (3, .int p3), (4, .int ((1 : Int32) <<< (p1 &&& 31))), (5, .int (0 : Int32))]) rfl ?_
  exact am_G.forget (am_subp [0, 1, 2, 3, 4, 5] rfl) (t_Mod_hoursTo_L8  am_fu _ _ _ _ hs hf)
def f_Mod_soonestOf (p1 : Int32) (p2 : Int32) (h : am_H) : Option (Int32 × am_H) :=
  (f_Mod_laysLets p1 h).bind fun q1 =>
  (am_rd (q1.2.1 137) 3411 ((35 : Int32) + p1)).bind fun x2 =>
  (f_Mod_hoursTo x2 p2 (0 : Int32) q1).bind fun q3 =>
  some (q3, q1)
set_option maxRecDepth 100000 in
set_option maxHeartbeats 4000000 in
theorem t_Mod_soonestOf {p1 : Int32} {p2 : Int32} {h : am_H} (hs : am_Sh h)  {r : Int32 × am_H} (hf : f_Mod_soonestOf p1 p2 h = some r) : am_Ct 3 M_Mod_soonestOf [.ref 136, .int p1, .int p2] h 0 0 (am_qI r) := by
  unfold f_Mod_soonestOf at hf
  refine am_Ct.of (by decide) rfl (Nat.le_of_ble_eq_true rfl) (ls := [(0, .ref 136), (1, .int p1), (2, .int p2)]) rfl ?_
  refine g_aload_n (i := 0) (by decide +kernel) rfl ?_
  refine g_iload_n (i := 1) (by decide +kernel) rfl ?_
  refine x_callVV (as := [.int p1]) Vi_Mod_laysLets Vs_Mod_laysLets (hs.k k_136) rfl hf (fun q hq => t_Mod_laysLets hs  hq) Y_Mod_laysLets L_Mod_333 (by decide +kernel) rfl rfl (Nat.le_of_ble_eq_true rfl) (by decide) (Nat.le_refl _) (Nat.le_refl _) (fun q1 hf hs => ?_)
  refine g_aload_n (i := 0) (by decide +kernel) rfl ?_
  refine g_aload_n (i := 0) (by decide +kernel) rfl ?_
  refine x_getr (hs.k k_136) F_Mod_13 (by decide +kernel) rfl (hs.r r_136_1) ?_
  refine g_bipush (z := 35) (v := 35) (by decide +kernel) rfl ?_
  refine g_iload_n (i := 1) (by decide +kernel) rfl ?_
  refine g_iadd (by decide +kernel) ?_
  refine x_iald hf (hs.k k_137) (by decide +kernel) (fun x2 hf => ?_)
  refine g_iload_n (i := 2) (by decide +kernel) rfl ?_
  refine g_iconst (z := 0) (v := 0) (by decide +kernel) rfl ?_
  refine x_callVIp (as := [.int x2, .int p2, .int (0 : Int32)]) Vi_Mod_hoursTo Vs_Mod_hoursTo (hs.k k_136) rfl hf (fun q hq => t_Mod_hoursTo hs  hq) Y_Mod_hoursTo L_Mod_336 (by decide +kernel) rfl rfl (Nat.le_of_ble_eq_true rfl) (by decide) (Nat.le_refl _) (Nat.le_refl _) (fun q3 hf => ?_)
  exact x_iret hf hs (by decide +kernel) rfl (Nat.le_refl _) (Nat.le_refl _)
def f_Mod_soonest (p1 : Int32) (p2 : Int32) (h : am_H) : Option (Int32 × am_H) :=
  am_let (am_sI h 136 0 (0 : Int32)) fun h1 =>
  (f_Mod_isPerson ((p1).toInt64) h1).bind fun q2 =>
  (if q2 = true then
    (f_Mod_isSpot ((p2).toInt64) h1).bind fun q4 =>
    (if q4 = true then
      (f_Mod_soonestOf p1 p2 h1).bind fun q6 =>
      some (q6.1, q6.2)
    else
      some ((-2 : Int32), h1))
  else
    some ((-2 : Int32), h1))
set_option maxRecDepth 100000 in
set_option maxHeartbeats 4000000 in
theorem t_Mod_soonest {p1 : Int32} {p2 : Int32} {h : am_H} (hs : am_Sh h)  {r : Int32 × am_H} (hf : f_Mod_soonest p1 p2 h = some r) : am_Ct 4 M_Mod_soonest [.ref 136, .int p1, .int p2] h 0 0 (am_qI r) := by
  unfold f_Mod_soonest at hf
  refine am_Ct.of (by decide) rfl (Nat.le_of_ble_eq_true rfl) (ls := [(0, .ref 136), (1, .int p1), (2, .int p2)]) rfl ?_
  refine g_aload_n (i := 0) (by decide +kernel) rfl ?_
  refine g_iconst (z := 0) (v := 0) (by decide +kernel) rfl ?_
  refine x_puti hf hs (hs.k k_136) F_Mod_1 (by decide +kernel) rfl rfl rfl rfl (fun h1 hf hs => ?_)
  refine g_aload_n (i := 0) (by decide +kernel) rfl ?_
  refine g_iload_n (i := 1) (by decide +kernel) rfl ?_
  refine g_i2l (by decide +kernel) ?_
  refine x_callVBp (as := [.long ((p1).toInt64)]) Vi_Mod_isPerson Vs_Mod_isPerson (hs.k k_136) rfl hf (fun q hq => t_Mod_isPerson hs  hq) Y_Mod_isPerson L_Mod_245 (by decide +kernel) rfl rfl (Nat.le_of_ble_eq_true rfl) (by decide) (Nat.le_refl _) (Nat.le_refl _) (fun q2 hf => ?_)
  refine x_ifb_eq (off := 21) (tgt := 32) hf (by decide +kernel) (by decide) (fun c3 hf => ?_) (fun c3 hf => ?_)
  · refine g_bipush (z := (-2)) (v := (-2)) (by decide +kernel) rfl ?_
    exact x_iret hf hs (by decide +kernel) rfl (Nat.le_refl _) (Nat.le_refl _)
  · refine g_aload_n (i := 0) (by decide +kernel) rfl ?_
    refine g_iload_n (i := 2) (by decide +kernel) rfl ?_
    refine g_i2l (by decide +kernel) ?_
    refine x_callVBp (as := [.long ((p2).toInt64)]) Vi_Mod_isSpot Vs_Mod_isSpot (hs.k k_136) rfl hf (fun q hq => t_Mod_isSpot hs  hq) Y_Mod_isSpot L_Mod_339 (by decide +kernel) rfl rfl (Nat.le_of_ble_eq_true rfl) (by decide) (Nat.le_refl _) (Nat.le_refl _) (fun q4 hf => ?_)
    refine x_ifb_eq (off := 12) (tgt := 32) hf (by decide +kernel) (by decide) (fun c5 hf => ?_) (fun c5 hf => ?_)
    · refine g_bipush (z := (-2)) (v := (-2)) (by decide +kernel) rfl ?_
      exact x_iret hf hs (by decide +kernel) rfl (Nat.le_refl _) (Nat.le_refl _)
    · refine g_aload_n (i := 0) (by decide +kernel) rfl ?_
      refine g_iload_n (i := 1) (by decide +kernel) rfl ?_
      refine g_iload_n (i := 2) (by decide +kernel) rfl ?_
      refine x_callVI (as := [.int p1, .int p2]) Vi_Mod_soonestOf Vs_Mod_soonestOf (hs.k k_136) rfl hf (fun q hq => t_Mod_soonestOf hs  hq) Y_Mod_soonestOf L_Mod_342 (by decide +kernel) rfl rfl (Nat.le_of_ble_eq_true rfl) (by decide) (Nat.le_refl _) (Nat.le_refl _) (fun q6 hf hs => ?_)
      refine g_goto (off := 5) (tgt := 34) (by decide +kernel) (by decide) ?_
      exact x_iret hf hs (by decide +kernel) rfl (Nat.le_refl _) (Nat.le_refl _)
