def f_Mod_leads (p1 : Int32) (p2 : Int32) (p3 : Int32) (h : am_H) : Option (Int32) :=
  (if p2 = 0 then
    some p1
  else
    (if p1 = (8 : Int32) then
      (if p2 < (5 : Int32) then
        some (-1 : Int32)
      else
        (if p3 = (-1 : Int32) then
          some (-1 : Int32)
        else
          some ((((2 : Int32) * p3) + p2) - (5 : Int32))))
    else
      (if p2 = (1 : Int32) then
        (am_rd (h.2.1 137) 3411 (1 : Int32)).bind fun x9 =>
        (if (p1 / (2 : Int32)) = (x9 - (1 : Int32)) then
          some (-1 : Int32)
        else
          some (p1 + (2 : Int32)))
      else
        (if p2 = (2 : Int32) then
          (if (2 : Int32) ≤ p1 then
            some (p1 - (2 : Int32))
          else
            some (-1 : Int32))
        else
          (if (4 : Int32) < p2 then
            some (-1 : Int32)
          else
            (if (p1 / (2 : Int32)) = p3 then
              (if p2 = (3 : Int32) then
                some (p1 ^^^ (1 : Int32))
              else
                some (8 : Int32))
            else
              some (-1 : Int32)))))))
set_option maxRecDepth 100000 in
set_option maxHeartbeats 4000000 in
theorem t_Mod_leads {p1 : Int32} {p2 : Int32} {p3 : Int32} {h : am_H} (hs : am_Sh h)  {r : Int32} (hf : f_Mod_leads p1 p2 p3 h = some r) : am_Ct 0 M_Mod_leads [.ref 136, .int p1, .int p2, .int p3] h 0 0 (am_pI h r) := by
  unfold f_Mod_leads at hf
  refine am_Ct.of (by decide) rfl (Nat.le_of_ble_eq_true rfl) (ls := [(0, .ref 136), (1, .int p1), (2, .int p2), (3, .int p3)]) rfl ?_
  refine g_iload_n (i := 2) (by decide +kernel) rfl ?_
  refine x_if_ne (off := 5) (tgt := 6) hf (by decide +kernel) (by decide) (fun c1 hf => ?_) (fun c1 hf => ?_)
  · refine g_iload_n (i := 1) (by decide +kernel) rfl ?_
    refine g_bipush (z := 8) (v := 8) (by decide +kernel) rfl ?_
    refine x_icmp_ne (off := 25) (tgt := 34) hf (by decide +kernel) (by decide) (fun c2 hf => ?_) (fun c2 hf => ?_)
    · refine g_iload_n (i := 2) (by decide +kernel) rfl ?_
      refine g_iconst (z := 1) (v := 1) (by decide +kernel) rfl ?_
      refine x_icmp_ne (off := 25) (tgt := 61) hf (by decide +kernel) (by decide) (fun c3 hf => ?_) (fun c3 hf => ?_)
      · refine g_iload_n (i := 2) (by decide +kernel) rfl ?_
        refine g_iconst (z := 2) (v := 2) (by decide +kernel) rfl ?_
        refine x_icmp_ne (off := 16) (tgt := 79) hf (by decide +kernel) (by decide) (fun c4 hf => ?_) (fun c4 hf => ?_)
        · refine g_iload_n (i := 2) (by decide +kernel) rfl ?_
          refine g_iconst (z := 4) (v := 4) (by decide +kernel) rfl ?_
          refine x_icmp_gt (off := 10) (tgt := 91) hf (by decide +kernel) (by decide) (fun c5 hf => ?_) (fun c5 hf => ?_)
          · refine g_iconst (z := (-1)) (v := (-1)) (by decide +kernel) rfl ?_
            exact x_iretp hf (by decide +kernel) rfl (Nat.le_refl _) (Nat.le_refl _)
          · refine g_iload_n (i := 1) (by decide +kernel) rfl ?_
            refine g_iconst (z := 2) (v := 2) (by decide +kernel) rfl ?_
            refine g_idiv (by decide +kernel) (by decide) ?_
            refine g_iload_n (i := 3) (by decide +kernel) rfl ?_
            refine x_icmp_eq (off := 5) (tgt := 93) hf (by decide +kernel) (by decide) (fun c6 hf => ?_) (fun c6 hf => ?_)
            · refine g_iload_n (i := 2) (by decide +kernel) rfl ?_
              refine g_iconst (z := 3) (v := 3) (by decide +kernel) rfl ?_
              refine x_icmp_ne (off := 9) (tgt := 104) hf (by decide +kernel) (by decide) (fun c7 hf => ?_) (fun c7 hf => ?_)
              · refine g_bipush (z := 8) (v := 8) (by decide +kernel) rfl ?_
                exact x_iretp hf (by decide +kernel) rfl (Nat.le_refl _) (Nat.le_refl _)
              · refine g_iload_n (i := 1) (by decide +kernel) rfl ?_
                refine g_iconst (z := 1) (v := 1) (by decide +kernel) rfl ?_
                refine g_ixor (by decide +kernel) ?_
                refine g_goto (off := 5) (tgt := 106) (by decide +kernel) (by decide) ?_
                exact x_iretp hf (by decide +kernel) rfl (Nat.le_refl _) (Nat.le_refl _)
            · refine g_iconst (z := (-1)) (v := (-1)) (by decide +kernel) rfl ?_
              exact x_iretp hf (by decide +kernel) rfl (Nat.le_refl _) (Nat.le_refl _)
        · refine g_iload_n (i := 1) (by decide +kernel) rfl ?_
          refine g_iconst (z := 2) (v := 2) (by decide +kernel) rfl ?_
          refine x_icmp_ge (off := 7) (tgt := 75) hf (by decide +kernel) (by decide) (fun c8 hf => ?_) (fun c8 hf => ?_)
          · refine g_iload_n (i := 1) (by decide +kernel) rfl ?_
            refine g_iconst (z := 2) (v := 2) (by decide +kernel) rfl ?_
            refine g_isub (by decide +kernel) ?_
            exact x_iretp hf (by decide +kernel) rfl (Nat.le_refl _) (Nat.le_refl _)
          · refine g_iconst (z := (-1)) (v := (-1)) (by decide +kernel) rfl ?_
            refine g_goto (off := 6) (tgt := 78) (by decide +kernel) (by decide) ?_
            exact x_iretp hf (by decide +kernel) rfl (Nat.le_refl _) (Nat.le_refl _)
      · refine g_iload_n (i := 1) (by decide +kernel) rfl ?_
        refine g_iconst (z := 2) (v := 2) (by decide +kernel) rfl ?_
        refine g_idiv (by decide +kernel) (by decide) ?_
        refine g_aload_n (i := 0) (by decide +kernel) rfl ?_
        refine x_getr (hs.k k_136) F_Mod_13 (by decide +kernel) rfl (hs.r r_136_1) ?_
        refine g_iconst (z := 1) (v := 1) (by decide +kernel) rfl ?_
        refine x_iald hf (hs.k k_137) (by decide +kernel) (fun x9 hf => ?_)
        refine g_iconst (z := 1) (v := 1) (by decide +kernel) rfl ?_
        refine g_isub (by decide +kernel) ?_
        refine x_icmp_ne (off := 7) (tgt := 57) hf (by decide +kernel) (by decide) (fun c10 hf => ?_) (fun c10 hf => ?_)
        · refine g_iload_n (i := 1) (by decide +kernel) rfl ?_
          refine g_iconst (z := 2) (v := 2) (by decide +kernel) rfl ?_
          refine g_iadd (by decide +kernel) ?_
          exact x_iretp hf (by decide +kernel) rfl (Nat.le_refl _) (Nat.le_refl _)
        · refine g_iconst (z := (-1)) (v := (-1)) (by decide +kernel) rfl ?_
          refine g_goto (off := 6) (tgt := 60) (by decide +kernel) (by decide) ?_
          exact x_iretp hf (by decide +kernel) rfl (Nat.le_refl _) (Nat.le_refl _)
    · refine g_iload_n (i := 2) (by decide +kernel) rfl ?_
      refine g_iconst (z := 5) (v := 5) (by decide +kernel) rfl ?_
      refine x_icmp_lt (off := 8) (tgt := 22) hf (by decide +kernel) (by decide) (fun c11 hf => ?_) (fun c11 hf => ?_)
      · refine g_iconst (z := (-1)) (v := (-1)) (by decide +kernel) rfl ?_
        refine g_goto (off := 10) (tgt := 33) (by decide +kernel) (by decide) ?_
        exact x_iretp hf (by decide +kernel) rfl (Nat.le_refl _) (Nat.le_refl _)
      · refine g_iload_n (i := 3) (by decide +kernel) rfl ?_
        refine g_iconst (z := (-1)) (v := (-1)) (by decide +kernel) rfl ?_
        refine x_icmp_ne (off := 7) (tgt := 26) hf (by decide +kernel) (by decide) (fun c12 hf => ?_) (fun c12 hf => ?_)
        · refine g_iconst (z := 2) (v := 2) (by decide +kernel) rfl ?_
          refine g_iload_n (i := 3) (by decide +kernel) rfl ?_
          refine g_imul (by decide +kernel) ?_
          refine g_iload_n (i := 2) (by decide +kernel) rfl ?_
          refine g_iadd (by decide +kernel) ?_
          refine g_iconst (z := 5) (v := 5) (by decide +kernel) rfl ?_
          refine g_isub (by decide +kernel) ?_
          exact x_iretp hf (by decide +kernel) rfl (Nat.le_refl _) (Nat.le_refl _)
        · refine g_iconst (z := (-1)) (v := (-1)) (by decide +kernel) rfl ?_
          refine g_goto (off := 10) (tgt := 33) (by decide +kernel) (by decide) ?_
          exact x_iretp hf (by decide +kernel) rfl (Nat.le_refl _) (Nat.le_refl _)
  · refine g_iload_n (i := 1) (by decide +kernel) rfl ?_
    exact x_iretp hf (by decide +kernel) rfl (Nat.le_refl _) (Nat.le_refl _)
def f_Mod_whyAct (p1 : Int32) (p2 : Int32) (p3 : Int32) (p4 : Int32) (p5 : Int32) (h : am_H) : Option (Int32 × am_H) :=
  (if p3 = 0 then
    some ((0 : Int32), h)
  else
    (f_Mod_spanIn p4 h).bind fun q2 =>
    (f_Mod_leads p2 p3 q2 h).bind fun q3 =>
    (if q3 = (-1 : Int32) then
      some ((2 : Int32), h)
    else
      am_let (if p2 = (8 : Int32) then q2 else (p2 / (2 : Int32))) fun y6 =>
      (am_rd (h.2.1 137) 3411 (2 : Int32)).bind fun x8 =>
      (am_md p4 x8).bind fun x9 =>
      (f_Mod_lets (if (3 : Int32) ≤ p3 then (1 : Int32) else (0 : Int32)) p1 y6 x9 p5 (p2 - p2 / (2 : Int32) * (2 : Int32)) h).bind fun q10 =>
      (if q10.1 = true then
        some ((0 : Int32), q10.2)
      else
        some ((3 : Int32), q10.2))))
set_option maxRecDepth 100000 in
set_option maxHeartbeats 4000000 in
theorem t_Mod_whyAct {p1 : Int32} {p2 : Int32} {p3 : Int32} {p4 : Int32} {p5 : Int32} {h : am_H} (hs : am_Sh h)  {r : Int32 × am_H} (hf : f_Mod_whyAct p1 p2 p3 p4 p5 h = some r) : am_Ct 2 M_Mod_whyAct [.ref 136, .int p1, .int p2, .int p3, .int p4, .int p5] h 0 0 (am_qI r) := by
  unfold f_Mod_whyAct at hf
  refine am_Ct.of (by decide) rfl (Nat.le_of_ble_eq_true rfl) (ls := [(0, .ref 136), (1, .int p1), (2, .int p2), (3, .int p3), (4, .int p4), (5, .int p5)]) rfl ?_
  refine g_iload_n (i := 3) (by decide +kernel) rfl ?_
  refine x_if_ne (off := 5) (tgt := 6) hf (by decide +kernel) (by decide) (fun c1 hf => ?_) (fun c1 hf => ?_)
  · refine g_aload_n (i := 0) (by decide +kernel) rfl ?_
    refine g_iload (i := 4) (by decide +kernel) rfl ?_
    refine x_callVIp (as := [.int p4]) Vi_Mod_spanIn Vs_Mod_spanIn (hs.k k_136) rfl hf (fun q hq => t_Mod_spanIn hs  hq) Y_Mod_spanIn L_Mod_235 (by decide +kernel) rfl rfl (Nat.le_of_ble_eq_true rfl) (by decide) (Nat.le_refl _) (Nat.le_refl _) (fun q2 hf => ?_)
    refine g_istore (i := 6) (by decide +kernel) rfl (by decide) (ls1 := [(0, .ref 136), (1, .int p1), (2, .int p2), (3, .int p3), (4, .int p4), (5, .int p5), (6, .int q2)]) rfl ?_
    refine g_aload_n (i := 0) (by decide +kernel) rfl ?_
    refine g_iload_n (i := 2) (by decide +kernel) rfl ?_
    refine g_iload_n (i := 3) (by decide +kernel) rfl ?_
    refine g_iload (i := 6) (by decide +kernel) rfl ?_
    refine x_callVIp (as := [.int p2, .int p3, .int q2]) Vi_Mod_leads Vs_Mod_leads (hs.k k_136) rfl hf (fun q hq => t_Mod_leads hs  hq) Y_Mod_leads L_Mod_238 (by decide +kernel) rfl rfl (Nat.le_of_ble_eq_true rfl) (by decide) (Nat.le_refl _) (Nat.le_refl _) (fun q3 hf => ?_)
    refine g_iconst (z := (-1)) (v := (-1)) (by decide +kernel) rfl ?_
    refine x_icmp_ne (off := 5) (tgt := 28) hf (by decide +kernel) (by decide) (fun c4 hf => ?_) (fun c4 hf => ?_)
    · refine g_iload_n (i := 2) (by decide +kernel) rfl ?_
      refine g_bipush (z := 8) (v := 8) (by decide +kernel) rfl ?_
      refine am_cut (J := 42) (ls' := [(0, .ref 136), (1, .int p1), (2, .int p2), (3, .int p3), (4, .int p4), (5, .int p5), (6, .int q2)]) (st' := [.int (if p2 = (8 : Int32) then q2 else (p2 / (2 : Int32)))]) ?_ (fun K42 => ?_)
      · refine x_nmI hf (fun y6 hf => ?_)
        refine g_istore (i := 7) (by decide +kernel) rfl (by decide) (ls1 := [(0, .ref 136), (1, .int p1), (2, .int p2), (3, .int p3), (4, .int p4), (5, .int p5), (6, .int q2), (7, .int y6)]) rfl ?_
        refine g_aload_n (i := 0) (by decide +kernel) rfl ?_
        refine g_iload_n (i := 3) (by decide +kernel) rfl ?_
        refine g_iconst (z := 3) (v := 3) (by decide +kernel) rfl ?_
        refine am_cut (J := 55) (ls' := [(0, .ref 136), (1, .int p1), (2, .int p2), (3, .int p3), (4, .int p4), (5, .int p5), (6, .int q2), (7, .int y6)]) (st' := [.int (if (3 : Int32) ≤ p3 then (1 : Int32) else (0 : Int32)), .ref 136]) ?_ (fun K55 => ?_)
        · refine g_iload_n (i := 1) (by decide +kernel) rfl ?_
          refine g_iload (i := 7) (by decide +kernel) rfl ?_
          refine g_iload (i := 4) (by decide +kernel) rfl ?_
          refine g_aload_n (i := 0) (by decide +kernel) rfl ?_
          refine x_getr (hs.k k_136) F_Mod_13 (by decide +kernel) rfl (hs.r r_136_1) ?_
          refine g_iconst (z := 2) (v := 2) (by decide +kernel) rfl ?_
          refine x_iald hf (hs.k k_137) (by decide +kernel) (fun x8 hf => ?_)
          refine x_irem hf (by decide +kernel) (fun x9 hf => ?_)
          refine g_iload (i := 5) (by decide +kernel) rfl ?_
          refine g_iload_n (i := 2) (by decide +kernel) rfl ?_
          refine g_iconst (z := 2) (v := 2) (by decide +kernel) rfl ?_
          refine g_irem (by decide +kernel) (by decide) ?_
          refine x_callVB (as := [.int (if (3 : Int32) ≤ p3 then (1 : Int32) else (0 : Int32)), .int p1, .int y6, .int x9, .int p5, .int (p2 - p2 / (2 : Int32) * (2 : Int32))]) Vi_Mod_lets Vs_Mod_lets (hs.k k_136) rfl hf (fun q hq => t_Mod_lets hs  hq) Y_Mod_lets L_Mod_241 (by decide +kernel) rfl rfl (Nat.le_of_ble_eq_true rfl) (by decide) (Nat.le_refl _) (Nat.le_refl _) (fun q10 hf hs => ?_)
          refine x_ifb_eq (off := 7) (tgt := 82) hf (by decide +kernel) (by decide) (fun c11 hf => ?_) (fun c11 hf => ?_)
          · refine g_iconst (z := 3) (v := 3) (by decide +kernel) rfl ?_
            exact x_iret hf hs (by decide +kernel) rfl (Nat.le_refl _) (Nat.le_refl _)
          · refine g_iconst (z := 0) (v := 0) (by decide +kernel) rfl ?_
            refine g_goto (off := 4) (tgt := 83) (by decide +kernel) (by decide) ?_
            exact x_iret hf hs (by decide +kernel) rfl (Nat.le_refl _) (Nat.le_refl _)
        refine p_icmp_ge (off := 7) (tgt := 54) (by decide +kernel) (by decide) (fun c7 => ?_) (fun c7 => ?_)
        · refine g_iconst (z := 1) (v := 1) (by decide +kernel) rfl ?_
          have K1 := K55
          simp only [if_pos c7] at K1
          exact am_G.forget (am_subp [0, 1, 2, 3, 4, 5, 6, 7] rfl) K1
        · refine g_iconst (z := 0) (v := 0) (by decide +kernel) rfl ?_
          refine g_goto (off := 4) (tgt := 55) (by decide +kernel) (by decide) ?_
          have K1 := K55
          simp only [if_neg c7] at K1
          exact am_G.forget (am_subp [0, 1, 2, 3, 4, 5, 6, 7] rfl) K1
      refine p_icmp_ne (off := 8) (tgt := 39) (by decide +kernel) (by decide) (fun c5 => ?_) (fun c5 => ?_)
      · refine g_iload_n (i := 2) (by decide +kernel) rfl ?_
        refine g_iconst (z := 2) (v := 2) (by decide +kernel) rfl ?_
        refine g_idiv (by decide +kernel) (by decide) ?_
        have K1 := K42
        simp only [if_neg c5] at K1
        exact am_G.forget (am_subp [0, 1, 2, 3, 4, 5, 6] rfl) K1
      · refine g_iload (i := 6) (by decide +kernel) rfl ?_
        refine g_goto (off := 6) (tgt := 42) (by decide +kernel) (by decide) ?_
        have K1 := K42
        simp only [if_pos c5] at K1
        exact am_G.forget (am_subp [0, 1, 2, 3, 4, 5, 6] rfl) K1
    · refine g_iconst (z := 2) (v := 2) (by decide +kernel) rfl ?_
      exact x_iret hf hs (by decide +kernel) rfl (Nat.le_refl _) (Nat.le_refl _)
  · refine g_iconst (z := 0) (v := 0) (by decide +kernel) rfl ?_
    exact x_iret hf hs (by decide +kernel) rfl (Nat.le_refl _) (Nat.le_refl _)
def f_Mod_whyTold (p1 : Int64) (p3 : Int64) (h : am_H) : Option (Int32 × am_H) :=
  (f_Mod_isPerson p1 h).bind fun q1 =>
  (if q1 = true then
    (f_Mod_within p3 (0 : Int64) (6 : Int64) h).bind fun q3 =>
    (if q3 = true then
      (am_rd (h.2.1 137) 3411 ((35 : Int32) + ((p1).toInt32))).bind fun x5 =>
      (am_rd (h.2.1 137) 3411 (26 : Int32)).bind fun x6 =>
      (f_Mod_fogIn (0 : Int32) h).bind fun q7 =>
      (f_Mod_whyAct ((p1).toInt32) x5 ((p3).toInt32) x6 q7 h).bind fun q8 =>
      some (q8.1, q8.2)
    else
      some ((1 : Int32), h))
  else
    some ((1 : Int32), h))
set_option maxRecDepth 100000 in
set_option maxHeartbeats 4000000 in
theorem t_Mod_whyTold {p1 : Int64} {p3 : Int64} {h : am_H} (hs : am_Sh h)  {r : Int32 × am_H} (hf : f_Mod_whyTold p1 p3 h = some r) : am_Ct 3 M_Mod_whyTold [.ref 136, .long p1, .long p3] h 0 0 (am_qI r) := by
  unfold f_Mod_whyTold at hf
  refine am_Ct.of (by decide) rfl (Nat.le_of_ble_eq_true rfl) (ls := [(0, .ref 136), (1, .long p1), (3, .long p3)]) rfl ?_
  refine g_aload_n (i := 0) (by decide +kernel) rfl ?_
  refine g_lload_n (i := 1) (by decide +kernel) rfl ?_
  refine x_callVBp (as := [.long p1]) Vi_Mod_isPerson Vs_Mod_isPerson (hs.k k_136) rfl hf (fun q hq => t_Mod_isPerson hs  hq) Y_Mod_isPerson L_Mod_245 (by decide +kernel) rfl rfl (Nat.le_of_ble_eq_true rfl) (by decide) (Nat.le_refl _) (Nat.le_refl _) (fun q1 hf => ?_)
  refine x_ifb_eq (off := 14) (tgt := 19) hf (by decide +kernel) (by decide) (fun c2 hf => ?_) (fun c2 hf => ?_)
  · refine g_iconst (z := 1) (v := 1) (by decide +kernel) rfl ?_
    exact x_iret hf hs (by decide +kernel) rfl (Nat.le_refl _) (Nat.le_refl _)
  · refine g_lload_n (i := 3) (by decide +kernel) rfl ?_
    refine g_lconst (z := 0) (v := 0) (by decide +kernel) rfl ?_
    refine g_ldc2 (by decide +kernel) C_Mod_249 ?_
    refine x_callSBp (as := [.long p3, .long (0 : Int64), .long (6 : Int64)]) St_Mod_within hf (fun q hq => t_Mod_within hs  hq) Y_Mod_within L_Mod_157 (by decide +kernel) rfl rfl (Nat.le_of_ble_eq_true rfl) (by decide) (Nat.le_refl _) (Nat.le_refl _) (fun q3 hf => ?_)
    refine x_ifb_ne (off := 5) (tgt := 21) hf (by decide +kernel) (by decide) (fun c4 hf => ?_) (fun c4 hf => ?_)
    · refine g_aload_n (i := 0) (by decide +kernel) rfl ?_
      refine g_lload_n (i := 1) (by decide +kernel) rfl ?_
      refine g_l2i (by decide +kernel) ?_
      refine g_aload_n (i := 0) (by decide +kernel) rfl ?_
      refine x_getr (hs.k k_136) F_Mod_13 (by decide +kernel) rfl (hs.r r_136_1) ?_
      refine g_bipush (z := 35) (v := 35) (by decide +kernel) rfl ?_
      refine g_lload_n (i := 1) (by decide +kernel) rfl ?_
      refine g_l2i (by decide +kernel) ?_
      refine g_iadd (by decide +kernel) ?_
      refine x_iald hf (hs.k k_137) (by decide +kernel) (fun x5 hf => ?_)
      refine g_lload_n (i := 3) (by decide +kernel) rfl ?_
      refine g_l2i (by decide +kernel) ?_
      refine g_aload_n (i := 0) (by decide +kernel) rfl ?_
      refine x_getr (hs.k k_136) F_Mod_13 (by decide +kernel) rfl (hs.r r_136_1) ?_
      refine g_bipush (z := 26) (v := 26) (by decide +kernel) rfl ?_
      refine x_iald hf (hs.k k_137) (by decide +kernel) (fun x6 hf => ?_)
      refine g_aload_n (i := 0) (by decide +kernel) rfl ?_
      refine g_iconst (z := 0) (v := 0) (by decide +kernel) rfl ?_
      refine x_callVIp (as := [.int (0 : Int32)]) Vi_Mod_fogIn Vs_Mod_fogIn (hs.k k_136) rfl hf (fun q hq => t_Mod_fogIn hs  hq) Y_Mod_fogIn L_Mod_251 (by decide +kernel) rfl rfl (Nat.le_of_ble_eq_true rfl) (by decide) (Nat.le_refl _) (Nat.le_refl _) (fun q7 hf => ?_)
      refine x_callVI (as := [.int ((p1).toInt32), .int x5, .int ((p3).toInt32), .int x6, .int q7]) Vi_Mod_whyAct Vs_Mod_whyAct (hs.k k_136) rfl hf (fun q hq => t_Mod_whyAct hs  hq) Y_Mod_whyAct L_Mod_254 (by decide +kernel) rfl rfl (Nat.le_of_ble_eq_true rfl) (by decide) (Nat.le_refl _) (Nat.le_refl _) (fun q8 hf hs => ?_)
      exact x_iret hf hs (by decide +kernel) rfl (Nat.le_refl _) (Nat.le_refl _)
    · refine g_iconst (z := 1) (v := 1) (by decide +kernel) rfl ?_
      exact x_iret hf hs (by decide +kernel) rfl (Nat.le_refl _) (Nat.le_refl _)
def f_Mod_span (p1 : Int32) (h : am_H) : Option (Int32 × am_H) :=
  am_let (am_sI h 136 0 (0 : Int32)) fun h1 =>
  (f_Mod_within ((p1).toInt64) (0 : Int64) (999 : Int64) h1).bind fun q2 =>
  (if q2 = true then
    (am_rd (h1.2.1 137) 3411 (26 : Int32)).bind fun x4 =>
    (f_Mod_spanIn (x4 + p1) h1).bind fun q5 =>
    some (q5, h1)
  else
    some ((-3 : Int32), h1))
set_option maxRecDepth 100000 in
set_option maxHeartbeats 4000000 in
theorem t_Mod_span {p1 : Int32} {h : am_H} (hs : am_Sh h)  {r : Int32 × am_H} (hf : f_Mod_span p1 h = some r) : am_Ct 1 M_Mod_span [.ref 136, .int p1] h 0 0 (am_qI r) := by
  unfold f_Mod_span at hf
  refine am_Ct.of (by decide) rfl (Nat.le_of_ble_eq_true rfl) (ls := [(0, .ref 136), (1, .int p1)]) rfl ?_
  refine g_aload_n (i := 0) (by decide +kernel) rfl ?_
  refine g_iconst (z := 0) (v := 0) (by decide +kernel) rfl ?_
  refine x_puti hf hs (hs.k k_136) F_Mod_1 (by decide +kernel) rfl rfl rfl rfl (fun h1 hf hs => ?_)
  refine g_iload_n (i := 1) (by decide +kernel) rfl ?_
  refine g_i2l (by decide +kernel) ?_
  refine g_lconst (z := 0) (v := 0) (by decide +kernel) rfl ?_
  refine g_ldc2 (by decide +kernel) C_Mod_258 ?_
  refine x_callSBp (as := [.long ((p1).toInt64), .long (0 : Int64), .long (999 : Int64)]) St_Mod_within hf (fun q hq => t_Mod_within hs  hq) Y_Mod_within L_Mod_157 (by decide +kernel) rfl rfl (Nat.le_of_ble_eq_true rfl) (by decide) (Nat.le_refl _) (Nat.le_refl _) (fun q2 hf => ?_)
  refine x_ifb_eq (off := 19) (tgt := 33) hf (by decide +kernel) (by decide) (fun c3 hf => ?_) (fun c3 hf => ?_)
  · refine g_bipush (z := (-3)) (v := (-3)) (by decide +kernel) rfl ?_
    exact x_iret hf hs (by decide +kernel) rfl (Nat.le_refl _) (Nat.le_refl _)
  · refine g_aload_n (i := 0) (by decide +kernel) rfl ?_
    refine g_aload_n (i := 0) (by decide +kernel) rfl ?_
    refine x_getr (hs.k k_136) F_Mod_13 (by decide +kernel) rfl (hs.r r_136_1) ?_
    refine g_bipush (z := 26) (v := 26) (by decide +kernel) rfl ?_
    refine x_iald hf (hs.k k_137) (by decide +kernel) (fun x4 hf => ?_)
    refine g_iload_n (i := 1) (by decide +kernel) rfl ?_
    refine g_iadd (by decide +kernel) ?_
    refine x_callVIp (as := [.int (x4 + p1)]) Vi_Mod_spanIn Vs_Mod_spanIn (hs.k k_136) rfl hf (fun q hq => t_Mod_spanIn hs  hq) Y_Mod_spanIn L_Mod_235 (by decide +kernel) rfl rfl (Nat.le_of_ble_eq_true rfl) (by decide) (Nat.le_refl _) (Nat.le_refl _) (fun q5 hf => ?_)
    refine g_goto (off := 5) (tgt := 35) (by decide +kernel) (by decide) ?_
    exact x_iret hf hs (by decide +kernel) rfl (Nat.le_refl _) (Nat.le_refl _)
def f_Mod_person (p1 : Int32) (p2 : Int32) (h : am_H) : Option (Int32 × am_H) :=
  am_let (am_sI h 136 0 (0 : Int32)) fun h1 =>
  (f_Mod_isPerson ((p1).toInt64) h1).bind fun q2 =>
  (if q2 = true then
    (if p2 = (0 : Int32) then
      (am_rd (h1.2.1 137) 3411 ((35 : Int32) + p1)).bind fun x4 =>
      some (x4, h1)
    else if p2 = (1 : Int32) then
      (am_rd (h1.2.1 137) 3411 ((11 : Int32) + p1)).bind fun x5 =>
      some (x5, h1)
    else if p2 = (2 : Int32) then
      (am_rd (h1.2.1 137) 3411 ((16 : Int32) + p1)).bind fun x6 =>
      some (x6, h1)
    else if p2 = (3 : Int32) then
      (am_rd (h1.2.1 137) 3411 ((21 : Int32) + p1)).bind fun x7 =>
      some (x7, h1)
    else if p2 = (4 : Int32) then
      (am_rd (h1.2.1 137) 3411 (28 : Int32)).bind fun x8 =>
      (f_Mod_isIn ((x8).toInt64) p1 h1).bind fun q9 =>
      (if q9 = true then
        some ((1 : Int32), h1)
      else
        some ((0 : Int32), h1))
    else if p2 = (5 : Int32) then
      (am_rd (h1.2.1 137) 3411 ((40 : Int32) + p1)).bind fun x11 =>
      some (x11, h1)
    else 
      some ((-2 : Int32), h1))
  else
    some ((-2 : Int32), h1))
set_option maxRecDepth 100000 in
set_option maxHeartbeats 4000000 in
theorem t_Mod_person {p1 : Int32} {p2 : Int32} {h : am_H} (hs : am_Sh h)  {r : Int32 × am_H} (hf : f_Mod_person p1 p2 h = some r) : am_Ct 2 M_Mod_person [.ref 136, .int p1, .int p2] h 0 0 (am_qI r) := by
  unfold f_Mod_person at hf
  refine am_Ct.of (by decide) rfl (Nat.le_of_ble_eq_true rfl) (ls := [(0, .ref 136), (1, .int p1), (2, .int p2)]) rfl ?_
  refine g_aload_n (i := 0) (by decide +kernel) rfl ?_
  refine g_iconst (z := 0) (v := 0) (by decide +kernel) rfl ?_
  refine x_puti hf hs (hs.k k_136) F_Mod_1 (by decide +kernel) rfl rfl rfl rfl (fun h1 hf hs => ?_)
  refine g_aload_n (i := 0) (by decide +kernel) rfl ?_
  refine g_iload_n (i := 1) (by decide +kernel) rfl ?_
  refine g_i2l (by decide +kernel) ?_
  refine x_callVBp (as := [.long ((p1).toInt64)]) Vi_Mod_isPerson Vs_Mod_isPerson (hs.k k_136) rfl hf (fun q hq => t_Mod_isPerson hs  hq) Y_Mod_isPerson L_Mod_245 (by decide +kernel) rfl rfl (Nat.le_of_ble_eq_true rfl) (by decide) (Nat.le_refl _) (Nat.le_refl _) (fun q2 hf => ?_)
  refine x_ifb_ne (off := 6) (tgt := 17) hf (by decide +kernel) (by decide) (fun c3 hf => ?_) (fun c3 hf => ?_)
  · refine g_iload_n (i := 2) (by decide +kernel) rfl ?_
    by_cases e0 : p2 = (0 : Int32)
    · rw [if_pos e0] at hf
      have ex : Int32.toInt p2 = 0 := by rw [e0]; rfl
      refine x_tabIn (dflt := 109) (lo := 0) (hi := 5) (offs := #[38, 48, 58, 68, 78, 99]) (len := 38) (off := 38) (tgt := 56) (by decide +kernel) (by rw [ex]; decide) (by rw [ex]; decide) (by rw [ex]; rfl) (by decide) ?_
      refine g_aload_n (i := 0) (by decide +kernel) rfl ?_
      refine x_getr (hs.k k_136) F_Mod_13 (by decide +kernel) rfl (hs.r r_136_1) ?_
      refine g_bipush (z := 35) (v := 35) (by decide +kernel) rfl ?_
      refine g_iload_n (i := 1) (by decide +kernel) rfl ?_
      refine g_iadd (by decide +kernel) ?_
      refine x_iald hf (hs.k k_137) (by decide +kernel) (fun x4 hf => ?_)
      exact x_iret hf hs (by decide +kernel) rfl (Nat.le_refl _) (Nat.le_refl _)
    · rw [if_neg e0] at hf
      by_cases e1 : p2 = (1 : Int32)
      · rw [if_pos e1] at hf
        have ex : Int32.toInt p2 = 1 := by rw [e1]; rfl
        refine x_tabIn (dflt := 109) (lo := 0) (hi := 5) (offs := #[38, 48, 58, 68, 78, 99]) (len := 38) (off := 48) (tgt := 66) (by decide +kernel) (by rw [ex]; decide) (by rw [ex]; decide) (by rw [ex]; rfl) (by decide) ?_
        refine g_aload_n (i := 0) (by decide +kernel) rfl ?_
        refine x_getr (hs.k k_136) F_Mod_13 (by decide +kernel) rfl (hs.r r_136_1) ?_
        refine g_bipush (z := 11) (v := 11) (by decide +kernel) rfl ?_
        refine g_iload_n (i := 1) (by decide +kernel) rfl ?_
        refine g_iadd (by decide +kernel) ?_
        refine x_iald hf (hs.k k_137) (by decide +kernel) (fun x5 hf => ?_)
        exact x_iret hf hs (by decide +kernel) rfl (Nat.le_refl _) (Nat.le_refl _)
      · rw [if_neg e1] at hf
        by_cases e2 : p2 = (2 : Int32)
        · rw [if_pos e2] at hf
          have ex : Int32.toInt p2 = 2 := by rw [e2]; rfl
          refine x_tabIn (dflt := 109) (lo := 0) (hi := 5) (offs := #[38, 48, 58, 68, 78, 99]) (len := 38) (off := 58) (tgt := 76) (by decide +kernel) (by rw [ex]; decide) (by rw [ex]; decide) (by rw [ex]; rfl) (by decide) ?_
          refine g_aload_n (i := 0) (by decide +kernel) rfl ?_
          refine x_getr (hs.k k_136) F_Mod_13 (by decide +kernel) rfl (hs.r r_136_1) ?_
          refine g_bipush (z := 16) (v := 16) (by decide +kernel) rfl ?_
          refine g_iload_n (i := 1) (by decide +kernel) rfl ?_
          refine g_iadd (by decide +kernel) ?_
          refine x_iald hf (hs.k k_137) (by decide +kernel) (fun x6 hf => ?_)
          exact x_iret hf hs (by decide +kernel) rfl (Nat.le_refl _) (Nat.le_refl _)
        · rw [if_neg e2] at hf
          by_cases e3 : p2 = (3 : Int32)
          · rw [if_pos e3] at hf
            have ex : Int32.toInt p2 = 3 := by rw [e3]; rfl
            refine x_tabIn (dflt := 109) (lo := 0) (hi := 5) (offs := #[38, 48, 58, 68, 78, 99]) (len := 38) (off := 68) (tgt := 86) (by decide +kernel) (by rw [ex]; decide) (by rw [ex]; decide) (by rw [ex]; rfl) (by decide) ?_
            refine g_aload_n (i := 0) (by decide +kernel) rfl ?_
            refine x_getr (hs.k k_136) F_Mod_13 (by decide +kernel) rfl (hs.r r_136_1) ?_
            refine g_bipush (z := 21) (v := 21) (by decide +kernel) rfl ?_
            refine g_iload_n (i := 1) (by decide +kernel) rfl ?_
            refine g_iadd (by decide +kernel) ?_
            refine x_iald hf (hs.k k_137) (by decide +kernel) (fun x7 hf => ?_)
            exact x_iret hf hs (by decide +kernel) rfl (Nat.le_refl _) (Nat.le_refl _)
          · rw [if_neg e3] at hf
            by_cases e4 : p2 = (4 : Int32)
            · rw [if_pos e4] at hf
              have ex : Int32.toInt p2 = 4 := by rw [e4]; rfl
              refine x_tabIn (dflt := 109) (lo := 0) (hi := 5) (offs := #[38, 48, 58, 68, 78, 99]) (len := 38) (off := 78) (tgt := 96) (by decide +kernel) (by rw [ex]; decide) (by rw [ex]; decide) (by rw [ex]; rfl) (by decide) ?_
              refine g_aload_n (i := 0) (by decide +kernel) rfl ?_
              refine x_getr (hs.k k_136) F_Mod_13 (by decide +kernel) rfl (hs.r r_136_1) ?_
              refine g_bipush (z := 28) (v := 28) (by decide +kernel) rfl ?_
              refine x_iald hf (hs.k k_137) (by decide +kernel) (fun x8 hf => ?_)
              refine g_i2l (by decide +kernel) ?_
              refine g_iload_n (i := 1) (by decide +kernel) rfl ?_
              refine x_callSBp (as := [.long ((x8).toInt64), .int p1]) St_Mod_isIn hf (fun q hq => t_Mod_isIn hs  hq) Y_Mod_isIn L_Mod_260 (by decide +kernel) rfl rfl (Nat.le_of_ble_eq_true rfl) (by decide) (Nat.le_refl _) (Nat.le_refl _) (fun q9 hf => ?_)
              refine x_ifb_eq (off := 7) (tgt := 115) hf (by decide +kernel) (by decide) (fun c10 hf => ?_) (fun c10 hf => ?_)
              · refine g_iconst (z := 0) (v := 0) (by decide +kernel) rfl ?_
                exact x_iret hf hs (by decide +kernel) rfl (Nat.le_refl _) (Nat.le_refl _)
              · refine g_iconst (z := 1) (v := 1) (by decide +kernel) rfl ?_
                refine g_goto (off := 4) (tgt := 116) (by decide +kernel) (by decide) ?_
                exact x_iret hf hs (by decide +kernel) rfl (Nat.le_refl _) (Nat.le_refl _)
            · rw [if_neg e4] at hf
              by_cases e5 : p2 = (5 : Int32)
              · rw [if_pos e5] at hf
                have ex : Int32.toInt p2 = 5 := by rw [e5]; rfl
                refine x_tabIn (dflt := 109) (lo := 0) (hi := 5) (offs := #[38, 48, 58, 68, 78, 99]) (len := 38) (off := 99) (tgt := 117) (by decide +kernel) (by rw [ex]; decide) (by rw [ex]; decide) (by rw [ex]; rfl) (by decide) ?_
                refine g_aload_n (i := 0) (by decide +kernel) rfl ?_
                refine x_getr (hs.k k_136) F_Mod_13 (by decide +kernel) rfl (hs.r r_136_1) ?_
                refine g_bipush (z := 40) (v := 40) (by decide +kernel) rfl ?_
                refine g_iload_n (i := 1) (by decide +kernel) rfl ?_
                refine g_iadd (by decide +kernel) ?_
                refine x_iald hf (hs.k k_137) (by decide +kernel) (fun x11 hf => ?_)
                exact x_iret hf hs (by decide +kernel) rfl (Nat.le_refl _) (Nat.le_refl _)
              · rw [if_neg e5] at hf
                refine x_tabOut (dflt := 109) (lo := 0) (hi := 5) (offs := #[38, 48, 58, 68, 78, 99]) (len := 38) (tgt := 127) (by decide +kernel) (am_tabNe ⟨by decide, by decide⟩ (fun z hz => ?_)) (by decide) ?_
                · have hz : z < 6 := hz
                  have : z = 0 ∨ z = 1 ∨ z = 2 ∨ z = 3 ∨ z = 4 ∨ z = 5 := by omega
                  rcases this with rfl | rfl | rfl | rfl | rfl | rfl
                  · exact e0
                  · exact e1
                  · exact e2
                  · exact e3
                  · exact e4
                  · exact e5
                · refine g_bipush (z := (-2)) (v := (-2)) (by decide +kernel) rfl ?_
                  exact x_iret hf hs (by decide +kernel) rfl (Nat.le_refl _) (Nat.le_refl _)
  · refine g_bipush (z := (-2)) (v := (-2)) (by decide +kernel) rfl ?_
    exact x_iret hf hs (by decide +kernel) rfl (Nat.le_refl _) (Nat.le_refl _)
def f_Mod_why (p1 : Int32) (p2 : Int32) (h : am_H) : Option (Int32 × am_H) :=
  am_let (am_sI h 136 0 (0 : Int32)) fun h1 =>
  (f_Mod_whyTold ((p1).toInt64) ((p2).toInt64) h1).bind fun q2 =>
  some (q2.1, q2.2)
set_option maxRecDepth 100000 in
set_option maxHeartbeats 4000000 in
theorem t_Mod_why {p1 : Int32} {p2 : Int32} {h : am_H} (hs : am_Sh h)  {r : Int32 × am_H} (hf : f_Mod_why p1 p2 h = some r) : am_Ct 4 M_Mod_why [.ref 136, .int p1, .int p2] h 0 0 (am_qI r) := by
  unfold f_Mod_why at hf
  refine am_Ct.of (by decide) rfl (Nat.le_of_ble_eq_true rfl) (ls := [(0, .ref 136), (1, .int p1), (2, .int p2)]) rfl ?_
  refine g_aload_n (i := 0) (by decide +kernel) rfl ?_
  refine g_iconst (z := 0) (v := 0) (by decide +kernel) rfl ?_
  refine x_puti hf hs (hs.k k_136) F_Mod_1 (by decide +kernel) rfl rfl rfl rfl (fun h1 hf hs => ?_)
  refine g_aload_n (i := 0) (by decide +kernel) rfl ?_
  refine g_iload_n (i := 1) (by decide +kernel) rfl ?_
  refine g_i2l (by decide +kernel) ?_
  refine g_iload_n (i := 2) (by decide +kernel) rfl ?_
  refine g_i2l (by decide +kernel) ?_
  refine x_callVI (as := [.long ((p1).toInt64), .long ((p2).toInt64)]) Vi_Mod_whyTold Vs_Mod_whyTold (hs.k k_136) rfl hf (fun q hq => t_Mod_whyTold hs  hq) Y_Mod_whyTold L_Mod_264 (by decide +kernel) rfl rfl (Nat.le_of_ble_eq_true rfl) (by decide) (Nat.le_refl _) (Nat.le_refl _) (fun q2 hf hs => ?_)
  exact x_iret hf hs (by decide +kernel) rfl (Nat.le_refl _) (Nat.le_refl _)
def f_Mod_keeps_L2  : Nat → Int32 → am_H → Option (Int32 × am_H)
  | 0, _, _ => none
  | n + 1, v1, h =>
    (if (19 : Int32) ≤ v1 then
      some (v1, h)
    else
      (am_rd (h.2.1 137) 3411 ((26 : Int32) + v1)).bind fun x2 =>
      (am_wr h 143 19 v1 x2).bind fun h3 =>
      f_Mod_keeps_L2  n (v1 + (1 : Int32)) h3)
set_option maxRecDepth 100000 in
set_option maxHeartbeats 4000000 in
theorem t_Mod_keeps_L2   {Q : Option Value → am_H → Prop} : ∀ (n : Nat) (v1 : Int32) (h : am_H) (q : Int32 × am_H), am_Sh h → f_Mod_keeps_L2  n v1 h = some q → (am_Sh q.2 → am_G 0 M_Mod_keeps 0 0 Q 29 [(0, .ref 136), (1, .int q.1)] [] q.2 0 0) → am_G 0 M_Mod_keeps 0 0 Q 2 [(0, .ref 136), (1, .int v1)] [] h 0 0 := by
  intro n
  induction n with
  | zero =>
    intro v1 h q hs hf kont
    rw [f_Mod_keeps_L2] at hf
    cases hf
  | succ n ih =>
    intro v1 h q hs hf kont
    rw [f_Mod_keeps_L2] at hf
    refine g_iload_n (i := 1) (by decide +kernel) rfl ?_
    refine g_bipush (z := 19) (v := 19) (by decide +kernel) rfl ?_
    refine x_icmp_ge (off := 24) (tgt := 29) hf (by decide +kernel) (by decide) (fun c1 hf => ?_) (fun c1 hf => ?_)
    · cases hf
      exact am_G.forget (am_subp [0, 1] rfl) (kont hs)
    · refine g_aload_n (i := 0) (by decide +kernel) rfl ?_
      refine x_getr (hs.k k_136) F_Mod_36 (by decide +kernel) rfl (hs.r r_136_18) ?_
      refine g_iload_n (i := 1) (by decide +kernel) rfl ?_
      refine g_aload_n (i := 0) (by decide +kernel) rfl ?_
      refine x_getr (hs.k k_136) F_Mod_13 (by decide +kernel) rfl (hs.r r_136_1) ?_
      refine g_bipush (z := 26) (v := 26) (by decide +kernel) rfl ?_
      refine g_iload_n (i := 1) (by decide +kernel) rfl ?_
      refine g_iadd (by decide +kernel) ?_
      refine x_iald hf (hs.k k_137) (by decide +kernel) (fun x2 hf => ?_)
      refine x_iast hf hs (hs.k k_143) (by decide +kernel) (fun h3 hf hs => ?_)
      refine g_iinc (i := 1) (z := 1) (v := (v1 + (1 : Int32))) (by decide +kernel) rfl rfl rfl (by decide) (ls1 := [(0, .ref 136), (1, .int (v1 + (1 : Int32)))]) rfl ?_
      refine g_goto (off := (-24)) (tgt := 2) (by decide +kernel) (by decide) ?_
      exact am_G.forget (am_subp [0, 1] rfl) (ih _ _ _ hs hf kont)
def f_Mod_keeps  (h : am_H) : Option (am_H) :=
  (f_Mod_keeps_L2  am_fu (0 : Int32) h).bind fun q4 =>
  some q4.2
set_option maxRecDepth 100000 in
set_option maxHeartbeats 4000000 in
theorem t_Mod_keeps  {h : am_H} (hs : am_Sh h)  {r : am_H} (hf : f_Mod_keeps  h = some r) : am_Ct 0 M_Mod_keeps [.ref 136] h 0 0 (am_qV r) := by
  unfold f_Mod_keeps at hf
  refine am_Ct.of (by decide) rfl (Nat.le_of_ble_eq_true rfl) (ls := [(0, .ref 136)]) rfl ?_
  refine g_iconst (z := 0) (v := 0) (by decide +kernel) rfl ?_
  refine g_istore_n (i := 1) (by decide +kernel) rfl (by decide) (ls1 := [(0, .ref 136), (1, .int (0 : Int32))]) rfl ?_
  obtain ⟨q4, hqq4, hf⟩ := Option.bind_eq_some_iff.mp hf
  refine am_G.forget (am_subp [0, 1] rfl) (t_Mod_keeps_L2  am_fu _ _ q4 hs hqq4 (fun hs => ?_))
  exact x_vret hf hs (by decide +kernel) rfl (Nat.le_refl _) (Nat.le_refl _)
def f_Mod_isAgain_L2  : Nat → Int32 → am_H → Option (Int32 × am_H)
  | 0, _, _ => none
  | n + 1, v1, h =>
    (if (19 : Int32) ≤ v1 then
      some (v1, h)
    else
      (am_rd (h.2.1 143) 19 v1).bind fun x2 =>
      (am_wr h 137 3411 ((26 : Int32) + v1) x2).bind fun h3 =>
      f_Mod_isAgain_L2  n (v1 + (1 : Int32)) h3)
set_option maxRecDepth 100000 in
set_option maxHeartbeats 4000000 in
theorem t_Mod_isAgain_L2   {Q : Option Value → am_H → Prop} : ∀ (n : Nat) (v1 : Int32) (h : am_H) (q : Int32 × am_H), am_Sh h → f_Mod_isAgain_L2  n v1 h = some q → (am_Sh q.2 → am_G 0 M_Mod_isAgain 0 0 Q 29 [(0, .ref 136), (1, .int q.1)] [] q.2 0 0) → am_G 0 M_Mod_isAgain 0 0 Q 2 [(0, .ref 136), (1, .int v1)] [] h 0 0 := by
  intro n
  induction n with
  | zero =>
    intro v1 h q hs hf kont
    rw [f_Mod_isAgain_L2] at hf
    cases hf
  | succ n ih =>
    intro v1 h q hs hf kont
    rw [f_Mod_isAgain_L2] at hf
    refine g_iload_n (i := 1) (by decide +kernel) rfl ?_
    refine g_bipush (z := 19) (v := 19) (by decide +kernel) rfl ?_
    refine x_icmp_ge (off := 24) (tgt := 29) hf (by decide +kernel) (by decide) (fun c1 hf => ?_) (fun c1 hf => ?_)
    · cases hf
      exact am_G.forget (am_subp [0, 1] rfl) (kont hs)
    · refine g_aload_n (i := 0) (by decide +kernel) rfl ?_
      refine x_getr (hs.k k_136) F_Mod_13 (by decide +kernel) rfl (hs.r r_136_1) ?_
      refine g_bipush (z := 26) (v := 26) (by decide +kernel) rfl ?_
      refine g_iload_n (i := 1) (by decide +kernel) rfl ?_
      refine g_iadd (by decide +kernel) ?_
      refine g_aload_n (i := 0) (by decide +kernel) rfl ?_
      refine x_getr (hs.k k_136) F_Mod_36 (by decide +kernel) rfl (hs.r r_136_18) ?_
      refine g_iload_n (i := 1) (by decide +kernel) rfl ?_
      refine x_iald hf (hs.k k_143) (by decide +kernel) (fun x2 hf => ?_)
      refine x_iast hf hs (hs.k k_137) (by decide +kernel) (fun h3 hf hs => ?_)
      refine g_iinc (i := 1) (z := 1) (v := (v1 + (1 : Int32))) (by decide +kernel) rfl rfl rfl (by decide) (ls1 := [(0, .ref 136), (1, .int (v1 + (1 : Int32)))]) rfl ?_
      refine g_goto (off := (-24)) (tgt := 2) (by decide +kernel) (by decide) ?_
      exact am_G.forget (am_subp [0, 1] rfl) (ih _ _ _ hs hf kont)
def f_Mod_isAgain  (h : am_H) : Option (am_H) :=
  (f_Mod_isAgain_L2  am_fu (0 : Int32) h).bind fun q4 =>
  some q4.2
set_option maxRecDepth 100000 in
set_option maxHeartbeats 4000000 in
theorem t_Mod_isAgain  {h : am_H} (hs : am_Sh h)  {r : am_H} (hf : f_Mod_isAgain  h = some r) : am_Ct 0 M_Mod_isAgain [.ref 136] h 0 0 (am_qV r) := by
  unfold f_Mod_isAgain at hf
  refine am_Ct.of (by decide) rfl (Nat.le_of_ble_eq_true rfl) (ls := [(0, .ref 136)]) rfl ?_
  refine g_iconst (z := 0) (v := 0) (by decide +kernel) rfl ?_
  refine g_istore_n (i := 1) (by decide +kernel) rfl (by decide) (ls1 := [(0, .ref 136), (1, .int (0 : Int32))]) rfl ?_
  obtain ⟨q4, hqq4, hf⟩ := Option.bind_eq_some_iff.mp hf
  refine am_G.forget (am_subp [0, 1] rfl) (t_Mod_isAgain_L2  am_fu _ _ q4 hs hqq4 (fun hs => ?_))
  exact x_vret hf hs (by decide +kernel) rfl (Nat.le_refl _) (Nat.le_refl _)
def f_Mod_notes_L14  : Nat → Int32 → am_H → Option (Int32 × am_H)
  | 0, _, _ => none
  | n + 1, v1, h =>
    (if (171 : Int32) ≤ v1 then
      some (v1, h)
    else
      (am_rd (h.2.1 137) 3411 ((65 : Int32) + v1)).bind fun x4 =>
      (am_wr h 137 3411 ((46 : Int32) + v1) x4).bind fun h5 =>
      f_Mod_notes_L14  n (v1 + (1 : Int32)) h5)
set_option maxRecDepth 100000 in
set_option maxHeartbeats 4000000 in
theorem t_Mod_notes_L14   {Q : Option Value → am_H → Prop} : ∀ (n : Nat) (v1 : Int32) (h : am_H) (q : Int32 × am_H), am_Sh h → f_Mod_notes_L14  n v1 h = some q → (am_Sh q.2 → am_G 0 M_Mod_notes 0 0 Q 45 [(0, .ref 136), (1, .int q.1)] [] q.2 0 0) → am_G 0 M_Mod_notes 0 0 Q 14 [(0, .ref 136), (1, .int v1)] [] h 0 0 := by
  intro n
  induction n with
  | zero =>
    intro v1 h q hs hf kont
    rw [f_Mod_notes_L14] at hf
    cases hf
  | succ n ih =>
    intro v1 h q hs hf kont
    rw [f_Mod_notes_L14] at hf
    refine g_iload_n (i := 1) (by decide +kernel) rfl ?_
    refine g_sipush (z := 171) (v := 171) (by decide +kernel) rfl ?_
    refine x_icmp_ge (off := 27) (tgt := 45) hf (by decide +kernel) (by decide) (fun c3 hf => ?_) (fun c3 hf => ?_)
    · cases hf
      exact am_G.forget (am_subp [0, 1] rfl) (kont hs)
    · refine g_aload_n (i := 0) (by decide +kernel) rfl ?_
      refine x_getr (hs.k k_136) F_Mod_13 (by decide +kernel) rfl (hs.r r_136_1) ?_
      refine g_bipush (z := 46) (v := 46) (by decide +kernel) rfl ?_
      refine g_iload_n (i := 1) (by decide +kernel) rfl ?_
      refine g_iadd (by decide +kernel) ?_
      refine g_aload_n (i := 0) (by decide +kernel) rfl ?_
      refine x_getr (hs.k k_136) F_Mod_13 (by decide +kernel) rfl (hs.r r_136_1) ?_
      refine g_bipush (z := 65) (v := 65) (by decide +kernel) rfl ?_
      refine g_iload_n (i := 1) (by decide +kernel) rfl ?_
      refine g_iadd (by decide +kernel) ?_
      refine x_iald hf (hs.k k_137) (by decide +kernel) (fun x4 hf => ?_)
      refine x_iast hf hs (hs.k k_137) (by decide +kernel) (fun h5 hf hs => ?_)
      refine g_iinc (i := 1) (z := 1) (v := (v1 + (1 : Int32))) (by decide +kernel) rfl rfl rfl (by decide) (ls1 := [(0, .ref 136), (1, .int (v1 + (1 : Int32)))]) rfl ?_
      refine g_goto (off := (-28)) (tgt := 14) (by decide +kernel) (by decide) ?_
      exact am_G.forget (am_subp [0, 1] rfl) (ih _ _ _ hs hf kont)
def f_Mod_notes_L58  : Nat → Int32 → am_H → Option (Int32 × am_H)
  | 0, _, _ => none
  | n + 1, v1, h =>
    (if (19 : Int32) ≤ v1 then
      some (v1, h)
    else
      (am_rd (h.2.1 137) 3411 (45 : Int32)).bind fun x11 =>
      (am_rd (h.2.1 143) 19 v1).bind fun x12 =>
      (am_wr h 137 3411 (((46 : Int32) + ((19 : Int32) * x11)) + v1) x12).bind fun h13 =>
      f_Mod_notes_L58  n (v1 + (1 : Int32)) h13)
set_option maxRecDepth 100000 in
set_option maxHeartbeats 4000000 in
theorem t_Mod_notes_L58   {Q : Option Value → am_H → Prop} : ∀ (n : Nat) (v1 : Int32) (h : am_H) (q : Int32 × am_H), am_Sh h → f_Mod_notes_L58  n v1 h = some q → (am_Sh q.2 → am_G 0 M_Mod_notes 0 0 Q 96 [(0, .ref 136), (1, .int q.1)] [] q.2 0 0) → am_G 0 M_Mod_notes 0 0 Q 58 [(0, .ref 136), (1, .int v1)] [] h 0 0 := by
  intro n
  induction n with
  | zero =>
    intro v1 h q hs hf kont
    rw [f_Mod_notes_L58] at hf
    cases hf
  | succ n ih =>
    intro v1 h q hs hf kont
    rw [f_Mod_notes_L58] at hf
    refine g_iload_n (i := 1) (by decide +kernel) rfl ?_
    refine g_bipush (z := 19) (v := 19) (by decide +kernel) rfl ?_
    refine x_icmp_ge (off := 35) (tgt := 96) hf (by decide +kernel) (by decide) (fun c10 hf => ?_) (fun c10 hf => ?_)
    · cases hf
      exact am_G.forget (am_subp [0, 1] rfl) (kont hs)
    · refine g_aload_n (i := 0) (by decide +kernel) rfl ?_
      refine x_getr (hs.k k_136) F_Mod_13 (by decide +kernel) rfl (hs.r r_136_1) ?_
      refine g_bipush (z := 46) (v := 46) (by decide +kernel) rfl ?_
      refine g_bipush (z := 19) (v := 19) (by decide +kernel) rfl ?_
      refine g_aload_n (i := 0) (by decide +kernel) rfl ?_
      refine x_getr (hs.k k_136) F_Mod_13 (by decide +kernel) rfl (hs.r r_136_1) ?_
      refine g_bipush (z := 45) (v := 45) (by decide +kernel) rfl ?_
      refine x_iald hf (hs.k k_137) (by decide +kernel) (fun x11 hf => ?_)
      refine g_imul (by decide +kernel) ?_
      refine g_iadd (by decide +kernel) ?_
      refine g_iload_n (i := 1) (by decide +kernel) rfl ?_
      refine g_iadd (by decide +kernel) ?_
      refine g_aload_n (i := 0) (by decide +kernel) rfl ?_
      refine x_getr (hs.k k_136) F_Mod_36 (by decide +kernel) rfl (hs.r r_136_18) ?_
      refine g_iload_n (i := 1) (by decide +kernel) rfl ?_
      refine x_iald hf (hs.k k_143) (by decide +kernel) (fun x12 hf => ?_)
      refine x_iast hf hs (hs.k k_137) (by decide +kernel) (fun h13 hf hs => ?_)
      refine g_iinc (i := 1) (z := 1) (v := (v1 + (1 : Int32))) (by decide +kernel) rfl rfl rfl (by decide) (ls1 := [(0, .ref 136), (1, .int (v1 + (1 : Int32)))]) rfl ?_
      refine g_goto (off := (-35)) (tgt := 58) (by decide +kernel) (by decide) ?_
      exact am_G.forget (am_subp [0, 1] rfl) (ih _ _ _ hs hf kont)
def f_Mod_notes  (h : am_H) : Option (am_H) :=
  (am_rd (h.2.1 137) 3411 (45 : Int32)).bind fun x1 =>
  ((if x1 = (10 : Int32) then
      (f_Mod_notes_L14  am_fu (0 : Int32) h).bind fun q6 =>
      (am_rd (q6.2.2.1 137) 3411 (45 : Int32)).bind fun x7 =>
      (am_wr q6.2 137 3411 (45 : Int32) (x7 - (1 : Int32))).bind fun h8 =>
      some h8
    else
      some h) : Option (am_H)).bind fun m9 =>
  (f_Mod_notes_L58  am_fu (0 : Int32) m9).bind fun q14 =>
  (am_rd (q14.2.2.1 137) 3411 (45 : Int32)).bind fun x15 =>
  (am_wr q14.2 137 3411 (45 : Int32) (x15 + (1 : Int32))).bind fun h16 =>
  some h16
set_option maxRecDepth 100000 in
set_option maxHeartbeats 4000000 in
theorem t_Mod_notes  {h : am_H} (hs : am_Sh h)  {r : am_H} (hf : f_Mod_notes  h = some r) : am_Ct 0 M_Mod_notes [.ref 136] h 0 0 (am_qV r) := by
  unfold f_Mod_notes at hf
  refine am_Ct.of (by decide) rfl (Nat.le_of_ble_eq_true rfl) (ls := [(0, .ref 136)]) rfl ?_
  refine g_aload_n (i := 0) (by decide +kernel) rfl ?_
  refine x_getr (hs.k k_136) F_Mod_13 (by decide +kernel) rfl (hs.r r_136_1) ?_
  refine g_bipush (z := 45) (v := 45) (by decide +kernel) rfl ?_
  refine x_iald hf (hs.k k_137) (by decide +kernel) (fun x1 hf => ?_)
  refine g_bipush (z := 10) (v := 10) (by decide +kernel) rfl ?_
  obtain ⟨m9, hm56, hf⟩ := Option.bind_eq_some_iff.mp hf
  refine am_cutS (J := 56) (ls' := [(0, .ref 136)]) (st' := []) (h' := m9) (fun hs => ?_) (fun K56 => ?_)
  · refine g_iconst (z := 0) (v := 0) (by decide +kernel) rfl ?_
    refine g_istore_n (i := 1) (by decide +kernel) rfl (by decide) (ls1 := [(0, .ref 136), (1, .int (0 : Int32))]) rfl ?_
    obtain ⟨q14, hqq14, hf⟩ := Option.bind_eq_some_iff.mp hf
    refine am_G.forget (am_subp [0, 1] rfl) (t_Mod_notes_L58  am_fu _ _ q14 hs hqq14 (fun hs => ?_))
    refine g_aload_n (i := 0) (by decide +kernel) rfl ?_
    refine x_getr (hs.k k_136) F_Mod_13 (by decide +kernel) rfl (hs.r r_136_1) ?_
    refine g_bipush (z := 45) (v := 45) (by decide +kernel) rfl ?_
    refine g_dup2_11 (by decide +kernel) rfl rfl ?_
    refine x_iald hf (hs.k k_137) (by decide +kernel) (fun x15 hf => ?_)
    refine g_iconst (z := 1) (v := 1) (by decide +kernel) rfl ?_
    refine g_iadd (by decide +kernel) ?_
    refine x_iast hf hs (hs.k k_137) (by decide +kernel) (fun h16 hf hs => ?_)
    exact x_vret hf hs (by decide +kernel) rfl (Nat.le_refl _) (Nat.le_refl _)
  refine x_icmp_ne (off := 47) (tgt := 56) hm56 (by decide +kernel) (by decide) (fun c2 hm56 => ?_) (fun c2 hm56 => ?_)
  · cases hm56
    exact am_G.forget (am_subp [0] rfl) (K56 hs)
  · refine g_iconst (z := 0) (v := 0) (by decide +kernel) rfl ?_
    refine g_istore_n (i := 1) (by decide +kernel) rfl (by decide) (ls1 := [(0, .ref 136), (1, .int (0 : Int32))]) rfl ?_
    obtain ⟨q6, hqq6, hm56⟩ := Option.bind_eq_some_iff.mp hm56
    refine am_G.forget (am_subp [0, 1] rfl) (t_Mod_notes_L14  am_fu _ _ q6 hs hqq6 (fun hs => ?_))
    refine g_aload_n (i := 0) (by decide +kernel) rfl ?_
    refine x_getr (hs.k k_136) F_Mod_13 (by decide +kernel) rfl (hs.r r_136_1) ?_
    refine g_bipush (z := 45) (v := 45) (by decide +kernel) rfl ?_
    refine g_dup2_11 (by decide +kernel) rfl rfl ?_
    refine x_iald hm56 (hs.k k_137) (by decide +kernel) (fun x7 hm56 => ?_)
    refine g_iconst (z := 1) (v := 1) (by decide +kernel) rfl ?_
    refine g_isub (by decide +kernel) ?_
    refine x_iast hm56 hs (hs.k k_137) (by decide +kernel) (fun h8 hm56 hs => ?_)
    cases hm56
    exact am_G.forget (am_subp [0] rfl) (K56 hs)
def f_Mod_goesHour_L2  : Nat → Int32 → am_H → Option (Int32 × am_H)
  | 0, _, _ => none
  | n + 1, v1, h =>
    (am_rd (h.2.1 137) 3411 (3 : Int32)).bind fun x1 =>
    (if x1 ≤ v1 then
      some (v1, h)
    else
      (am_rd (h.2.1 137) 3411 ((40 : Int32) + v1)).bind fun x3 =>
      (f_Mod_whyTold ((v1).toInt64) ((x3).toInt64) h).bind fun q4 =>
      ((if q4.1 = 0 then
          (am_rd (q4.2.2.1 137) 3411 ((35 : Int32) + v1)).bind fun x6 =>
          (am_rd (q4.2.2.1 137) 3411 (26 : Int32)).bind fun x7 =>
          (f_Mod_spanIn x7 q4.2).bind fun q8 =>
          (f_Mod_leads x6 x3 q8 q4.2).bind fun q9 =>
          (am_wr q4.2 137 3411 ((35 : Int32) + v1) q9).bind fun h10 =>
          some h10
        else
          some q4.2) : Option (am_H)).bind fun m11 =>
      (am_wr m11 137 3411 ((40 : Int32) + v1) (0 : Int32)).bind fun h12 =>
      f_Mod_goesHour_L2  n (v1 + (1 : Int32)) h12)
set_option maxRecDepth 100000 in
set_option maxHeartbeats 4000000 in
theorem t_Mod_goesHour_L2   {Q : Option Value → am_H → Prop} : ∀ (n : Nat) (v1 : Int32) (h : am_H) (q : Int32 × am_H), am_Sh h → f_Mod_goesHour_L2  n v1 h = some q → (am_Sh q.2 → am_G 4 M_Mod_goesHour 0 0 Q 83 [(0, .ref 136), (1, .int q.1)] [] q.2 0 0) → am_G 4 M_Mod_goesHour 0 0 Q 2 [(0, .ref 136), (1, .int v1)] [] h 0 0 := by
  intro n
  induction n with
  | zero =>
    intro v1 h q hs hf kont
    rw [f_Mod_goesHour_L2] at hf
    cases hf
  | succ n ih =>
    intro v1 h q hs hf kont
    rw [f_Mod_goesHour_L2] at hf
    refine g_iload_n (i := 1) (by decide +kernel) rfl ?_
    refine g_aload_n (i := 0) (by decide +kernel) rfl ?_
    refine x_getr (hs.k k_136) F_Mod_13 (by decide +kernel) rfl (hs.r r_136_1) ?_
    refine g_iconst (z := 3) (v := 3) (by decide +kernel) rfl ?_
    refine x_iald hf (hs.k k_137) (by decide +kernel) (fun x1 hf => ?_)
    refine x_icmp_ge (off := 74) (tgt := 83) hf (by decide +kernel) (by decide) (fun c2 hf => ?_) (fun c2 hf => ?_)
    · cases hf
      exact am_G.forget (am_subp [0, 1] rfl) (kont hs)
    · refine g_aload_n (i := 0) (by decide +kernel) rfl ?_
      refine x_getr (hs.k k_136) F_Mod_13 (by decide +kernel) rfl (hs.r r_136_1) ?_
      refine g_bipush (z := 40) (v := 40) (by decide +kernel) rfl ?_
      refine g_iload_n (i := 1) (by decide +kernel) rfl ?_
      refine g_iadd (by decide +kernel) ?_
      refine x_iald hf (hs.k k_137) (by decide +kernel) (fun x3 hf => ?_)
      refine g_istore_n (i := 2) (by decide +kernel) rfl (by decide) (ls1 := [(0, .ref 136), (1, .int v1), (2, .int x3)]) rfl ?_
      refine g_aload_n (i := 0) (by decide +kernel) rfl ?_
      refine g_iload_n (i := 1) (by decide +kernel) rfl ?_
      refine g_i2l (by decide +kernel) ?_
      refine g_iload_n (i := 2) (by decide +kernel) rfl ?_
      refine g_i2l (by decide +kernel) ?_
      refine x_callVI (as := [.long ((v1).toInt64), .long ((x3).toInt64)]) Vi_Mod_whyTold Vs_Mod_whyTold (hs.k k_136) rfl hf (fun q hq => t_Mod_whyTold hs  hq) Y_Mod_whyTold L_Mod_264 (by decide +kernel) rfl rfl (Nat.le_of_ble_eq_true rfl) (by decide) (Nat.le_refl _) (Nat.le_refl _) (fun q4 hf hs => ?_)
      obtain ⟨m11, hm67, hf⟩ := Option.bind_eq_some_iff.mp hf
      refine am_cutS (J := 67) (ls' := [(0, .ref 136), (1, .int v1), (2, .int x3)]) (st' := []) (h' := m11) (fun hs => ?_) (fun K67 => ?_)
      · refine g_aload_n (i := 0) (by decide +kernel) rfl ?_
        refine x_getr (hs.k k_136) F_Mod_13 (by decide +kernel) rfl (hs.r r_136_1) ?_
        refine g_bipush (z := 40) (v := 40) (by decide +kernel) rfl ?_
        refine g_iload_n (i := 1) (by decide +kernel) rfl ?_
        refine g_iadd (by decide +kernel) ?_
        refine g_iconst (z := 0) (v := 0) (by decide +kernel) rfl ?_
        refine x_iast hf hs (hs.k k_137) (by decide +kernel) (fun h12 hf hs => ?_)
        refine g_iinc (i := 1) (z := 1) (v := (v1 + (1 : Int32))) (by decide +kernel) rfl rfl rfl (by decide) (ls1 := [(0, .ref 136), (1, .int (v1 + (1 : Int32))), (2, .int x3)]) rfl ?_
        refine g_goto (off := (-78)) (tgt := 2) (by decide +kernel) (by decide) ?_
        exact am_G.forget (am_subp [0, 1] rfl) (ih _ _ _ hs hf kont)
      refine x_if_ne (off := 37) (tgt := 67) hm67 (by decide +kernel) (by decide) (fun c5 hm67 => ?_) (fun c5 hm67 => ?_)
      · cases hm67
        exact am_G.forget (am_subp [0, 1, 2] rfl) (K67 hs)
      · refine g_aload_n (i := 0) (by decide +kernel) rfl ?_
        refine x_getr (hs.k k_136) F_Mod_13 (by decide +kernel) rfl (hs.r r_136_1) ?_
        refine g_bipush (z := 35) (v := 35) (by decide +kernel) rfl ?_
        refine g_iload_n (i := 1) (by decide +kernel) rfl ?_
        refine g_iadd (by decide +kernel) ?_
        refine g_aload_n (i := 0) (by decide +kernel) rfl ?_
        refine g_aload_n (i := 0) (by decide +kernel) rfl ?_
        refine x_getr (hs.k k_136) F_Mod_13 (by decide +kernel) rfl (hs.r r_136_1) ?_
        refine g_bipush (z := 35) (v := 35) (by decide +kernel) rfl ?_
        refine g_iload_n (i := 1) (by decide +kernel) rfl ?_
        refine g_iadd (by decide +kernel) ?_
        refine x_iald hm67 (hs.k k_137) (by decide +kernel) (fun x6 hm67 => ?_)
        refine g_iload_n (i := 2) (by decide +kernel) rfl ?_
        refine g_aload_n (i := 0) (by decide +kernel) rfl ?_
        refine g_aload_n (i := 0) (by decide +kernel) rfl ?_
        refine x_getr (hs.k k_136) F_Mod_13 (by decide +kernel) rfl (hs.r r_136_1) ?_
        refine g_bipush (z := 26) (v := 26) (by decide +kernel) rfl ?_
        refine x_iald hm67 (hs.k k_137) (by decide +kernel) (fun x7 hm67 => ?_)
        refine x_callVIp (as := [.int x7]) Vi_Mod_spanIn Vs_Mod_spanIn (hs.k k_136) rfl hm67 (fun q hq => t_Mod_spanIn hs  hq) Y_Mod_spanIn L_Mod_235 (by decide +kernel) rfl rfl (Nat.le_of_ble_eq_true rfl) (by decide) (Nat.le_refl _) (Nat.le_refl _) (fun q8 hm67 => ?_)
        refine x_callVIp (as := [.int x6, .int x3, .int q8]) Vi_Mod_leads Vs_Mod_leads (hs.k k_136) rfl hm67 (fun q hq => t_Mod_leads hs  hq) Y_Mod_leads L_Mod_238 (by decide +kernel) rfl rfl (Nat.le_of_ble_eq_true rfl) (by decide) (Nat.le_refl _) (Nat.le_refl _) (fun q9 hm67 => ?_)
        refine x_iast hm67 hs (hs.k k_137) (by decide +kernel) (fun h10 hm67 hs => ?_)
        cases hm67
        exact am_G.forget (am_subp [0, 1, 2] rfl) (K67 hs)
def f_Mod_goesHour  (h : am_H) : Option (Int32 × am_H) :=
  (f_Mod_goesHour_L2  am_fu (0 : Int32) h).bind fun q13 =>
  (am_rd (q13.2.2.1 137) 3411 (26 : Int32)).bind fun x14 =>
  (am_wr q13.2 137 3411 (26 : Int32) (x14 + (1 : Int32))).bind fun h15 =>
  (am_rd (h15.2.1 137) 3411 (27 : Int32)).bind fun x16 =>
  ((if x16 ≤ 0 then
      some h15
    else
      (am_rd (h15.2.1 137) 3411 (27 : Int32)).bind fun x18 =>
      (am_wr h15 137 3411 (27 : Int32) (x18 - (1 : Int32))).bind fun h19 =>
      some h19) : Option (am_H)).bind fun m20 =>
  (f_Mod_doesErrands  m20).bind fun q21 =>
  some (q21.1, q21.2)
set_option maxRecDepth 100000 in
set_option maxHeartbeats 4000000 in
theorem t_Mod_goesHour  {h : am_H} (hs : am_Sh h)  {r : Int32 × am_H} (hf : f_Mod_goesHour  h = some r) : am_Ct 4 M_Mod_goesHour [.ref 136] h 0 0 (am_qI r) := by
  unfold f_Mod_goesHour at hf
  refine am_Ct.of (by decide) rfl (Nat.le_of_ble_eq_true rfl) (ls := [(0, .ref 136)]) rfl ?_
  refine g_iconst (z := 0) (v := 0) (by decide +kernel) rfl ?_
  refine g_istore_n (i := 1) (by decide +kernel) rfl (by decide) (ls1 := [(0, .ref 136), (1, .int (0 : Int32))]) rfl ?_
  obtain ⟨q13, hqq13, hf⟩ := Option.bind_eq_some_iff.mp hf
  refine am_G.forget (am_subp [0, 1] rfl) (t_Mod_goesHour_L2  am_fu _ _ q13 hs hqq13 (fun hs => ?_))
  refine g_aload_n (i := 0) (by decide +kernel) rfl ?_
  refine x_getr (hs.k k_136) F_Mod_13 (by decide +kernel) rfl (hs.r r_136_1) ?_
  refine g_bipush (z := 26) (v := 26) (by decide +kernel) rfl ?_
  refine g_dup2_11 (by decide +kernel) rfl rfl ?_
  refine x_iald hf (hs.k k_137) (by decide +kernel) (fun x14 hf => ?_)
  refine g_iconst (z := 1) (v := 1) (by decide +kernel) rfl ?_
  refine g_iadd (by decide +kernel) ?_
  refine x_iast hf hs (hs.k k_137) (by decide +kernel) (fun h15 hf hs => ?_)
  refine g_aload_n (i := 0) (by decide +kernel) rfl ?_
  refine x_getr (hs.k k_136) F_Mod_13 (by decide +kernel) rfl (hs.r r_136_1) ?_
  refine g_bipush (z := 27) (v := 27) (by decide +kernel) rfl ?_
  refine x_iald hf (hs.k k_137) (by decide +kernel) (fun x16 hf => ?_)
  obtain ⟨m20, hm115, hf⟩ := Option.bind_eq_some_iff.mp hf
  refine am_cutS (J := 115) (ls' := [(0, .ref 136), (1, .int q13.1)]) (st' := []) (h' := m20) (fun hs => ?_) (fun K115 => ?_)
  · refine g_aload_n (i := 0) (by decide +kernel) rfl ?_
    refine x_callVI (as := []) Vi_Mod_doesErrands Vs_Mod_doesErrands (hs.k k_136) rfl hf (fun q hq => t_Mod_doesErrands hs  hq) Y_Mod_doesErrands L_Mod_222 (by decide +kernel) rfl rfl (Nat.le_of_ble_eq_true rfl) (by decide) (Nat.le_refl _) (Nat.le_refl _) (fun q21 hf hs => ?_)
    exact x_iret hf hs (by decide +kernel) rfl (Nat.le_refl _) (Nat.le_refl _)
  refine x_if_le (off := 14) (tgt := 115) hm115 (by decide +kernel) (by decide) (fun c17 hm115 => ?_) (fun c17 hm115 => ?_)
  · cases hm115
    exact am_G.forget (am_subp [0, 1] rfl) (K115 hs)
  · refine g_aload_n (i := 0) (by decide +kernel) rfl ?_
    refine x_getr (hs.k k_136) F_Mod_13 (by decide +kernel) rfl (hs.r r_136_1) ?_
    refine g_bipush (z := 27) (v := 27) (by decide +kernel) rfl ?_
    refine g_dup2_11 (by decide +kernel) rfl rfl ?_
    refine x_iald hm115 (hs.k k_137) (by decide +kernel) (fun x18 hm115 => ?_)
    refine g_iconst (z := 1) (v := 1) (by decide +kernel) rfl ?_
    refine g_isub (by decide +kernel) ?_
    refine x_iast hm115 hs (hs.k k_137) (by decide +kernel) (fun h19 hm115 hs => ?_)
    cases hm115
    exact am_G.forget (am_subp [0, 1] rfl) (K115 hs)
def f_Mod_act (p1 : Int32) (p2 : Int32) (h : am_H) : Option (Int32 × am_H) :=
  am_let (am_sI h 136 0 (0 : Int32)) fun h1 =>
  (f_Mod_whyTold ((p1).toInt64) ((p2).toInt64) h1).bind fun q2 =>
  (if q2.1 = 0 then
    (f_Mod_keeps  q2.2).bind fun q4 =>
    (am_wr q4 137 3411 ((40 : Int32) + p1) p2).bind fun h5 =>
    (f_Mod_notes  h5).bind fun q6 =>
    (am_rd (q6.2.1 137) 3411 ((35 : Int32) + p1)).bind fun x7 =>
    (am_rd (q6.2.1 137) 3411 (26 : Int32)).bind fun x8 =>
    (f_Mod_spanIn x8 q6).bind fun q9 =>
    (f_Mod_leads x7 p2 q9 q6).bind fun q10 =>
    some (q10, q6)
  else
    some (((-10 : Int32) - q2.1), q2.2))
set_option maxRecDepth 100000 in
set_option maxHeartbeats 4000000 in
theorem t_Mod_act {p1 : Int32} {p2 : Int32} {h : am_H} (hs : am_Sh h)  {r : Int32 × am_H} (hf : f_Mod_act p1 p2 h = some r) : am_Ct 4 M_Mod_act [.ref 136, .int p1, .int p2] h 0 0 (am_qI r) := by
  unfold f_Mod_act at hf
  refine am_Ct.of (by decide) rfl (Nat.le_of_ble_eq_true rfl) (ls := [(0, .ref 136), (1, .int p1), (2, .int p2)]) rfl ?_
  refine g_aload_n (i := 0) (by decide +kernel) rfl ?_
  refine g_iconst (z := 0) (v := 0) (by decide +kernel) rfl ?_
  refine x_puti hf hs (hs.k k_136) F_Mod_1 (by decide +kernel) rfl rfl rfl rfl (fun h1 hf hs => ?_)
  refine g_aload_n (i := 0) (by decide +kernel) rfl ?_
  refine g_iload_n (i := 1) (by decide +kernel) rfl ?_
  refine g_i2l (by decide +kernel) ?_
  refine g_iload_n (i := 2) (by decide +kernel) rfl ?_
  refine g_i2l (by decide +kernel) ?_
  refine x_callVI (as := [.long ((p1).toInt64), .long ((p2).toInt64)]) Vi_Mod_whyTold Vs_Mod_whyTold (hs.k k_136) rfl hf (fun q hq => t_Mod_whyTold hs  hq) Y_Mod_whyTold L_Mod_264 (by decide +kernel) rfl rfl (Nat.le_of_ble_eq_true rfl) (by decide) (Nat.le_refl _) (Nat.le_refl _) (fun q2 hf hs => ?_)
  refine g_istore_n (i := 3) (by decide +kernel) rfl (by decide) (ls1 := [(0, .ref 136), (1, .int p1), (2, .int p2), (3, .int q2.1)]) rfl ?_
  refine g_iload_n (i := 3) (by decide +kernel) rfl ?_
  refine x_if_eq (off := 8) (tgt := 23) hf (by decide +kernel) (by decide) (fun c3 hf => ?_) (fun c3 hf => ?_)
  · refine g_aload_n (i := 0) (by decide +kernel) rfl ?_
    refine x_callVV (as := []) Vi_Mod_keeps Vs_Mod_keeps (hs.k k_136) rfl hf (fun q hq => t_Mod_keeps hs  hq) Y_Mod_keeps L_Mod_268 (by decide +kernel) rfl rfl (Nat.le_of_ble_eq_true rfl) (by decide) (Nat.le_refl _) (Nat.le_refl _) (fun q4 hf hs => ?_)
    refine g_aload_n (i := 0) (by decide +kernel) rfl ?_
    refine x_getr (hs.k k_136) F_Mod_13 (by decide +kernel) rfl (hs.r r_136_1) ?_
    refine g_bipush (z := 40) (v := 40) (by decide +kernel) rfl ?_
    refine g_iload_n (i := 1) (by decide +kernel) rfl ?_
    refine g_iadd (by decide +kernel) ?_
    refine g_iload_n (i := 2) (by decide +kernel) rfl ?_
    refine x_iast hf hs (hs.k k_137) (by decide +kernel) (fun h5 hf hs => ?_)
    refine g_aload_n (i := 0) (by decide +kernel) rfl ?_
    refine x_callVV (as := []) Vi_Mod_notes Vs_Mod_notes (hs.k k_136) rfl hf (fun q hq => t_Mod_notes hs  hq) Y_Mod_notes L_Mod_271 (by decide +kernel) rfl rfl (Nat.le_of_ble_eq_true rfl) (by decide) (Nat.le_refl _) (Nat.le_refl _) (fun q6 hf hs => ?_)
    refine g_aload_n (i := 0) (by decide +kernel) rfl ?_
    refine g_aload_n (i := 0) (by decide +kernel) rfl ?_
    refine x_getr (hs.k k_136) F_Mod_13 (by decide +kernel) rfl (hs.r r_136_1) ?_
    refine g_bipush (z := 35) (v := 35) (by decide +kernel) rfl ?_
    refine g_iload_n (i := 1) (by decide +kernel) rfl ?_
    refine g_iadd (by decide +kernel) ?_
    refine x_iald hf (hs.k k_137) (by decide +kernel) (fun x7 hf => ?_)
    refine g_iload_n (i := 2) (by decide +kernel) rfl ?_
    refine g_aload_n (i := 0) (by decide +kernel) rfl ?_
    refine g_aload_n (i := 0) (by decide +kernel) rfl ?_
    refine x_getr (hs.k k_136) F_Mod_13 (by decide +kernel) rfl (hs.r r_136_1) ?_
    refine g_bipush (z := 26) (v := 26) (by decide +kernel) rfl ?_
    refine x_iald hf (hs.k k_137) (by decide +kernel) (fun x8 hf => ?_)
    refine x_callVIp (as := [.int x8]) Vi_Mod_spanIn Vs_Mod_spanIn (hs.k k_136) rfl hf (fun q hq => t_Mod_spanIn hs  hq) Y_Mod_spanIn L_Mod_235 (by decide +kernel) rfl rfl (Nat.le_of_ble_eq_true rfl) (by decide) (Nat.le_refl _) (Nat.le_refl _) (fun q9 hf => ?_)
    refine x_callVIp (as := [.int x7, .int p2, .int q9]) Vi_Mod_leads Vs_Mod_leads (hs.k k_136) rfl hf (fun q hq => t_Mod_leads hs  hq) Y_Mod_leads L_Mod_238 (by decide +kernel) rfl rfl (Nat.le_of_ble_eq_true rfl) (by decide) (Nat.le_refl _) (Nat.le_refl _) (fun q10 hf => ?_)
    exact x_iret hf hs (by decide +kernel) rfl (Nat.le_refl _) (Nat.le_refl _)
  · refine g_bipush (z := (-10)) (v := (-10)) (by decide +kernel) rfl ?_
    refine g_iload_n (i := 3) (by decide +kernel) rfl ?_
    refine g_isub (by decide +kernel) ?_
    exact x_iret hf hs (by decide +kernel) rfl (Nat.le_refl _) (Nat.le_refl _)
def f_Mod_tell (p1 : Int32) (p2 : Int32) (h : am_H) : Option (Int32 × am_H) :=
  am_let (am_sI h 136 0 (0 : Int32)) fun h1 =>
  (am_rd (h1.2.1 137) 3411 (2 : Int32)).bind fun x2 =>
  (f_Mod_within ((p1).toInt64) (0 : Int64) (((x2 - (1 : Int32))).toInt64) h1).bind fun q3 =>
  (if q3 = true then
    (am_rd (h1.2.1 137) 3411 (1 : Int32)).bind fun x5 =>
    (f_Mod_within ((p2).toInt64) (-1 : Int64) (((x5 - (1 : Int32))).toInt64) h1).bind fun q6 =>
    (if q6 = true then
      (f_Mod_keeps  h1).bind fun q8 =>
      (am_wr q8 137 3411 ((29 : Int32) + p1) p2).bind fun h9 =>
      (f_Mod_notes  h9).bind fun q10 =>
      (am_rd (q10.2.1 143) 19 ((3 : Int32) + p1)).bind fun x11 =>
      some (x11, q10)
    else
      some ((-2 : Int32), h1))
  else
    some ((-2 : Int32), h1))
set_option maxRecDepth 100000 in
set_option maxHeartbeats 4000000 in
theorem t_Mod_tell {p1 : Int32} {p2 : Int32} {h : am_H} (hs : am_Sh h)  {r : Int32 × am_H} (hf : f_Mod_tell p1 p2 h = some r) : am_Ct 1 M_Mod_tell [.ref 136, .int p1, .int p2] h 0 0 (am_qI r) := by
  unfold f_Mod_tell at hf
  refine am_Ct.of (by decide) rfl (Nat.le_of_ble_eq_true rfl) (ls := [(0, .ref 136), (1, .int p1), (2, .int p2)]) rfl ?_
  refine g_aload_n (i := 0) (by decide +kernel) rfl ?_
  refine g_iconst (z := 0) (v := 0) (by decide +kernel) rfl ?_
  refine x_puti hf hs (hs.k k_136) F_Mod_1 (by decide +kernel) rfl rfl rfl rfl (fun h1 hf hs => ?_)
  refine g_iload_n (i := 1) (by decide +kernel) rfl ?_
  refine g_i2l (by decide +kernel) ?_
  refine g_lconst (z := 0) (v := 0) (by decide +kernel) rfl ?_
  refine g_aload_n (i := 0) (by decide +kernel) rfl ?_
  refine x_getr (hs.k k_136) F_Mod_13 (by decide +kernel) rfl (hs.r r_136_1) ?_
  refine g_iconst (z := 2) (v := 2) (by decide +kernel) rfl ?_
  refine x_iald hf (hs.k k_137) (by decide +kernel) (fun x2 hf => ?_)
  refine g_iconst (z := 1) (v := 1) (by decide +kernel) rfl ?_
  refine g_isub (by decide +kernel) ?_
  refine g_i2l (by decide +kernel) ?_
  refine x_callSBp (as := [.long ((p1).toInt64), .long (0 : Int64), .long (((x2 - (1 : Int32))).toInt64)]) St_Mod_within hf (fun q hq => t_Mod_within hs  hq) Y_Mod_within L_Mod_157 (by decide +kernel) rfl rfl (Nat.le_of_ble_eq_true rfl) (by decide) (Nat.le_refl _) (Nat.le_refl _) (fun q3 hf => ?_)
  refine x_ifb_eq (off := 23) (tgt := 43) hf (by decide +kernel) (by decide) (fun c4 hf => ?_) (fun c4 hf => ?_)
  · refine g_bipush (z := (-2)) (v := (-2)) (by decide +kernel) rfl ?_
    exact x_iret hf hs (by decide +kernel) rfl (Nat.le_refl _) (Nat.le_refl _)
  · refine g_iload_n (i := 2) (by decide +kernel) rfl ?_
    refine g_i2l (by decide +kernel) ?_
    refine g_ldc2 (by decide +kernel) C_Mod_274 ?_
    refine g_aload_n (i := 0) (by decide +kernel) rfl ?_
    refine x_getr (hs.k k_136) F_Mod_13 (by decide +kernel) rfl (hs.r r_136_1) ?_
    refine g_iconst (z := 1) (v := 1) (by decide +kernel) rfl ?_
    refine x_iald hf (hs.k k_137) (by decide +kernel) (fun x5 hf => ?_)
    refine g_iconst (z := 1) (v := 1) (by decide +kernel) rfl ?_
    refine g_isub (by decide +kernel) ?_
    refine g_i2l (by decide +kernel) ?_
    refine x_callSBp (as := [.long ((p2).toInt64), .long (-1 : Int64), .long (((x5 - (1 : Int32))).toInt64)]) St_Mod_within hf (fun q hq => t_Mod_within hs  hq) Y_Mod_within L_Mod_157 (by decide +kernel) rfl rfl (Nat.le_of_ble_eq_true rfl) (by decide) (Nat.le_refl _) (Nat.le_refl _) (fun q6 hf => ?_)
    refine x_ifb_ne (off := 6) (tgt := 46) hf (by decide +kernel) (by decide) (fun c7 hf => ?_) (fun c7 hf => ?_)
    · refine g_aload_n (i := 0) (by decide +kernel) rfl ?_
      refine x_callVV (as := []) Vi_Mod_keeps Vs_Mod_keeps (hs.k k_136) rfl hf (fun q hq => t_Mod_keeps hs  hq) Y_Mod_keeps L_Mod_268 (by decide +kernel) rfl rfl (Nat.le_of_ble_eq_true rfl) (by decide) (Nat.le_refl _) (Nat.le_refl _) (fun q8 hf hs => ?_)
      refine g_aload_n (i := 0) (by decide +kernel) rfl ?_
      refine x_getr (hs.k k_136) F_Mod_13 (by decide +kernel) rfl (hs.r r_136_1) ?_
      refine g_bipush (z := 29) (v := 29) (by decide +kernel) rfl ?_
      refine g_iload_n (i := 1) (by decide +kernel) rfl ?_
      refine g_iadd (by decide +kernel) ?_
      refine g_iload_n (i := 2) (by decide +kernel) rfl ?_
      refine x_iast hf hs (hs.k k_137) (by decide +kernel) (fun h9 hf hs => ?_)
      refine g_aload_n (i := 0) (by decide +kernel) rfl ?_
      refine x_callVV (as := []) Vi_Mod_notes Vs_Mod_notes (hs.k k_136) rfl hf (fun q hq => t_Mod_notes hs  hq) Y_Mod_notes L_Mod_271 (by decide +kernel) rfl rfl (Nat.le_of_ble_eq_true rfl) (by decide) (Nat.le_refl _) (Nat.le_refl _) (fun q10 hf hs => ?_)
      refine g_aload_n (i := 0) (by decide +kernel) rfl ?_
      refine x_getr (hs.k k_136) F_Mod_36 (by decide +kernel) rfl (hs.r r_136_18) ?_
      refine g_iconst (z := 3) (v := 3) (by decide +kernel) rfl ?_
      refine g_iload_n (i := 1) (by decide +kernel) rfl ?_
      refine g_iadd (by decide +kernel) ?_
      refine x_iald hf (hs.k k_143) (by decide +kernel) (fun x11 hf => ?_)
      exact x_iret hf hs (by decide +kernel) rfl (Nat.le_refl _) (Nat.le_refl _)
    · refine g_bipush (z := (-2)) (v := (-2)) (by decide +kernel) rfl ?_
      exact x_iret hf hs (by decide +kernel) rfl (Nat.le_refl _) (Nat.le_refl _)
def f_Mod_fog (p1 : Int32) (h : am_H) : Option (Int32 × am_H) :=
  am_let (am_sI h 136 0 (0 : Int32)) fun h1 =>
  (f_Mod_within ((p1).toInt64) (0 : Int64) (99 : Int64) h1).bind fun q2 =>
  (if q2 = true then
    (f_Mod_keeps  h1).bind fun q4 =>
    (am_wr q4 137 3411 (27 : Int32) p1).bind fun h5 =>
    (f_Mod_notes  h5).bind fun q6 =>
    (am_rd (q6.2.1 143) 19 (1 : Int32)).bind fun x7 =>
    some (x7, q6)
  else
    some ((-3 : Int32), h1))
set_option maxRecDepth 100000 in
set_option maxHeartbeats 4000000 in
theorem t_Mod_fog {p1 : Int32} {h : am_H} (hs : am_Sh h)  {r : Int32 × am_H} (hf : f_Mod_fog p1 h = some r) : am_Ct 1 M_Mod_fog [.ref 136, .int p1] h 0 0 (am_qI r) := by
  unfold f_Mod_fog at hf
  refine am_Ct.of (by decide) rfl (Nat.le_of_ble_eq_true rfl) (ls := [(0, .ref 136), (1, .int p1)]) rfl ?_
  refine g_aload_n (i := 0) (by decide +kernel) rfl ?_
  refine g_iconst (z := 0) (v := 0) (by decide +kernel) rfl ?_
  refine x_puti hf hs (hs.k k_136) F_Mod_1 (by decide +kernel) rfl rfl rfl rfl (fun h1 hf hs => ?_)
  refine g_iload_n (i := 1) (by decide +kernel) rfl ?_
  refine g_i2l (by decide +kernel) ?_
  refine g_lconst (z := 0) (v := 0) (by decide +kernel) rfl ?_
  refine g_ldc2 (by decide +kernel) C_Mod_276 ?_
  refine x_callSBp (as := [.long ((p1).toInt64), .long (0 : Int64), .long (99 : Int64)]) St_Mod_within hf (fun q hq => t_Mod_within hs  hq) Y_Mod_within L_Mod_157 (by decide +kernel) rfl rfl (Nat.le_of_ble_eq_true rfl) (by decide) (Nat.le_refl _) (Nat.le_refl _) (fun q2 hf => ?_)
  refine x_ifb_ne (off := 6) (tgt := 20) hf (by decide +kernel) (by decide) (fun c3 hf => ?_) (fun c3 hf => ?_)
  · refine g_aload_n (i := 0) (by decide +kernel) rfl ?_
    refine x_callVV (as := []) Vi_Mod_keeps Vs_Mod_keeps (hs.k k_136) rfl hf (fun q hq => t_Mod_keeps hs  hq) Y_Mod_keeps L_Mod_268 (by decide +kernel) rfl rfl (Nat.le_of_ble_eq_true rfl) (by decide) (Nat.le_refl _) (Nat.le_refl _) (fun q4 hf hs => ?_)
    refine g_aload_n (i := 0) (by decide +kernel) rfl ?_
    refine x_getr (hs.k k_136) F_Mod_13 (by decide +kernel) rfl (hs.r r_136_1) ?_
    refine g_bipush (z := 27) (v := 27) (by decide +kernel) rfl ?_
    refine g_iload_n (i := 1) (by decide +kernel) rfl ?_
    refine x_iast hf hs (hs.k k_137) (by decide +kernel) (fun h5 hf hs => ?_)
    refine g_aload_n (i := 0) (by decide +kernel) rfl ?_
    refine x_callVV (as := []) Vi_Mod_notes Vs_Mod_notes (hs.k k_136) rfl hf (fun q hq => t_Mod_notes hs  hq) Y_Mod_notes L_Mod_271 (by decide +kernel) rfl rfl (Nat.le_of_ble_eq_true rfl) (by decide) (Nat.le_refl _) (Nat.le_refl _) (fun q6 hf hs => ?_)
    refine g_aload_n (i := 0) (by decide +kernel) rfl ?_
    refine x_getr (hs.k k_136) F_Mod_36 (by decide +kernel) rfl (hs.r r_136_18) ?_
    refine g_iconst (z := 1) (v := 1) (by decide +kernel) rfl ?_
    refine x_iald hf (hs.k k_143) (by decide +kernel) (fun x7 hf => ?_)
    exact x_iret hf hs (by decide +kernel) rfl (Nat.le_refl _) (Nat.le_refl _)
  · refine g_bipush (z := (-3)) (v := (-3)) (by decide +kernel) rfl ?_
    exact x_iret hf hs (by decide +kernel) rfl (Nat.le_refl _) (Nat.le_refl _)
def f_Mod_hours_L28 (p1 : Int32) : Nat → Int32 → Int32 → am_H → Option (Int32 × Int32 × am_H)
  | 0, _, _, _ => none
  | n + 1, v2, v3, h =>
    (if p1 ≤ v3 then
      some (v2, v3, h)
    else
      (f_Mod_goesHour  h).bind fun q6 =>
      f_Mod_hours_L28 p1 n (v2 + q6.1) (v3 + (1 : Int32)) q6.2)
set_option maxRecDepth 100000 in
set_option maxHeartbeats 4000000 in
theorem t_Mod_hours_L28 {p1 : Int32}  {Q : Option Value → am_H → Prop} : ∀ (n : Nat) (v2 : Int32) (v3 : Int32) (h : am_H) (q : Int32 × Int32 × am_H), am_Sh h → f_Mod_hours_L28 p1 n v2 v3 h = some q → (am_Sh q.2.2 → am_G 5 M_Mod_hours 0 0 Q 46 [(0, .ref 136), (1, .int p1), (2, .int q.1), (3, .int q.2.1)] [] q.2.2 0 0) → am_G 5 M_Mod_hours 0 0 Q 28 [(0, .ref 136), (1, .int p1), (2, .int v2), (3, .int v3)] [] h 0 0 := by
  intro n
  induction n with
  | zero =>
    intro v2 v3 h q hs hf kont
    rw [f_Mod_hours_L28] at hf
    cases hf
  | succ n ih =>
    intro v2 v3 h q hs hf kont
    rw [f_Mod_hours_L28] at hf
    refine g_iload_n (i := 3) (by decide +kernel) rfl ?_
    refine g_iload_n (i := 1) (by decide +kernel) rfl ?_
    refine x_icmp_ge (off := 16) (tgt := 46) hf (by decide +kernel) (by decide) (fun c5 hf => ?_) (fun c5 hf => ?_)
    · cases hf
      exact am_G.forget (am_subp [0, 1, 2, 3] rfl) (kont hs)
    · refine g_iload_n (i := 2) (by decide +kernel) rfl ?_
      refine g_aload_n (i := 0) (by decide +kernel) rfl ?_
      refine x_callVI (as := []) Vi_Mod_goesHour Vs_Mod_goesHour (hs.k k_136) rfl hf (fun q hq => t_Mod_goesHour hs  hq) Y_Mod_goesHour L_Mod_280 (by decide +kernel) rfl rfl (Nat.le_of_ble_eq_true rfl) (by decide) (Nat.le_refl _) (Nat.le_refl _) (fun q6 hf hs => ?_)
      refine g_iadd (by decide +kernel) ?_
      refine g_istore_n (i := 2) (by decide +kernel) rfl (by decide) (ls1 := [(0, .ref 136), (1, .int p1), (2, .int (v2 + q6.1)), (3, .int v3)]) rfl ?_
      refine g_iinc (i := 3) (z := 1) (v := (v3 + (1 : Int32))) (by decide +kernel) rfl rfl rfl (by decide) (ls1 := [(0, .ref 136), (1, .int p1), (2, .int (v2 + q6.1)), (3, .int (v3 + (1 : Int32)))]) rfl ?_
      refine g_goto (off := (-15)) (tgt := 28) (by decide +kernel) (by decide) ?_
      exact am_G.forget (am_subp [0, 1, 2, 3] rfl) (ih _ _ _ _ hs hf kont)
def f_Mod_hours (p1 : Int32) (h : am_H) : Option (Int32 × am_H) :=
  am_let (am_sI h 136 0 (0 : Int32)) fun h1 =>
  (f_Mod_within ((p1).toInt64) (1 : Int64) (48 : Int64) h1).bind fun q2 =>
  (if q2 = true then
    (f_Mod_keeps  h1).bind fun q4 =>
    (f_Mod_hours_L28 p1 am_fu (0 : Int32) (0 : Int32) q4).bind fun q7 =>
    (f_Mod_notes  q7.2.2).bind fun q8 =>
    some (q7.1, q8)
  else
    some ((-3 : Int32), h1))
set_option maxRecDepth 100000 in
set_option maxHeartbeats 4000000 in
theorem t_Mod_hours {p1 : Int32} {h : am_H} (hs : am_Sh h)  {r : Int32 × am_H} (hf : f_Mod_hours p1 h = some r) : am_Ct 5 M_Mod_hours [.ref 136, .int p1] h 0 0 (am_qI r) := by
  unfold f_Mod_hours at hf
  refine am_Ct.of (by decide) rfl (Nat.le_of_ble_eq_true rfl) (ls := [(0, .ref 136), (1, .int p1)]) rfl ?_
  refine g_aload_n (i := 0) (by decide +kernel) rfl ?_
  refine g_iconst (z := 0) (v := 0) (by decide +kernel) rfl ?_
  refine x_puti hf hs (hs.k k_136) F_Mod_1 (by decide +kernel) rfl rfl rfl rfl (fun h1 hf hs => ?_)
  refine g_iload_n (i := 1) (by decide +kernel) rfl ?_
  refine g_i2l (by decide +kernel) ?_
  refine g_lconst (z := 1) (v := 1) (by decide +kernel) rfl ?_
  refine g_ldc2 (by decide +kernel) C_Mod_278 ?_
  refine x_callSBp (as := [.long ((p1).toInt64), .long (1 : Int64), .long (48 : Int64)]) St_Mod_within hf (fun q hq => t_Mod_within hs  hq) Y_Mod_within L_Mod_157 (by decide +kernel) rfl rfl (Nat.le_of_ble_eq_true rfl) (by decide) (Nat.le_refl _) (Nat.le_refl _) (fun q2 hf => ?_)
  refine x_ifb_ne (off := 6) (tgt := 20) hf (by decide +kernel) (by decide) (fun c3 hf => ?_) (fun c3 hf => ?_)
  · refine g_aload_n (i := 0) (by decide +kernel) rfl ?_
    refine x_callVV (as := []) Vi_Mod_keeps Vs_Mod_keeps (hs.k k_136) rfl hf (fun q hq => t_Mod_keeps hs  hq) Y_Mod_keeps L_Mod_268 (by decide +kernel) rfl rfl (Nat.le_of_ble_eq_true rfl) (by decide) (Nat.le_refl _) (Nat.le_refl _) (fun q4 hf hs => ?_)
    refine g_iconst (z := 0) (v := 0) (by decide +kernel) rfl ?_
    refine g_istore_n (i := 2) (by decide +kernel) rfl (by decide) (ls1 := [(0, .ref 136), (1, .int p1), (2, .int (0 : Int32))]) rfl ?_
    refine g_iconst (z := 0) (v := 0) (by decide +kernel) rfl ?_
    refine g_istore_n (i := 3) (by decide +kernel) rfl (by decide) (ls1 := [(0, .ref 136), (1, .int p1), (2, .int (0 : Int32)), (3, .int (0 : Int32))]) rfl ?_
    obtain ⟨q7, hqq7, hf⟩ := Option.bind_eq_some_iff.mp hf
    refine am_G.forget (am_subp [0, 1, 2, 3] rfl) (t_Mod_hours_L28  am_fu _ _ _ q7 hs hqq7 (fun hs => ?_))
    refine g_aload_n (i := 0) (by decide +kernel) rfl ?_
    refine x_callVV (as := []) Vi_Mod_notes Vs_Mod_notes (hs.k k_136) rfl hf (fun q hq => t_Mod_notes hs  hq) Y_Mod_notes L_Mod_271 (by decide +kernel) rfl rfl (Nat.le_of_ble_eq_true rfl) (by decide) (Nat.le_refl _) (Nat.le_refl _) (fun q8 hf hs => ?_)
    refine g_iload_n (i := 2) (by decide +kernel) rfl ?_
    exact x_iret hf hs (by decide +kernel) rfl (Nat.le_refl _) (Nat.le_refl _)
  · refine g_bipush (z := (-3)) (v := (-3)) (by decide +kernel) rfl ?_
    exact x_iret hf hs (by decide +kernel) rfl (Nat.le_refl _) (Nat.le_refl _)
def f_Mod_undo_L44 (p1 : Int32) : Nat → Int32 → am_H → Option (Int32 × am_H)
  | 0, _, _ => none
  | n + 1, v2, h =>
    (if (19 : Int32) ≤ v2 then
      some (v2, h)
    else
      (am_rd (h.2.1 137) 3411 (45 : Int32)).bind fun x9 =>
      (am_rd (h.2.1 137) 3411 (((46 : Int32) + ((19 : Int32) * x9)) + v2)).bind fun x10 =>
      (am_wr h 137 3411 ((26 : Int32) + v2) x10).bind fun h11 =>
      f_Mod_undo_L44 p1 n (v2 + (1 : Int32)) h11)
set_option maxRecDepth 100000 in
set_option maxHeartbeats 4000000 in
theorem t_Mod_undo_L44 {p1 : Int32}  {Q : Option Value → am_H → Prop} : ∀ (n : Nat) (v2 : Int32) (h : am_H) (q : Int32 × am_H), am_Sh h → f_Mod_undo_L44 p1 n v2 h = some q → (am_Sh q.2 → am_G 1 M_Mod_undo 0 0 Q 85 [(0, .ref 136), (1, .int p1), (2, .int q.1)] [] q.2 0 0) → am_G 1 M_Mod_undo 0 0 Q 44 [(0, .ref 136), (1, .int p1), (2, .int v2)] [] h 0 0 := by
  intro n
  induction n with
  | zero =>
    intro v2 h q hs hf kont
    rw [f_Mod_undo_L44] at hf
    cases hf
  | succ n ih =>
    intro v2 h q hs hf kont
    rw [f_Mod_undo_L44] at hf
    refine g_iload_n (i := 2) (by decide +kernel) rfl ?_
    refine g_bipush (z := 19) (v := 19) (by decide +kernel) rfl ?_
    refine x_icmp_ge (off := 38) (tgt := 85) hf (by decide +kernel) (by decide) (fun c8 hf => ?_) (fun c8 hf => ?_)
    · cases hf
      exact am_G.forget (am_subp [0, 1, 2] rfl) (kont hs)
    · refine g_aload_n (i := 0) (by decide +kernel) rfl ?_
      refine x_getr (hs.k k_136) F_Mod_13 (by decide +kernel) rfl (hs.r r_136_1) ?_
      refine g_bipush (z := 26) (v := 26) (by decide +kernel) rfl ?_
      refine g_iload_n (i := 2) (by decide +kernel) rfl ?_
      refine g_iadd (by decide +kernel) ?_
      refine g_aload_n (i := 0) (by decide +kernel) rfl ?_
      refine x_getr (hs.k k_136) F_Mod_13 (by decide +kernel) rfl (hs.r r_136_1) ?_
      refine g_bipush (z := 46) (v := 46) (by decide +kernel) rfl ?_
      refine g_bipush (z := 19) (v := 19) (by decide +kernel) rfl ?_
      refine g_aload_n (i := 0) (by decide +kernel) rfl ?_
      refine x_getr (hs.k k_136) F_Mod_13 (by decide +kernel) rfl (hs.r r_136_1) ?_
      refine g_bipush (z := 45) (v := 45) (by decide +kernel) rfl ?_
      refine x_iald hf (hs.k k_137) (by decide +kernel) (fun x9 hf => ?_)
      refine g_imul (by decide +kernel) ?_
      refine g_iadd (by decide +kernel) ?_
      refine g_iload_n (i := 2) (by decide +kernel) rfl ?_
      refine g_iadd (by decide +kernel) ?_
      refine x_iald hf (hs.k k_137) (by decide +kernel) (fun x10 hf => ?_)
      refine x_iast hf hs (hs.k k_137) (by decide +kernel) (fun h11 hf hs => ?_)
      refine g_iinc (i := 2) (z := 1) (v := (v2 + (1 : Int32))) (by decide +kernel) rfl rfl rfl (by decide) (ls1 := [(0, .ref 136), (1, .int p1), (2, .int (v2 + (1 : Int32)))]) rfl ?_
      refine g_goto (off := (-38)) (tgt := 44) (by decide +kernel) (by decide) ?_
      exact am_G.forget (am_subp [0, 1, 2] rfl) (ih _ _ _ hs hf kont)
def f_Mod_undo (p1 : Int32) (h : am_H) : Option (Int32 × am_H) :=
  am_let (am_sI h 136 0 (0 : Int32)) fun h1 =>
  (f_Mod_within ((p1).toInt64) (1 : Int64) (10 : Int64) h1).bind fun q2 =>
  (if q2 = true then
    (am_rd (h1.2.1 137) 3411 (45 : Int32)).bind fun x4 =>
    (if p1 ≤ x4 then
      (am_rd (h1.2.1 137) 3411 (45 : Int32)).bind fun x6 =>
      (am_wr h1 137 3411 (45 : Int32) (x6 - p1)).bind fun h7 =>
      (f_Mod_undo_L44 p1 am_fu (0 : Int32) h7).bind fun q12 =>
      (am_rd (q12.2.2.1 137) 3411 (45 : Int32)).bind fun x13 =>
      some (x13, q12.2)
    else
      some ((-3 : Int32), h1))
  else
    some ((-3 : Int32), h1))
set_option maxRecDepth 100000 in
set_option maxHeartbeats 4000000 in
theorem t_Mod_undo {p1 : Int32} {h : am_H} (hs : am_Sh h)  {r : Int32 × am_H} (hf : f_Mod_undo p1 h = some r) : am_Ct 1 M_Mod_undo [.ref 136, .int p1] h 0 0 (am_qI r) := by
  unfold f_Mod_undo at hf
  refine am_Ct.of (by decide) rfl (Nat.le_of_ble_eq_true rfl) (ls := [(0, .ref 136), (1, .int p1)]) rfl ?_
  refine g_aload_n (i := 0) (by decide +kernel) rfl ?_
  refine g_iconst (z := 0) (v := 0) (by decide +kernel) rfl ?_
  refine x_puti hf hs (hs.k k_136) F_Mod_1 (by decide +kernel) rfl rfl rfl rfl (fun h1 hf hs => ?_)
  refine g_iload_n (i := 1) (by decide +kernel) rfl ?_
  refine g_i2l (by decide +kernel) ?_
  refine g_lconst (z := 1) (v := 1) (by decide +kernel) rfl ?_
  refine g_ldc2 (by decide +kernel) C_Mod_283 ?_
  refine x_callSBp (as := [.long ((p1).toInt64), .long (1 : Int64), .long (10 : Int64)]) St_Mod_within hf (fun q hq => t_Mod_within hs  hq) Y_Mod_within L_Mod_157 (by decide +kernel) rfl rfl (Nat.le_of_ble_eq_true rfl) (by decide) (Nat.le_refl _) (Nat.le_refl _) (fun q2 hf => ?_)
  refine x_ifb_eq (off := 14) (tgt := 28) hf (by decide +kernel) (by decide) (fun c3 hf => ?_) (fun c3 hf => ?_)
  · refine g_bipush (z := (-3)) (v := (-3)) (by decide +kernel) rfl ?_
    exact x_iret hf hs (by decide +kernel) rfl (Nat.le_refl _) (Nat.le_refl _)
  · refine g_iload_n (i := 1) (by decide +kernel) rfl ?_
    refine g_aload_n (i := 0) (by decide +kernel) rfl ?_
    refine x_getr (hs.k k_136) F_Mod_13 (by decide +kernel) rfl (hs.r r_136_1) ?_
    refine g_bipush (z := 45) (v := 45) (by decide +kernel) rfl ?_
    refine x_iald hf (hs.k k_137) (by decide +kernel) (fun x4 hf => ?_)
    refine x_icmp_le (off := 6) (tgt := 31) hf (by decide +kernel) (by decide) (fun c5 hf => ?_) (fun c5 hf => ?_)
    · refine g_aload_n (i := 0) (by decide +kernel) rfl ?_
      refine x_getr (hs.k k_136) F_Mod_13 (by decide +kernel) rfl (hs.r r_136_1) ?_
      refine g_bipush (z := 45) (v := 45) (by decide +kernel) rfl ?_
      refine g_dup2_11 (by decide +kernel) rfl rfl ?_
      refine x_iald hf (hs.k k_137) (by decide +kernel) (fun x6 hf => ?_)
      refine g_iload_n (i := 1) (by decide +kernel) rfl ?_
      refine g_isub (by decide +kernel) ?_
      refine x_iast hf hs (hs.k k_137) (by decide +kernel) (fun h7 hf hs => ?_)
      refine g_iconst (z := 0) (v := 0) (by decide +kernel) rfl ?_
      refine g_istore_n (i := 2) (by decide +kernel) rfl (by decide) (ls1 := [(0, .ref 136), (1, .int p1), (2, .int (0 : Int32))]) rfl ?_
      obtain ⟨q12, hqq12, hf⟩ := Option.bind_eq_some_iff.mp hf
      refine am_G.forget (am_subp [0, 1, 2] rfl) (t_Mod_undo_L44  am_fu _ _ q12 hs hqq12 (fun hs => ?_))
      refine g_aload_n (i := 0) (by decide +kernel) rfl ?_
      refine x_getr (hs.k k_136) F_Mod_13 (by decide +kernel) rfl (hs.r r_136_1) ?_
      refine g_bipush (z := 45) (v := 45) (by decide +kernel) rfl ?_
      refine x_iald hf (hs.k k_137) (by decide +kernel) (fun x13 hf => ?_)
      exact x_iret hf hs (by decide +kernel) rfl (Nat.le_refl _) (Nat.le_refl _)
    · refine g_bipush (z := (-3)) (v := (-3)) (by decide +kernel) rfl ?_
      exact x_iret hf hs (by decide +kernel) rfl (Nat.le_refl _) (Nat.le_refl _)
def f_Mod_whyNot (p1 : Int64) (h : am_H) : Option (Int32 × am_H) :=
  (if (lg_cmp p1 (-1 : Int64)) = 0 then
    some ((0 : Int32), h)
  else
    (f_Mod_within p1 (200 : Int64) (209 : Int64) h).bind fun q2 =>
    (if q2 = true then
      some ((0 : Int32), h)
    else
      (f_Mod_within p1 (0 : Int64) (49 : Int64) h).bind fun q4 =>
      (if q4 = true then
        (f_Mod_whyTold (p1 / (10 : Int64)) (p1 - p1 / (10 : Int64) * (10 : Int64)) h).bind fun q13 =>
        some (q13.1, q13.2)
      else
        (f_Mod_within p1 (100 : Int64) (159 : Int64) h).bind fun q6 =>
        (if q6 = true then
          (am_rd (h.2.1 137) 3411 (2 : Int32)).bind fun x8 =>
          (if (lg_cmp ((p1 - (100 : Int64)) / (10 : Int64)) ((x8).toInt64)) < 0 then
            (if (lg_cmp (p1 - p1 / (10 : Int64) * (10 : Int64)) (9 : Int64)) = 0 then
              some ((0 : Int32), h)
            else
              (am_rd (h.2.1 137) 3411 (1 : Int32)).bind fun x11 =>
              (if 0 ≤ (lg_cmp (p1 - p1 / (10 : Int64) * (10 : Int64)) ((x11).toInt64)) then
                some ((1 : Int32), h)
              else
                some ((0 : Int32), h)))
          else
            some ((1 : Int32), h))
        else
          some ((1 : Int32), h)))))
set_option maxRecDepth 100000 in
set_option maxHeartbeats 4000000 in
theorem t_Mod_whyNot {p1 : Int64} {h : am_H} (hs : am_Sh h)  {r : Int32 × am_H} (hf : f_Mod_whyNot p1 h = some r) : am_Ct 4 M_Mod_whyNot [.ref 136, .long p1] h 0 0 (am_qI r) := by
  unfold f_Mod_whyNot at hf
  refine am_Ct.of (by decide) rfl (Nat.le_of_ble_eq_true rfl) (ls := [(0, .ref 136), (1, .long p1)]) rfl ?_
  refine g_lload_n (i := 1) (by decide +kernel) rfl ?_
  refine g_ldc2 (by decide +kernel) C_Mod_274 ?_
  refine g_lcmp (by decide +kernel) ?_
  refine x_if_eq (off := 16) (tgt := 21) hf (by decide +kernel) (by decide) (fun c1 hf => ?_) (fun c1 hf => ?_)
  · refine g_iconst (z := 0) (v := 0) (by decide +kernel) rfl ?_
    exact x_iret hf hs (by decide +kernel) rfl (Nat.le_refl _) (Nat.le_refl _)
  · refine g_lload_n (i := 1) (by decide +kernel) rfl ?_
    refine g_ldc2 (by decide +kernel) C_Mod_285 ?_
    refine g_ldc2 (by decide +kernel) C_Mod_287 ?_
    refine x_callSBp (as := [.long p1, .long (200 : Int64), .long (209 : Int64)]) St_Mod_within hf (fun q hq => t_Mod_within hs  hq) Y_Mod_within L_Mod_157 (by decide +kernel) rfl rfl (Nat.le_of_ble_eq_true rfl) (by decide) (Nat.le_refl _) (Nat.le_refl _) (fun q2 hf => ?_)
    refine x_ifb_eq (off := 5) (tgt := 23) hf (by decide +kernel) (by decide) (fun c3 hf => ?_) (fun c3 hf => ?_)
    · refine g_lload_n (i := 1) (by decide +kernel) rfl ?_
      refine g_lconst (z := 0) (v := 0) (by decide +kernel) rfl ?_
      refine g_ldc2 (by decide +kernel) C_Mod_289 ?_
      refine x_callSBp (as := [.long p1, .long (0 : Int64), .long (49 : Int64)]) St_Mod_within hf (fun q hq => t_Mod_within hs  hq) Y_Mod_within L_Mod_157 (by decide +kernel) rfl rfl (Nat.le_of_ble_eq_true rfl) (by decide) (Nat.le_refl _) (Nat.le_refl _) (fun q4 hf => ?_)
      refine x_ifb_eq (off := 18) (tgt := 49) hf (by decide +kernel) (by decide) (fun c5 hf => ?_) (fun c5 hf => ?_)
      · refine g_lload_n (i := 1) (by decide +kernel) rfl ?_
        refine g_ldc2 (by decide +kernel) C_Mod_291 ?_
        refine g_ldc2 (by decide +kernel) C_Mod_293 ?_
        refine x_callSBp (as := [.long p1, .long (100 : Int64), .long (159 : Int64)]) St_Mod_within hf (fun q hq => t_Mod_within hs  hq) Y_Mod_within L_Mod_157 (by decide +kernel) rfl rfl (Nat.le_of_ble_eq_true rfl) (by decide) (Nat.le_refl _) (Nat.le_refl _) (fun q6 hf => ?_)
        refine x_ifb_eq (off := 23) (tgt := 82) hf (by decide +kernel) (by decide) (fun c7 hf => ?_) (fun c7 hf => ?_)
        · refine g_iconst (z := 1) (v := 1) (by decide +kernel) rfl ?_
          exact x_iret hf hs (by decide +kernel) rfl (Nat.le_refl _) (Nat.le_refl _)
        · refine g_lload_n (i := 1) (by decide +kernel) rfl ?_
          refine g_ldc2 (by decide +kernel) C_Mod_291 ?_
          refine g_lsub (by decide +kernel) ?_
          refine g_ldc2 (by decide +kernel) C_Mod_283 ?_
          refine g_ldiv (by decide +kernel) (by decide) ?_
          refine g_aload_n (i := 0) (by decide +kernel) rfl ?_
          refine x_getr (hs.k k_136) F_Mod_13 (by decide +kernel) rfl (hs.r r_136_1) ?_
          refine g_iconst (z := 2) (v := 2) (by decide +kernel) rfl ?_
          refine x_iald hf (hs.k k_137) (by decide +kernel) (fun x8 hf => ?_)
          refine g_i2l (by decide +kernel) ?_
          refine g_lcmp (by decide +kernel) ?_
          refine x_if_lt (off := 5) (tgt := 84) hf (by decide +kernel) (by decide) (fun c9 hf => ?_) (fun c9 hf => ?_)
          · refine g_lload_n (i := 1) (by decide +kernel) rfl ?_
            refine g_ldc2 (by decide +kernel) C_Mod_283 ?_
            refine g_lrem (by decide +kernel) (by decide) ?_
            refine g_ldc2 (by decide +kernel) C_Mod_295 ?_
            refine g_lcmp (by decide +kernel) ?_
            refine x_if_eq (off := 19) (tgt := 112) hf (by decide +kernel) (by decide) (fun c10 hf => ?_) (fun c10 hf => ?_)
            · refine g_iconst (z := 0) (v := 0) (by decide +kernel) rfl ?_
              refine g_goto (off := 4) (tgt := 117) (by decide +kernel) (by decide) ?_
              exact x_iret hf hs (by decide +kernel) rfl (Nat.le_refl _) (Nat.le_refl _)
            · refine g_lload_n (i := 1) (by decide +kernel) rfl ?_
              refine g_ldc2 (by decide +kernel) C_Mod_283 ?_
              refine g_lrem (by decide +kernel) (by decide) ?_
              refine g_aload_n (i := 0) (by decide +kernel) rfl ?_
              refine x_getr (hs.k k_136) F_Mod_13 (by decide +kernel) rfl (hs.r r_136_1) ?_
              refine g_iconst (z := 1) (v := 1) (by decide +kernel) rfl ?_
              refine x_iald hf (hs.k k_137) (by decide +kernel) (fun x11 hf => ?_)
              refine g_i2l (by decide +kernel) ?_
              refine g_lcmp (by decide +kernel) ?_
              refine x_if_ge (off := 7) (tgt := 116) hf (by decide +kernel) (by decide) (fun c12 hf => ?_) (fun c12 hf => ?_)
              · refine g_iconst (z := 1) (v := 1) (by decide +kernel) rfl ?_
                exact x_iret hf hs (by decide +kernel) rfl (Nat.le_refl _) (Nat.le_refl _)
              · refine g_iconst (z := 0) (v := 0) (by decide +kernel) rfl ?_
                refine g_goto (off := 4) (tgt := 117) (by decide +kernel) (by decide) ?_
                exact x_iret hf hs (by decide +kernel) rfl (Nat.le_refl _) (Nat.le_refl _)
          · refine g_iconst (z := 1) (v := 1) (by decide +kernel) rfl ?_
            exact x_iret hf hs (by decide +kernel) rfl (Nat.le_refl _) (Nat.le_refl _)
      · refine g_aload_n (i := 0) (by decide +kernel) rfl ?_
        refine g_lload_n (i := 1) (by decide +kernel) rfl ?_
        refine g_ldc2 (by decide +kernel) C_Mod_283 ?_
        refine g_ldiv (by decide +kernel) (by decide) ?_
        refine g_lload_n (i := 1) (by decide +kernel) rfl ?_
        refine g_ldc2 (by decide +kernel) C_Mod_283 ?_
        refine g_lrem (by decide +kernel) (by decide) ?_
        refine x_callVI (as := [.long (p1 / (10 : Int64)), .long (p1 - p1 / (10 : Int64) * (10 : Int64))]) Vi_Mod_whyTold Vs_Mod_whyTold (hs.k k_136) rfl hf (fun q hq => t_Mod_whyTold hs  hq) Y_Mod_whyTold L_Mod_264 (by decide +kernel) rfl rfl (Nat.le_of_ble_eq_true rfl) (by decide) (Nat.le_refl _) (Nat.le_refl _) (fun q13 hf hs => ?_)
        exact x_iret hf hs (by decide +kernel) rfl (Nat.le_refl _) (Nat.le_refl _)
    · refine g_iconst (z := 0) (v := 0) (by decide +kernel) rfl ?_
      exact x_iret hf hs (by decide +kernel) rfl (Nat.le_refl _) (Nat.le_refl _)
