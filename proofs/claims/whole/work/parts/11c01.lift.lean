def f_Reader_readPerson_L39  : Nat → Int32 → Int32 → am_H → Option (Int32 × am_H)
  | 0, _, _, _ => none
  | n + 1, v1, v2, h =>
    (if (900 : Int32) ≤ v2 then
      some (v2, h)
    else
      (f_Reader_kind  h).bind fun q6 =>
      (if q6 = (109 : Int32) then
        (f_Reader_take (109 : Int32) h).bind fun q8 =>
        (if q8.1 = true then
          (f_Reader_readNumber (0 : Int32) (99 : Int32) q8.2).bind fun q16 =>
          (am_wr q16.2 65 5 v1 q16.1).bind fun h17 =>
          f_Reader_readPerson_L39  n v1 (v2 + (1 : Int32)) h17
        else
          (f_Reader_expect (110 : Int32) q8.2).bind fun q10 =>
          (f_Reader_readSpot  q10).bind fun q11 =>
          (am_wr q11.2 66 5 v1 q11.1).bind fun h12 =>
          (f_Reader_expect (111 : Int32) h12).bind fun q13 =>
          (f_Reader_readNumber (0 : Int32) (999 : Int32) q13).bind fun q14 =>
          (am_wr q14.2 67 5 v1 q14.1).bind fun h15 =>
          f_Reader_readPerson_L39  n v1 (v2 + (1 : Int32)) h15)
      else
        (f_Reader_kind  h).bind fun q18 =>
        (if q18 = (110 : Int32) then
          (f_Reader_take (109 : Int32) h).bind fun q20 =>
          (if q20.1 = true then
            (f_Reader_readNumber (0 : Int32) (99 : Int32) q20.2).bind fun q28 =>
            (am_wr q28.2 65 5 v1 q28.1).bind fun h29 =>
            f_Reader_readPerson_L39  n v1 (v2 + (1 : Int32)) h29
          else
            (f_Reader_expect (110 : Int32) q20.2).bind fun q22 =>
            (f_Reader_readSpot  q22).bind fun q23 =>
            (am_wr q23.2 66 5 v1 q23.1).bind fun h24 =>
            (f_Reader_expect (111 : Int32) h24).bind fun q25 =>
            (f_Reader_readNumber (0 : Int32) (999 : Int32) q25).bind fun q26 =>
            (am_wr q26.2 67 5 v1 q26.1).bind fun h27 =>
            f_Reader_readPerson_L39  n v1 (v2 + (1 : Int32)) h27)
        else
          some (v2, h))))
set_option maxRecDepth 100000 in
set_option maxHeartbeats 4000000 in
theorem t_Reader_readPerson_L39   {Q : Option Value → am_H → Prop} : ∀ (n : Nat) (v1 : Int32) (v2 : Int32) (h : am_H) (q : Int32 × am_H), am_Sh h → f_Reader_readPerson_L39  n v1 v2 h = some q → (am_Sh q.2 → am_G 4 M_Reader_readPerson 0 0 Q 140 [(0, .ref 61), (1, .int v1), (2, .int q.1)] [] q.2 0 0) → am_G 4 M_Reader_readPerson 0 0 Q 39 [(0, .ref 61), (1, .int v1), (2, .int v2)] [] h 0 0 := by
  intro n
  induction n with
  | zero =>
    intro v1 v2 h q hs hf kont
    rw [f_Reader_readPerson_L39] at hf
    cases hf
  | succ n ih =>
    intro v1 v2 h q hs hf kont
    rw [f_Reader_readPerson_L39] at hf
    refine g_iload_n (i := 2) (by decide +kernel) rfl ?_
    refine g_sipush (z := 900) (v := 900) (by decide +kernel) rfl ?_
    refine x_icmp_ge (off := 97) (tgt := 140) hf (by decide +kernel) (by decide) (fun c5 hf => ?_) (fun c5 hf => ?_)
    · cases hf
      exact am_G.forget (am_subp [0, 1, 2] rfl) (kont hs)
    · refine g_aload_n (i := 0) (by decide +kernel) rfl ?_
      refine x_callVIp (as := []) Vi_Reader_kind Vs_Reader_kind (hs.k k_61) rfl hf (fun q hq => t_Reader_kind hs  hq) Y_Reader_kind L_Reader_61 (by decide +kernel) rfl rfl (Nat.le_of_ble_eq_true rfl) (by decide) (Nat.le_refl _) (Nat.le_refl _) (fun q6 hf => ?_)
      refine g_bipush (z := 109) (v := 109) (by decide +kernel) rfl ?_
      refine x_icmp_eq (off := 12) (tgt := 64) hf (by decide +kernel) (by decide) (fun c7 hf => ?_) (fun c7 hf => ?_)
      · refine g_aload_n (i := 0) (by decide +kernel) rfl ?_
        refine g_bipush (z := 109) (v := 109) (by decide +kernel) rfl ?_
        refine x_callVB (as := [.int (109 : Int32)]) Vi_Reader_take Vs_Reader_take (hs.k k_61) rfl hf (fun q hq => t_Reader_take hs  hq) Y_Reader_take L_Reader_114 (by decide +kernel) rfl rfl (Nat.le_of_ble_eq_true rfl) (by decide) (Nat.le_refl _) (Nat.le_refl _) (fun q8 hf hs => ?_)
        refine x_ifb_eq (off := 22) (tgt := 92) hf (by decide +kernel) (by decide) (fun c9 hf => ?_) (fun c9 hf => ?_)
        · refine g_aload_n (i := 0) (by decide +kernel) rfl ?_
          refine g_bipush (z := 110) (v := 110) (by decide +kernel) rfl ?_
          refine x_callVV (as := [.int (110 : Int32)]) Vi_Reader_expect Vs_Reader_expect (hs.k k_61) rfl hf (fun q hq => t_Reader_expect hs  hq) Y_Reader_expect L_Reader_68 (by decide +kernel) rfl rfl (Nat.le_of_ble_eq_true rfl) (by decide) (Nat.le_refl _) (Nat.le_refl _) (fun q10 hf hs => ?_)
          refine g_aload_n (i := 0) (by decide +kernel) rfl ?_
          refine x_getr (hs.k k_61) F_Reader_12 (by decide +kernel) rfl (hs.r r_61_0) ?_
          refine x_getr (hs.k k_62) F_Reader_131 (by decide +kernel) rfl (hs.r r_62_9) ?_
          refine g_iload_n (i := 1) (by decide +kernel) rfl ?_
          refine g_aload_n (i := 0) (by decide +kernel) rfl ?_
          refine x_callVI (as := []) Vi_Reader_readSpot Vs_Reader_readSpot (hs.k k_61) rfl hf (fun q hq => t_Reader_readSpot hs  hq) Y_Reader_readSpot L_Reader_125 (by decide +kernel) rfl rfl (Nat.le_of_ble_eq_true rfl) (by decide) (Nat.le_refl _) (Nat.le_refl _) (fun q11 hf hs => ?_)
          refine x_iast hf hs (hs.k k_66) (by decide +kernel) (fun h12 hf hs => ?_)
          refine g_aload_n (i := 0) (by decide +kernel) rfl ?_
          refine g_bipush (z := 111) (v := 111) (by decide +kernel) rfl ?_
          refine x_callVV (as := [.int (111 : Int32)]) Vi_Reader_expect Vs_Reader_expect (hs.k k_61) rfl hf (fun q hq => t_Reader_expect hs  hq) Y_Reader_expect L_Reader_68 (by decide +kernel) rfl rfl (Nat.le_of_ble_eq_true rfl) (by decide) (Nat.le_refl _) (Nat.le_refl _) (fun q13 hf hs => ?_)
          refine g_aload_n (i := 0) (by decide +kernel) rfl ?_
          refine x_getr (hs.k k_61) F_Reader_12 (by decide +kernel) rfl (hs.r r_61_0) ?_
          refine x_getr (hs.k k_62) F_Reader_134 (by decide +kernel) rfl (hs.r r_62_10) ?_
          refine g_iload_n (i := 1) (by decide +kernel) rfl ?_
          refine g_aload_n (i := 0) (by decide +kernel) rfl ?_
          refine g_iconst (z := 0) (v := 0) (by decide +kernel) rfl ?_
          refine g_sipush (z := 999) (v := 999) (by decide +kernel) rfl ?_
          refine x_callVI (as := [.int (0 : Int32), .int (999 : Int32)]) Vi_Reader_readNumber Vs_Reader_readNumber (hs.k k_61) rfl hf (fun q hq => t_Reader_readNumber hs  hq) Y_Reader_readNumber L_Reader_79 (by decide +kernel) rfl rfl (Nat.le_of_ble_eq_true rfl) (by decide) (Nat.le_refl _) (Nat.le_refl _) (fun q14 hf hs => ?_)
          refine x_iast hf hs (hs.k k_67) (by decide +kernel) (fun h15 hf hs => ?_)
          refine g_iinc (i := 2) (z := 1) (v := (v2 + (1 : Int32))) (by decide +kernel) rfl rfl rfl (by decide) (ls1 := [(0, .ref 61), (1, .int v1), (2, .int (v2 + (1 : Int32)))]) rfl ?_
          refine g_goto (off := (-98)) (tgt := 39) (by decide +kernel) (by decide) ?_
          exact am_G.forget (am_subp [0, 1, 2] rfl) (ih _ _ _ _ hs hf kont)
        · refine g_aload_n (i := 0) (by decide +kernel) rfl ?_
          refine x_getr (hs.k k_61) F_Reader_12 (by decide +kernel) rfl (hs.r r_61_0) ?_
          refine x_getr (hs.k k_62) F_Reader_128 (by decide +kernel) rfl (hs.r r_62_8) ?_
          refine g_iload_n (i := 1) (by decide +kernel) rfl ?_
          refine g_aload_n (i := 0) (by decide +kernel) rfl ?_
          refine g_iconst (z := 0) (v := 0) (by decide +kernel) rfl ?_
          refine g_bipush (z := 99) (v := 99) (by decide +kernel) rfl ?_
          refine x_callVI (as := [.int (0 : Int32), .int (99 : Int32)]) Vi_Reader_readNumber Vs_Reader_readNumber (hs.k k_61) rfl hf (fun q hq => t_Reader_readNumber hs  hq) Y_Reader_readNumber L_Reader_79 (by decide +kernel) rfl rfl (Nat.le_of_ble_eq_true rfl) (by decide) (Nat.le_refl _) (Nat.le_refl _) (fun q16 hf hs => ?_)
          refine x_iast hf hs (hs.k k_65) (by decide +kernel) (fun h17 hf hs => ?_)
          refine g_goto (off := 45) (tgt := 134) (by decide +kernel) (by decide) ?_
          refine g_iinc (i := 2) (z := 1) (v := (v2 + (1 : Int32))) (by decide +kernel) rfl rfl rfl (by decide) (ls1 := [(0, .ref 61), (1, .int v1), (2, .int (v2 + (1 : Int32)))]) rfl ?_
          refine g_goto (off := (-98)) (tgt := 39) (by decide +kernel) (by decide) ?_
          exact am_G.forget (am_subp [0, 1, 2] rfl) (ih _ _ _ _ hs hf kont)
      · refine g_aload_n (i := 0) (by decide +kernel) rfl ?_
        refine x_callVIp (as := []) Vi_Reader_kind Vs_Reader_kind (hs.k k_61) rfl hf (fun q hq => t_Reader_kind hs  hq) Y_Reader_kind L_Reader_61 (by decide +kernel) rfl rfl (Nat.le_of_ble_eq_true rfl) (by decide) (Nat.le_refl _) (Nat.le_refl _) (fun q18 hf => ?_)
        refine g_bipush (z := 110) (v := 110) (by decide +kernel) rfl ?_
        refine x_icmp_ne (off := 79) (tgt := 140) hf (by decide +kernel) (by decide) (fun c19 hf => ?_) (fun c19 hf => ?_)
        · cases hf
          exact am_G.forget (am_subp [0, 1, 2] rfl) (kont hs)
        · refine g_aload_n (i := 0) (by decide +kernel) rfl ?_
          refine g_bipush (z := 109) (v := 109) (by decide +kernel) rfl ?_
          refine x_callVB (as := [.int (109 : Int32)]) Vi_Reader_take Vs_Reader_take (hs.k k_61) rfl hf (fun q hq => t_Reader_take hs  hq) Y_Reader_take L_Reader_114 (by decide +kernel) rfl rfl (Nat.le_of_ble_eq_true rfl) (by decide) (Nat.le_refl _) (Nat.le_refl _) (fun q20 hf hs => ?_)
          refine x_ifb_eq (off := 22) (tgt := 92) hf (by decide +kernel) (by decide) (fun c21 hf => ?_) (fun c21 hf => ?_)
          · refine g_aload_n (i := 0) (by decide +kernel) rfl ?_
            refine g_bipush (z := 110) (v := 110) (by decide +kernel) rfl ?_
            refine x_callVV (as := [.int (110 : Int32)]) Vi_Reader_expect Vs_Reader_expect (hs.k k_61) rfl hf (fun q hq => t_Reader_expect hs  hq) Y_Reader_expect L_Reader_68 (by decide +kernel) rfl rfl (Nat.le_of_ble_eq_true rfl) (by decide) (Nat.le_refl _) (Nat.le_refl _) (fun q22 hf hs => ?_)
            refine g_aload_n (i := 0) (by decide +kernel) rfl ?_
            refine x_getr (hs.k k_61) F_Reader_12 (by decide +kernel) rfl (hs.r r_61_0) ?_
            refine x_getr (hs.k k_62) F_Reader_131 (by decide +kernel) rfl (hs.r r_62_9) ?_
            refine g_iload_n (i := 1) (by decide +kernel) rfl ?_
            refine g_aload_n (i := 0) (by decide +kernel) rfl ?_
            refine x_callVI (as := []) Vi_Reader_readSpot Vs_Reader_readSpot (hs.k k_61) rfl hf (fun q hq => t_Reader_readSpot hs  hq) Y_Reader_readSpot L_Reader_125 (by decide +kernel) rfl rfl (Nat.le_of_ble_eq_true rfl) (by decide) (Nat.le_refl _) (Nat.le_refl _) (fun q23 hf hs => ?_)
            refine x_iast hf hs (hs.k k_66) (by decide +kernel) (fun h24 hf hs => ?_)
            refine g_aload_n (i := 0) (by decide +kernel) rfl ?_
            refine g_bipush (z := 111) (v := 111) (by decide +kernel) rfl ?_
            refine x_callVV (as := [.int (111 : Int32)]) Vi_Reader_expect Vs_Reader_expect (hs.k k_61) rfl hf (fun q hq => t_Reader_expect hs  hq) Y_Reader_expect L_Reader_68 (by decide +kernel) rfl rfl (Nat.le_of_ble_eq_true rfl) (by decide) (Nat.le_refl _) (Nat.le_refl _) (fun q25 hf hs => ?_)
            refine g_aload_n (i := 0) (by decide +kernel) rfl ?_
            refine x_getr (hs.k k_61) F_Reader_12 (by decide +kernel) rfl (hs.r r_61_0) ?_
            refine x_getr (hs.k k_62) F_Reader_134 (by decide +kernel) rfl (hs.r r_62_10) ?_
            refine g_iload_n (i := 1) (by decide +kernel) rfl ?_
            refine g_aload_n (i := 0) (by decide +kernel) rfl ?_
            refine g_iconst (z := 0) (v := 0) (by decide +kernel) rfl ?_
            refine g_sipush (z := 999) (v := 999) (by decide +kernel) rfl ?_
            refine x_callVI (as := [.int (0 : Int32), .int (999 : Int32)]) Vi_Reader_readNumber Vs_Reader_readNumber (hs.k k_61) rfl hf (fun q hq => t_Reader_readNumber hs  hq) Y_Reader_readNumber L_Reader_79 (by decide +kernel) rfl rfl (Nat.le_of_ble_eq_true rfl) (by decide) (Nat.le_refl _) (Nat.le_refl _) (fun q26 hf hs => ?_)
            refine x_iast hf hs (hs.k k_67) (by decide +kernel) (fun h27 hf hs => ?_)
            refine g_iinc (i := 2) (z := 1) (v := (v2 + (1 : Int32))) (by decide +kernel) rfl rfl rfl (by decide) (ls1 := [(0, .ref 61), (1, .int v1), (2, .int (v2 + (1 : Int32)))]) rfl ?_
            refine g_goto (off := (-98)) (tgt := 39) (by decide +kernel) (by decide) ?_
            exact am_G.forget (am_subp [0, 1, 2] rfl) (ih _ _ _ _ hs hf kont)
          · refine g_aload_n (i := 0) (by decide +kernel) rfl ?_
            refine x_getr (hs.k k_61) F_Reader_12 (by decide +kernel) rfl (hs.r r_61_0) ?_
            refine x_getr (hs.k k_62) F_Reader_128 (by decide +kernel) rfl (hs.r r_62_8) ?_
            refine g_iload_n (i := 1) (by decide +kernel) rfl ?_
            refine g_aload_n (i := 0) (by decide +kernel) rfl ?_
            refine g_iconst (z := 0) (v := 0) (by decide +kernel) rfl ?_
            refine g_bipush (z := 99) (v := 99) (by decide +kernel) rfl ?_
            refine x_callVI (as := [.int (0 : Int32), .int (99 : Int32)]) Vi_Reader_readNumber Vs_Reader_readNumber (hs.k k_61) rfl hf (fun q hq => t_Reader_readNumber hs  hq) Y_Reader_readNumber L_Reader_79 (by decide +kernel) rfl rfl (Nat.le_of_ble_eq_true rfl) (by decide) (Nat.le_refl _) (Nat.le_refl _) (fun q28 hf hs => ?_)
            refine x_iast hf hs (hs.k k_65) (by decide +kernel) (fun h29 hf hs => ?_)
            refine g_goto (off := 45) (tgt := 134) (by decide +kernel) (by decide) ?_
            refine g_iinc (i := 2) (z := 1) (v := (v2 + (1 : Int32))) (by decide +kernel) rfl rfl rfl (by decide) (ls1 := [(0, .ref 61), (1, .int v1), (2, .int (v2 + (1 : Int32)))]) rfl ?_
            refine g_goto (off := (-98)) (tgt := 39) (by decide +kernel) (by decide) ?_
            exact am_G.forget (am_subp [0, 1, 2] rfl) (ih _ _ _ _ hs hf kont)
def f_Reader_readPerson  (h : am_H) : Option (am_H) :=
  am_let (am_sI h 62 2 ((h.2.1 62 2) + (1 : Int32))) fun h1 =>
  (f_Reader_expect (104 : Int32) h1).bind fun q2 =>
  (f_Reader_readSpot  q2).bind fun q3 =>
  (am_wr q3.2 64 5 (h.2.1 62 2) q3.1).bind fun h4 =>
  (f_Reader_readPerson_L39  am_fu (h.2.1 62 2) (0 : Int32) h4).bind fun q30 =>
  some q30.2
set_option maxRecDepth 100000 in
set_option maxHeartbeats 4000000 in
theorem t_Reader_readPerson  {h : am_H} (hs : am_Sh h)  {r : am_H} (hf : f_Reader_readPerson  h = some r) : am_Ct 4 M_Reader_readPerson [.ref 61] h 0 0 (am_qV r) := by
  unfold f_Reader_readPerson at hf
  refine am_Ct.of (by decide) rfl (Nat.le_of_ble_eq_true rfl) (ls := [(0, .ref 61)]) rfl ?_
  refine g_aload_n (i := 0) (by decide +kernel) rfl ?_
  refine x_getr (hs.k k_61) F_Reader_12 (by decide +kernel) rfl (hs.r r_61_0) ?_
  refine x_geti (hs.k k_62) F_Reader_92 (by decide +kernel) rfl ?_
  refine g_istore_n (i := 1) (by decide +kernel) rfl (by decide) (ls1 := [(0, .ref 61), (1, .int (h.2.1 62 2))]) rfl ?_
  refine g_aload_n (i := 0) (by decide +kernel) rfl ?_
  refine x_getr (hs.k k_61) F_Reader_12 (by decide +kernel) rfl (hs.r r_61_0) ?_
  refine g_iload_n (i := 1) (by decide +kernel) rfl ?_
  refine g_iconst (z := 1) (v := 1) (by decide +kernel) rfl ?_
  refine g_iadd (by decide +kernel) ?_
  refine x_puti hf hs (hs.k k_62) F_Reader_92 (by decide +kernel) rfl rfl rfl rfl (fun h1 hf hs => ?_)
  refine g_aload_n (i := 0) (by decide +kernel) rfl ?_
  refine g_bipush (z := 104) (v := 104) (by decide +kernel) rfl ?_
  refine x_callVV (as := [.int (104 : Int32)]) Vi_Reader_expect Vs_Reader_expect (hs.k k_61) rfl hf (fun q hq => t_Reader_expect hs  hq) Y_Reader_expect L_Reader_68 (by decide +kernel) rfl rfl (Nat.le_of_ble_eq_true rfl) (by decide) (Nat.le_refl _) (Nat.le_refl _) (fun q2 hf hs => ?_)
  refine g_aload_n (i := 0) (by decide +kernel) rfl ?_
  refine x_getr (hs.k k_61) F_Reader_12 (by decide +kernel) rfl (hs.r r_61_0) ?_
  refine x_getr (hs.k k_62) F_Reader_122 (by decide +kernel) rfl (hs.r r_62_7) ?_
  refine g_iload_n (i := 1) (by decide +kernel) rfl ?_
  refine g_aload_n (i := 0) (by decide +kernel) rfl ?_
  refine x_callVI (as := []) Vi_Reader_readSpot Vs_Reader_readSpot (hs.k k_61) rfl hf (fun q hq => t_Reader_readSpot hs  hq) Y_Reader_readSpot L_Reader_125 (by decide +kernel) rfl rfl (Nat.le_of_ble_eq_true rfl) (by decide) (Nat.le_refl _) (Nat.le_refl _) (fun q3 hf hs => ?_)
  refine x_iast hf hs (hs.k k_64) (by decide +kernel) (fun h4 hf hs => ?_)
  refine g_iconst (z := 0) (v := 0) (by decide +kernel) rfl ?_
  refine g_istore_n (i := 2) (by decide +kernel) rfl (by decide) (ls1 := [(0, .ref 61), (1, .int (h.2.1 62 2)), (2, .int (0 : Int32))]) rfl ?_
  obtain ⟨q30, hqq30, hf⟩ := Option.bind_eq_some_iff.mp hf
  refine am_G.forget (am_subp [0, 1, 2] rfl) (t_Reader_readPerson_L39  am_fu _ _ _ q30 hs hqq30 (fun hs => ?_))
  exact x_vret hf hs (by decide +kernel) rfl (Nat.le_refl _) (Nat.le_refl _)
def f_Reader_beginLaw (p1 : Nat) (h : am_H) : Option (am_H) :=
  am_let (am_sR h 61 7 (some p1)) fun h1 =>
  (f_Law_clear (am_rf h1 61 7) h1).bind fun q3 =>
  am_let (am_sI q3 (am_rf q3 61 7) 0 (1 : Int32)) fun h5 =>
  am_let (am_sI h5 61 3 ((h5.2.1 61 3) + (1 : Int32))) fun h6 =>
  (f_Reader_expect (58 : Int32) h6).bind fun q7 =>
  some q7
set_option maxRecDepth 100000 in
set_option maxHeartbeats 4000000 in
theorem t_Reader_beginLaw {p1 : Nat} {h : am_H} (hs : am_Sh h) (hp1 : p1 ∈ am_lwL) {r : am_H} (hf : f_Reader_beginLaw p1 h = some r) : am_Ct 3 M_Reader_beginLaw [.ref 61, .ref p1] h 0 0 (am_qV r) := by
  unfold f_Reader_beginLaw at hf
  refine am_Ct.of (by decide) rfl (Nat.le_of_ble_eq_true rfl) (ls := [(0, .ref 61), (1, .ref p1)]) rfl ?_
  refine g_aload_n (i := 0) (by decide +kernel) rfl ?_
  refine g_aload_n (i := 1) (by decide +kernel) rfl ?_
  refine x_putr hf (hs.p_law hp1) (hs.k k_61) F_Reader_47 (by decide +kernel) rfl rfl (fun h1 hf hs => ?_)
  refine g_aload_n (i := 0) (by decide +kernel) rfl ?_
  have hm2 := hs.law.2
  refine x_getr (hs.k k_61) F_Reader_47 (by decide +kernel) rfl hs.law.1 ?_
  refine x_callVV (as := []) Vi_Law_clear Vs_Law_clear (hs.k (k_Lw hm2)) rfl hf (fun q hq => t_Law_clear hs hm2 hq) Y_Law_clear L_Reader_57 (by decide +kernel) rfl rfl (Nat.le_of_ble_eq_true rfl) (by decide) (Nat.le_refl _) (Nat.le_refl _) (fun q3 hf hs => ?_)
  refine g_aload_n (i := 0) (by decide +kernel) rfl ?_
  have hm4 := hs.law.2
  refine x_getr (hs.k k_61) F_Reader_47 (by decide +kernel) rfl hs.law.1 ?_
  refine g_iconst (z := 1) (v := 1) (by decide +kernel) rfl ?_
  refine x_puti hf hs (hs.k (k_Lw hm4)) F_Reader_137 (by decide +kernel) rfl rfl rfl rfl (fun h5 hf hs => ?_)
  refine g_aload_n (i := 0) (by decide +kernel) rfl ?_
  refine g_dup (by decide +kernel) rfl ?_
  refine x_geti (hs.k k_61) F_Reader_25 (by decide +kernel) rfl ?_
  refine g_iconst (z := 1) (v := 1) (by decide +kernel) rfl ?_
  refine g_iadd (by decide +kernel) ?_
  refine x_puti hf hs (hs.k k_61) F_Reader_25 (by decide +kernel) rfl rfl rfl rfl (fun h6 hf hs => ?_)
  refine g_aload_n (i := 0) (by decide +kernel) rfl ?_
  refine g_bipush (z := 58) (v := 58) (by decide +kernel) rfl ?_
  refine x_callVV (as := [.int (58 : Int32)]) Vi_Reader_expect Vs_Reader_expect (hs.k k_61) rfl hf (fun q hq => t_Reader_expect hs  hq) Y_Reader_expect L_Reader_68 (by decide +kernel) rfl rfl (Nat.le_of_ble_eq_true rfl) (by decide) (Nat.le_refl _) (Nat.le_refl _) (fun q7 hf hs => ?_)
  exact x_vret hf hs (by decide +kernel) rfl (Nat.le_refl _) (Nat.le_refl _)
def f_Law_put (o : Nat) (p1 : Int32) (h : am_H) : Option (am_H) :=
  (if (Int32.ofNat 900) ≤ (h.2.1 o 1) then
    some h
  else
    (am_wr h (o + 1) 900 (h.2.1 o 1) p1).bind fun h2 =>
    am_let (am_sI h2 o 1 ((h2.2.1 o 1) + (1 : Int32))) fun h3 =>
    some h3)
set_option maxRecDepth 100000 in
set_option maxHeartbeats 4000000 in
theorem t_Law_put {o : Nat} {p1 : Int32} {h : am_H} (hs : am_Sh h) (ho : o ∈ am_lwL) {r : am_H} (hf : f_Law_put o p1 h = some r) : am_Ct 0 M_Law_put [.ref o, .int p1] h 0 0 (am_qV r) := by
  unfold f_Law_put at hf
  refine am_Ct.of (by decide) rfl (Nat.le_of_ble_eq_true rfl) (ls := [(0, .ref o), (1, .int p1)]) rfl ?_
  refine g_aload_n (i := 0) (by decide +kernel) rfl ?_
  refine x_geti (hs.k (k_Lw ho)) F_Law_15 (by decide +kernel) rfl ?_
  refine g_aload_n (i := 0) (by decide +kernel) rfl ?_
  refine x_getr (hs.k (k_Lw ho)) F_Law_19 (by decide +kernel) rfl (hs.r (r_Lw_2 ho)) ?_
  refine g_alen (t0 := 0) (hs.k (k_Lw_2 ho)) rfl rfl (by decide +kernel) ?_
  refine x_icmp_ge (off := 23) (tgt := 32) hf (by decide +kernel) (by decide) (fun c1 hf => ?_) (fun c1 hf => ?_)
  · exact x_vret hf hs (by decide +kernel) rfl (Nat.le_refl _) (Nat.le_refl _)
  · refine g_aload_n (i := 0) (by decide +kernel) rfl ?_
    refine x_getr (hs.k (k_Lw ho)) F_Law_19 (by decide +kernel) rfl (hs.r (r_Lw_2 ho)) ?_
    refine g_aload_n (i := 0) (by decide +kernel) rfl ?_
    refine x_geti (hs.k (k_Lw ho)) F_Law_15 (by decide +kernel) rfl ?_
    refine g_iload_n (i := 1) (by decide +kernel) rfl ?_
    refine x_iast hf hs (hs.k (k_Lw_2 ho)) (by decide +kernel) (fun h2 hf hs => ?_)
    refine g_aload_n (i := 0) (by decide +kernel) rfl ?_
    refine g_dup (by decide +kernel) rfl ?_
    refine x_geti (hs.k (k_Lw ho)) F_Law_15 (by decide +kernel) rfl ?_
    refine g_iconst (z := 1) (v := 1) (by decide +kernel) rfl ?_
    refine g_iadd (by decide +kernel) ?_
    refine x_puti hf hs (hs.k (k_Lw ho)) F_Law_15 (by decide +kernel) rfl rfl rfl rfl (fun h3 hf hs => ?_)
    exact x_vret hf hs (by decide +kernel) rfl (Nat.le_refl _) (Nat.le_refl _)
def f_Reader_comparing  (h : am_H) : Option (Int32 × am_H) :=
  (f_Reader_kind  h).bind fun q1 =>
  (if q1 = (60 : Int32) then
    some ((2004 : Int32), h)
  else if q1 = (61 : Int32) then
    some ((2003 : Int32), h)
  else if q1 = (62 : Int32) then
    some ((2005 : Int32), h)
  else 
    (f_Reader_blame (2 : Int32) h).bind fun q2 =>
    some ((2003 : Int32), q2))
set_option maxRecDepth 100000 in
set_option maxHeartbeats 4000000 in
theorem t_Reader_comparing  {h : am_H} (hs : am_Sh h)  {r : Int32 × am_H} (hf : f_Reader_comparing  h = some r) : am_Ct 1 M_Reader_comparing [.ref 61] h 0 0 (am_qI r) := by
  unfold f_Reader_comparing at hf
  refine am_Ct.of (by decide) rfl (Nat.le_of_ble_eq_true rfl) (ls := [(0, .ref 61)]) rfl ?_
  refine g_aload_n (i := 0) (by decide +kernel) rfl ?_
  refine x_callVIp (as := []) Vi_Reader_kind Vs_Reader_kind (hs.k k_61) rfl hf (fun q hq => t_Reader_kind hs  hq) Y_Reader_kind L_Reader_61 (by decide +kernel) rfl rfl (Nat.le_of_ble_eq_true rfl) (by decide) (Nat.le_refl _) (Nat.le_refl _) (fun q1 hf => ?_)
  by_cases e0 : q1 = (60 : Int32)
  · rw [if_pos e0] at hf
    have ex : Int32.toInt q1 = 60 := by rw [e0]; rfl
    refine x_tabIn (dflt := 40) (lo := 60) (hi := 62) (offs := #[32, 28, 36]) (len := 28) (off := 32) (tgt := 36) (by decide +kernel) (by rw [ex]; decide) (by rw [ex]; decide) (by rw [ex]; rfl) (by decide) ?_
    refine g_sipush (z := 2004) (v := 2004) (by decide +kernel) rfl ?_
    exact x_iret hf hs (by decide +kernel) rfl (Nat.le_refl _) (Nat.le_refl _)
  · rw [if_neg e0] at hf
    by_cases e1 : q1 = (61 : Int32)
    · rw [if_pos e1] at hf
      have ex : Int32.toInt q1 = 61 := by rw [e1]; rfl
      refine x_tabIn (dflt := 40) (lo := 60) (hi := 62) (offs := #[32, 28, 36]) (len := 28) (off := 28) (tgt := 32) (by decide +kernel) (by rw [ex]; decide) (by rw [ex]; decide) (by rw [ex]; rfl) (by decide) ?_
      refine g_sipush (z := 2003) (v := 2003) (by decide +kernel) rfl ?_
      exact x_iret hf hs (by decide +kernel) rfl (Nat.le_refl _) (Nat.le_refl _)
    · rw [if_neg e1] at hf
      by_cases e2 : q1 = (62 : Int32)
      · rw [if_pos e2] at hf
        have ex : Int32.toInt q1 = 62 := by rw [e2]; rfl
        refine x_tabIn (dflt := 40) (lo := 60) (hi := 62) (offs := #[32, 28, 36]) (len := 28) (off := 36) (tgt := 40) (by decide +kernel) (by rw [ex]; decide) (by rw [ex]; decide) (by rw [ex]; rfl) (by decide) ?_
        refine g_sipush (z := 2005) (v := 2005) (by decide +kernel) rfl ?_
        exact x_iret hf hs (by decide +kernel) rfl (Nat.le_refl _) (Nat.le_refl _)
      · rw [if_neg e2] at hf
        refine x_tabOut (dflt := 40) (lo := 60) (hi := 62) (offs := #[32, 28, 36]) (len := 28) (tgt := 44) (by decide +kernel) (am_tabNe ⟨by decide, by decide⟩ (fun z hz => ?_)) (by decide) ?_
        · have hz : z < 3 := hz
          have : z = 0 ∨ z = 1 ∨ z = 2 := by omega
          rcases this with rfl | rfl | rfl
          · exact e0
          · exact e1
          · exact e2
        · refine g_aload_n (i := 0) (by decide +kernel) rfl ?_
          refine g_iconst (z := 2) (v := 2) (by decide +kernel) rfl ?_
          refine x_callVV (as := [.int (2 : Int32)]) Vi_Reader_blame Vs_Reader_blame (hs.k k_61) rfl hf (fun q hq => t_Reader_blame hs  hq) Y_Reader_blame L_Reader_95 (by decide +kernel) rfl rfl (Nat.le_of_ble_eq_true rfl) (by decide) (Nat.le_refl _) (Nat.le_refl _) (fun q2 hf hs => ?_)
          refine g_sipush (z := 2003) (v := 2003) (by decide +kernel) rfl ?_
          exact x_iret hf hs (by decide +kernel) rfl (Nat.le_refl _) (Nat.le_refl _)
def f_Reader_askedBy (p1 : Int32) (h : am_H) : Option (Int32) :=
  (if p1 = (109 : Int32) then
    some (3 : Int32)
  else if p1 = (110 : Int32) then
    some (-1 : Int32)
  else if p1 = (111 : Int32) then
    some (-1 : Int32)
  else if p1 = (112 : Int32) then
    some (-1 : Int32)
  else if p1 = (113 : Int32) then
    some (-1 : Int32)
  else if p1 = (114 : Int32) then
    some (-1 : Int32)
  else if p1 = (115 : Int32) then
    some (1 : Int32)
  else if p1 = (116 : Int32) then
    some (-1 : Int32)
  else if p1 = (117 : Int32) then
    some (-1 : Int32)
  else if p1 = (118 : Int32) then
    some (-1 : Int32)
  else if p1 = (119 : Int32) then
    some (0 : Int32)
  else if p1 = (120 : Int32) then
    some (2 : Int32)
  else if p1 = (121 : Int32) then
    some (4 : Int32)
  else if p1 = (122 : Int32) then
    (if (am_rf h 61 7) = 75 then
      some (5 : Int32)
    else
      some (-1 : Int32))
  else 
    some (-1 : Int32))
set_option maxRecDepth 100000 in
set_option maxHeartbeats 4000000 in
theorem t_Reader_askedBy {p1 : Int32} {h : am_H} (hs : am_Sh h)  {r : Int32} (hf : f_Reader_askedBy p1 h = some r) : am_Ct 0 M_Reader_askedBy [.ref 61, .int p1] h 0 0 (am_pI h r) := by
  unfold f_Reader_askedBy at hf
  refine am_Ct.of (by decide) rfl (Nat.le_of_ble_eq_true rfl) (ls := [(0, .ref 61), (1, .int p1)]) rfl ?_
  refine g_iload_n (i := 1) (by decide +kernel) rfl ?_
  by_cases e0 : p1 = (109 : Int32)
  · rw [if_pos e0] at hf
    have ex : Int32.toInt p1 = 109 := by rw [e0]; rfl
    refine x_tabIn (dflt := 97) (lo := 109) (hi := 122) (offs := #[77, 97, 97, 97, 97, 97, 73, 97, 97, 97, 71, 75, 79, 81]) (len := 71) (off := 77) (tgt := 78) (by decide +kernel) (by rw [ex]; decide) (by rw [ex]; decide) (by rw [ex]; rfl) (by decide) ?_
    refine g_iconst (z := 3) (v := 3) (by decide +kernel) rfl ?_
    exact x_iretp hf (by decide +kernel) rfl (Nat.le_refl _) (Nat.le_refl _)
  · rw [if_neg e0] at hf
    by_cases e1 : p1 = (110 : Int32)
    · rw [if_pos e1] at hf
      have ex : Int32.toInt p1 = 110 := by rw [e1]; rfl
      refine x_tabIn (dflt := 97) (lo := 109) (hi := 122) (offs := #[77, 97, 97, 97, 97, 97, 73, 97, 97, 97, 71, 75, 79, 81]) (len := 71) (off := 97) (tgt := 98) (by decide +kernel) (by rw [ex]; decide) (by rw [ex]; decide) (by rw [ex]; rfl) (by decide) ?_
      refine g_iconst (z := (-1)) (v := (-1)) (by decide +kernel) rfl ?_
      exact x_iretp hf (by decide +kernel) rfl (Nat.le_refl _) (Nat.le_refl _)
    · rw [if_neg e1] at hf
      by_cases e2 : p1 = (111 : Int32)
      · rw [if_pos e2] at hf
        have ex : Int32.toInt p1 = 111 := by rw [e2]; rfl
        refine x_tabIn (dflt := 97) (lo := 109) (hi := 122) (offs := #[77, 97, 97, 97, 97, 97, 73, 97, 97, 97, 71, 75, 79, 81]) (len := 71) (off := 97) (tgt := 98) (by decide +kernel) (by rw [ex]; decide) (by rw [ex]; decide) (by rw [ex]; rfl) (by decide) ?_
        refine g_iconst (z := (-1)) (v := (-1)) (by decide +kernel) rfl ?_
        exact x_iretp hf (by decide +kernel) rfl (Nat.le_refl _) (Nat.le_refl _)
      · rw [if_neg e2] at hf
        by_cases e3 : p1 = (112 : Int32)
        · rw [if_pos e3] at hf
          have ex : Int32.toInt p1 = 112 := by rw [e3]; rfl
          refine x_tabIn (dflt := 97) (lo := 109) (hi := 122) (offs := #[77, 97, 97, 97, 97, 97, 73, 97, 97, 97, 71, 75, 79, 81]) (len := 71) (off := 97) (tgt := 98) (by decide +kernel) (by rw [ex]; decide) (by rw [ex]; decide) (by rw [ex]; rfl) (by decide) ?_
          refine g_iconst (z := (-1)) (v := (-1)) (by decide +kernel) rfl ?_
          exact x_iretp hf (by decide +kernel) rfl (Nat.le_refl _) (Nat.le_refl _)
        · rw [if_neg e3] at hf
          by_cases e4 : p1 = (113 : Int32)
          · rw [if_pos e4] at hf
            have ex : Int32.toInt p1 = 113 := by rw [e4]; rfl
            refine x_tabIn (dflt := 97) (lo := 109) (hi := 122) (offs := #[77, 97, 97, 97, 97, 97, 73, 97, 97, 97, 71, 75, 79, 81]) (len := 71) (off := 97) (tgt := 98) (by decide +kernel) (by rw [ex]; decide) (by rw [ex]; decide) (by rw [ex]; rfl) (by decide) ?_
            refine g_iconst (z := (-1)) (v := (-1)) (by decide +kernel) rfl ?_
            exact x_iretp hf (by decide +kernel) rfl (Nat.le_refl _) (Nat.le_refl _)
          · rw [if_neg e4] at hf
            by_cases e5 : p1 = (114 : Int32)
            · rw [if_pos e5] at hf
              have ex : Int32.toInt p1 = 114 := by rw [e5]; rfl
              refine x_tabIn (dflt := 97) (lo := 109) (hi := 122) (offs := #[77, 97, 97, 97, 97, 97, 73, 97, 97, 97, 71, 75, 79, 81]) (len := 71) (off := 97) (tgt := 98) (by decide +kernel) (by rw [ex]; decide) (by rw [ex]; decide) (by rw [ex]; rfl) (by decide) ?_
              refine g_iconst (z := (-1)) (v := (-1)) (by decide +kernel) rfl ?_
              exact x_iretp hf (by decide +kernel) rfl (Nat.le_refl _) (Nat.le_refl _)
            · rw [if_neg e5] at hf
              by_cases e6 : p1 = (115 : Int32)
              · rw [if_pos e6] at hf
                have ex : Int32.toInt p1 = 115 := by rw [e6]; rfl
                refine x_tabIn (dflt := 97) (lo := 109) (hi := 122) (offs := #[77, 97, 97, 97, 97, 97, 73, 97, 97, 97, 71, 75, 79, 81]) (len := 71) (off := 73) (tgt := 74) (by decide +kernel) (by rw [ex]; decide) (by rw [ex]; decide) (by rw [ex]; rfl) (by decide) ?_
                refine g_iconst (z := 1) (v := 1) (by decide +kernel) rfl ?_
                exact x_iretp hf (by decide +kernel) rfl (Nat.le_refl _) (Nat.le_refl _)
              · rw [if_neg e6] at hf
                by_cases e7 : p1 = (116 : Int32)
                · rw [if_pos e7] at hf
                  have ex : Int32.toInt p1 = 116 := by rw [e7]; rfl
                  refine x_tabIn (dflt := 97) (lo := 109) (hi := 122) (offs := #[77, 97, 97, 97, 97, 97, 73, 97, 97, 97, 71, 75, 79, 81]) (len := 71) (off := 97) (tgt := 98) (by decide +kernel) (by rw [ex]; decide) (by rw [ex]; decide) (by rw [ex]; rfl) (by decide) ?_
                  refine g_iconst (z := (-1)) (v := (-1)) (by decide +kernel) rfl ?_
                  exact x_iretp hf (by decide +kernel) rfl (Nat.le_refl _) (Nat.le_refl _)
                · rw [if_neg e7] at hf
                  by_cases e8 : p1 = (117 : Int32)
                  · rw [if_pos e8] at hf
                    have ex : Int32.toInt p1 = 117 := by rw [e8]; rfl
                    refine x_tabIn (dflt := 97) (lo := 109) (hi := 122) (offs := #[77, 97, 97, 97, 97, 97, 73, 97, 97, 97, 71, 75, 79, 81]) (len := 71) (off := 97) (tgt := 98) (by decide +kernel) (by rw [ex]; decide) (by rw [ex]; decide) (by rw [ex]; rfl) (by decide) ?_
                    refine g_iconst (z := (-1)) (v := (-1)) (by decide +kernel) rfl ?_
                    exact x_iretp hf (by decide +kernel) rfl (Nat.le_refl _) (Nat.le_refl _)
                  · rw [if_neg e8] at hf
                    by_cases e9 : p1 = (118 : Int32)
                    · rw [if_pos e9] at hf
                      have ex : Int32.toInt p1 = 118 := by rw [e9]; rfl
                      refine x_tabIn (dflt := 97) (lo := 109) (hi := 122) (offs := #[77, 97, 97, 97, 97, 97, 73, 97, 97, 97, 71, 75, 79, 81]) (len := 71) (off := 97) (tgt := 98) (by decide +kernel) (by rw [ex]; decide) (by rw [ex]; decide) (by rw [ex]; rfl) (by decide) ?_
                      refine g_iconst (z := (-1)) (v := (-1)) (by decide +kernel) rfl ?_
                      exact x_iretp hf (by decide +kernel) rfl (Nat.le_refl _) (Nat.le_refl _)
                    · rw [if_neg e9] at hf
                      by_cases e10 : p1 = (119 : Int32)
                      · rw [if_pos e10] at hf
                        have ex : Int32.toInt p1 = 119 := by rw [e10]; rfl
                        refine x_tabIn (dflt := 97) (lo := 109) (hi := 122) (offs := #[77, 97, 97, 97, 97, 97, 73, 97, 97, 97, 71, 75, 79, 81]) (len := 71) (off := 71) (tgt := 72) (by decide +kernel) (by rw [ex]; decide) (by rw [ex]; decide) (by rw [ex]; rfl) (by decide) ?_
                        refine g_iconst (z := 0) (v := 0) (by decide +kernel) rfl ?_
                        exact x_iretp hf (by decide +kernel) rfl (Nat.le_refl _) (Nat.le_refl _)
                      · rw [if_neg e10] at hf
                        by_cases e11 : p1 = (120 : Int32)
                        · rw [if_pos e11] at hf
                          have ex : Int32.toInt p1 = 120 := by rw [e11]; rfl
                          refine x_tabIn (dflt := 97) (lo := 109) (hi := 122) (offs := #[77, 97, 97, 97, 97, 97, 73, 97, 97, 97, 71, 75, 79, 81]) (len := 71) (off := 75) (tgt := 76) (by decide +kernel) (by rw [ex]; decide) (by rw [ex]; decide) (by rw [ex]; rfl) (by decide) ?_
                          refine g_iconst (z := 2) (v := 2) (by decide +kernel) rfl ?_
                          exact x_iretp hf (by decide +kernel) rfl (Nat.le_refl _) (Nat.le_refl _)
                        · rw [if_neg e11] at hf
                          by_cases e12 : p1 = (121 : Int32)
                          · rw [if_pos e12] at hf
                            have ex : Int32.toInt p1 = 121 := by rw [e12]; rfl
                            refine x_tabIn (dflt := 97) (lo := 109) (hi := 122) (offs := #[77, 97, 97, 97, 97, 97, 73, 97, 97, 97, 71, 75, 79, 81]) (len := 71) (off := 79) (tgt := 80) (by decide +kernel) (by rw [ex]; decide) (by rw [ex]; decide) (by rw [ex]; rfl) (by decide) ?_
                            refine g_iconst (z := 4) (v := 4) (by decide +kernel) rfl ?_
                            exact x_iretp hf (by decide +kernel) rfl (Nat.le_refl _) (Nat.le_refl _)
                          · rw [if_neg e12] at hf
                            by_cases e13 : p1 = (122 : Int32)
                            · rw [if_pos e13] at hf
                              have ex : Int32.toInt p1 = 122 := by rw [e13]; rfl
                              refine x_tabIn (dflt := 97) (lo := 109) (hi := 122) (offs := #[77, 97, 97, 97, 97, 97, 73, 97, 97, 97, 71, 75, 79, 81]) (len := 71) (off := 81) (tgt := 82) (by decide +kernel) (by rw [ex]; decide) (by rw [ex]; decide) (by rw [ex]; rfl) (by decide) ?_
                              refine g_aload_n (i := 0) (by decide +kernel) rfl ?_
                              have hm1 := hs.law.2
                              refine x_getr (hs.k k_61) F_Reader_47 (by decide +kernel) rfl hs.law.1 ?_
                              refine x_getk hs hm1 F_Reader_166 (by decide +kernel) ?_
                              refine x_ifd_eq (off := 7) (tgt := 96) hf (by decide +kernel) (by decide) (fun c2 hf => ?_) (fun c2 hf => ?_)
                              · refine g_iconst (z := (-1)) (v := (-1)) (by decide +kernel) rfl ?_
                                exact x_iretp hf (by decide +kernel) rfl (Nat.le_refl _) (Nat.le_refl _)
                              · refine g_iconst (z := 5) (v := 5) (by decide +kernel) rfl ?_
                                refine g_goto (off := 4) (tgt := 97) (by decide +kernel) (by decide) ?_
                                exact x_iretp hf (by decide +kernel) rfl (Nat.le_refl _) (Nat.le_refl _)
                            · rw [if_neg e13] at hf
                              refine x_tabOut (dflt := 97) (lo := 109) (hi := 122) (offs := #[77, 97, 97, 97, 97, 97, 73, 97, 97, 97, 71, 75, 79, 81]) (len := 71) (tgt := 98) (by decide +kernel) (am_tabNe ⟨by decide, by decide⟩ (fun z hz => ?_)) (by decide) ?_
                              · have hz : z < 14 := hz
                                have : z = 0 ∨ z = 1 ∨ z = 2 ∨ z = 3 ∨ z = 4 ∨ z = 5 ∨ z = 6 ∨ z = 7 ∨ z = 8 ∨ z = 9 ∨ z = 10 ∨ z = 11 ∨ z = 12 ∨ z = 13 := by omega
                                rcases this with rfl | rfl | rfl | rfl | rfl | rfl | rfl | rfl | rfl | rfl | rfl | rfl | rfl | rfl
                                · exact e0
                                · exact e1
                                · exact e2
                                · exact e3
                                · exact e4
                                · exact e5
                                · exact e6
                                · exact e7
                                · exact e8
                                · exact e9
                                · exact e10
                                · exact e11
                                · exact e12
                                · exact e13
                              · refine g_iconst (z := (-1)) (v := (-1)) (by decide +kernel) rfl ?_
                                exact x_iretp hf (by decide +kernel) rfl (Nat.le_refl _) (Nat.le_refl _)
