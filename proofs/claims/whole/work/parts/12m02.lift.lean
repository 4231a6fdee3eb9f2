def f_Mod_readLine  (h : am_H) : Option (am_H) :=
  (if (h.2.1 136 11) = 0 then
    (f_Mod_is (2 : Int32) h).bind fun q2 =>
    (if q2 = true then
      (f_Mod_readSpan  h).bind fun q22 =>
      some q22
    else
      (f_Mod_is (5 : Int32) h).bind fun q4 =>
      (if q4 = true then
        (f_Mod_readPerson  h).bind fun q21 =>
        some q21
      else
        (f_Mod_is (11 : Int32) h).bind fun q6 =>
        (if q6 = true then
          (f_Mod_readLaw ((h.2.1 136 9) - (11 : Int32)) h).bind fun q8 =>
          some q8
        else
          (f_Mod_is (12 : Int32) h).bind fun q9 =>
          (if q9 = true then
            (f_Mod_readLaw ((h.2.1 136 9) - (11 : Int32)) h).bind fun q20 =>
            some q20
          else
            (f_Mod_eats (13 : Int32) h).bind fun q11 =>
            (if q11.1 = true then
              (f_Mod_takes (0 : Int32) (10 : Int32) q11.2).bind fun q18 =>
              (am_wr q18.2 140 1137 (4 : Int32) q18.1).bind fun h19 =>
              some h19
            else
              (f_Mod_eats (14 : Int32) q11.2).bind fun q13 =>
              (if q13.1 = true then
                (f_Mod_takes (0 : Int32) (999 : Int32) q13.2).bind fun q16 =>
                (am_wr q16.2 140 1137 (26 : Int32) q16.1).bind fun h17 =>
                some h17
              else
                (f_Mod_fails (2 : Int32) q13.2).bind fun q15 =>
                some q15))))))
  else
    some h)
set_option maxRecDepth 100000 in
set_option maxHeartbeats 4000000 in
theorem t_Mod_readLine  {h : am_H} (hs : am_Sh h)  {r : am_H} (hf : f_Mod_readLine  h = some r) : am_Ct 69 M_Mod_readLine [.ref 136] h 0 0 (am_qV r) := by
  unfold f_Mod_readLine at hf
  refine am_Ct.of (by decide) rfl (Nat.le_of_ble_eq_true rfl) (ls := [(0, .ref 136)]) rfl ?_
  refine g_aload_n (i := 0) (by decide +kernel) rfl ?_
  refine x_geti (hs.k k_136) F_Mod_141 (by decide +kernel) rfl ?_
  refine x_if_eq (off := 4) (tgt := 8) hf (by decide +kernel) (by decide) (fun c1 hf => ?_) (fun c1 hf => ?_)
  · refine g_aload_n (i := 0) (by decide +kernel) rfl ?_
    refine g_iconst (z := 2) (v := 2) (by decide +kernel) rfl ?_
    refine x_callVBp (as := [.int (2 : Int32)]) Vi_Mod_is Vs_Mod_is (hs.k k_136) rfl hf (fun q hq => t_Mod_is hs  hq) Y_Mod_is L_Mod_147 (by decide +kernel) rfl rfl (Nat.le_of_ble_eq_true rfl) (by decide) (Nat.le_refl _) (Nat.le_refl _) (fun q2 hf => ?_)
    refine x_ifb_eq (off := 10) (tgt := 23) hf (by decide +kernel) (by decide) (fun c3 hf => ?_) (fun c3 hf => ?_)
    · refine g_aload_n (i := 0) (by decide +kernel) rfl ?_
      refine g_iconst (z := 5) (v := 5) (by decide +kernel) rfl ?_
      refine x_callVBp (as := [.int (5 : Int32)]) Vi_Mod_is Vs_Mod_is (hs.k k_136) rfl hf (fun q hq => t_Mod_is hs  hq) Y_Mod_is L_Mod_147 (by decide +kernel) rfl rfl (Nat.le_of_ble_eq_true rfl) (by decide) (Nat.le_refl _) (Nat.le_refl _) (fun q4 hf => ?_)
      refine x_ifb_eq (off := 10) (tgt := 38) hf (by decide +kernel) (by decide) (fun c5 hf => ?_) (fun c5 hf => ?_)
      · refine g_aload_n (i := 0) (by decide +kernel) rfl ?_
        refine g_bipush (z := 11) (v := 11) (by decide +kernel) rfl ?_
        refine x_callVBp (as := [.int (11 : Int32)]) Vi_Mod_is Vs_Mod_is (hs.k k_136) rfl hf (fun q hq => t_Mod_is hs  hq) Y_Mod_is L_Mod_147 (by decide +kernel) rfl rfl (Nat.le_of_ble_eq_true rfl) (by decide) (Nat.le_refl _) (Nat.le_refl _) (fun q6 hf => ?_)
        refine x_ifb_ne (off := 12) (tgt := 56) hf (by decide +kernel) (by decide) (fun c7 hf => ?_) (fun c7 hf => ?_)
        · refine g_aload_n (i := 0) (by decide +kernel) rfl ?_
          refine g_aload_n (i := 0) (by decide +kernel) rfl ?_
          refine x_geti (hs.k k_136) F_Mod_123 (by decide +kernel) rfl ?_
          refine g_bipush (z := 11) (v := 11) (by decide +kernel) rfl ?_
          refine g_isub (by decide +kernel) ?_
          refine x_callVV (as := [.int ((h.2.1 136 9) - (11 : Int32))]) Vi_Mod_readLaw Vs_Mod_readLaw (hs.k k_136) rfl hf (fun q hq => t_Mod_readLaw hs  hq) Y_Mod_readLaw L_Mod_210 (by decide +kernel) rfl rfl (Nat.le_of_ble_eq_true rfl) (by decide) (Nat.le_refl _) (Nat.le_refl _) (fun q8 hf hs => ?_)
          refine g_goto (off := 60) (tgt := 127) (by decide +kernel) (by decide) ?_
          exact x_vret hf hs (by decide +kernel) rfl (Nat.le_refl _) (Nat.le_refl _)
        · refine g_aload_n (i := 0) (by decide +kernel) rfl ?_
          refine g_bipush (z := 12) (v := 12) (by decide +kernel) rfl ?_
          refine x_callVBp (as := [.int (12 : Int32)]) Vi_Mod_is Vs_Mod_is (hs.k k_136) rfl hf (fun q hq => t_Mod_is hs  hq) Y_Mod_is L_Mod_147 (by decide +kernel) rfl rfl (Nat.le_of_ble_eq_true rfl) (by decide) (Nat.le_refl _) (Nat.le_refl _) (fun q9 hf => ?_)
          refine x_ifb_eq (off := 17) (tgt := 70) hf (by decide +kernel) (by decide) (fun c10 hf => ?_) (fun c10 hf => ?_)
          · refine g_aload_n (i := 0) (by decide +kernel) rfl ?_
            refine g_bipush (z := 13) (v := 13) (by decide +kernel) rfl ?_
            refine x_callVB (as := [.int (13 : Int32)]) Vi_Mod_eats Vs_Mod_eats (hs.k k_136) rfl hf (fun q hq => t_Mod_eats hs  hq) Y_Mod_eats L_Mod_176 (by decide +kernel) rfl rfl (Nat.le_of_ble_eq_true rfl) (by decide) (Nat.le_refl _) (Nat.le_refl _) (fun q11 hf hs => ?_)
            refine x_ifb_eq (off := 19) (tgt := 95) hf (by decide +kernel) (by decide) (fun c12 hf => ?_) (fun c12 hf => ?_)
            · refine g_aload_n (i := 0) (by decide +kernel) rfl ?_
              refine g_bipush (z := 14) (v := 14) (by decide +kernel) rfl ?_
              refine x_callVB (as := [.int (14 : Int32)]) Vi_Mod_eats Vs_Mod_eats (hs.k k_136) rfl hf (fun q hq => t_Mod_eats hs  hq) Y_Mod_eats L_Mod_176 (by decide +kernel) rfl rfl (Nat.le_of_ble_eq_true rfl) (by decide) (Nat.le_refl _) (Nat.le_refl _) (fun q13 hf hs => ?_)
              refine x_ifb_eq (off := 21) (tgt := 122) hf (by decide +kernel) (by decide) (fun c14 hf => ?_) (fun c14 hf => ?_)
              · refine g_aload_n (i := 0) (by decide +kernel) rfl ?_
                refine g_iconst (z := 2) (v := 2) (by decide +kernel) rfl ?_
                refine x_callVV (as := [.int (2 : Int32)]) Vi_Mod_fails Vs_Mod_fails (hs.k k_136) rfl hf (fun q hq => t_Mod_fails hs  hq) Y_Mod_fails L_Mod_153 (by decide +kernel) rfl rfl (Nat.le_of_ble_eq_true rfl) (by decide) (Nat.le_refl _) (Nat.le_refl _) (fun q15 hf hs => ?_)
                exact x_vret hf hs (by decide +kernel) rfl (Nat.le_refl _) (Nat.le_refl _)
              · refine g_aload_n (i := 0) (by decide +kernel) rfl ?_
                refine x_getr (hs.k k_136) F_Mod_24 (by decide +kernel) rfl (hs.r r_136_4) ?_
                refine g_bipush (z := 26) (v := 26) (by decide +kernel) rfl ?_
                refine g_aload_n (i := 0) (by decide +kernel) rfl ?_
                refine g_iconst (z := 0) (v := 0) (by decide +kernel) rfl ?_
                refine g_sipush (z := 999) (v := 999) (by decide +kernel) rfl ?_
                refine x_callVI (as := [.int (0 : Int32), .int (999 : Int32)]) Vi_Mod_takes Vs_Mod_takes (hs.k k_136) rfl hf (fun q hq => t_Mod_takes hs  hq) Y_Mod_takes L_Mod_194 (by decide +kernel) rfl rfl (Nat.le_of_ble_eq_true rfl) (by decide) (Nat.le_refl _) (Nat.le_refl _) (fun q16 hf hs => ?_)
                refine x_iast hf hs (hs.k k_140) (by decide +kernel) (fun h17 hf hs => ?_)
                refine g_goto (off := 8) (tgt := 127) (by decide +kernel) (by decide) ?_
                exact x_vret hf hs (by decide +kernel) rfl (Nat.le_refl _) (Nat.le_refl _)
            · refine g_aload_n (i := 0) (by decide +kernel) rfl ?_
              refine x_getr (hs.k k_136) F_Mod_24 (by decide +kernel) rfl (hs.r r_136_4) ?_
              refine g_iconst (z := 4) (v := 4) (by decide +kernel) rfl ?_
              refine g_aload_n (i := 0) (by decide +kernel) rfl ?_
              refine g_iconst (z := 0) (v := 0) (by decide +kernel) rfl ?_
              refine g_bipush (z := 10) (v := 10) (by decide +kernel) rfl ?_
              refine x_callVI (as := [.int (0 : Int32), .int (10 : Int32)]) Vi_Mod_takes Vs_Mod_takes (hs.k k_136) rfl hf (fun q hq => t_Mod_takes hs  hq) Y_Mod_takes L_Mod_194 (by decide +kernel) rfl rfl (Nat.le_of_ble_eq_true rfl) (by decide) (Nat.le_refl _) (Nat.le_refl _) (fun q18 hf hs => ?_)
              refine x_iast hf hs (hs.k k_140) (by decide +kernel) (fun h19 hf hs => ?_)
              refine g_goto (off := 35) (tgt := 127) (by decide +kernel) (by decide) ?_
              exact x_vret hf hs (by decide +kernel) rfl (Nat.le_refl _) (Nat.le_refl _)
          · refine g_aload_n (i := 0) (by decide +kernel) rfl ?_
            refine g_aload_n (i := 0) (by decide +kernel) rfl ?_
            refine x_geti (hs.k k_136) F_Mod_123 (by decide +kernel) rfl ?_
            refine g_bipush (z := 11) (v := 11) (by decide +kernel) rfl ?_
            refine g_isub (by decide +kernel) ?_
            refine x_callVV (as := [.int ((h.2.1 136 9) - (11 : Int32))]) Vi_Mod_readLaw Vs_Mod_readLaw (hs.k k_136) rfl hf (fun q hq => t_Mod_readLaw hs  hq) Y_Mod_readLaw L_Mod_210 (by decide +kernel) rfl rfl (Nat.le_of_ble_eq_true rfl) (by decide) (Nat.le_refl _) (Nat.le_refl _) (fun q20 hf hs => ?_)
            refine g_goto (off := 60) (tgt := 127) (by decide +kernel) (by decide) ?_
            exact x_vret hf hs (by decide +kernel) rfl (Nat.le_refl _) (Nat.le_refl _)
      · refine g_aload_n (i := 0) (by decide +kernel) rfl ?_
        refine x_callVV (as := []) Vi_Mod_readPerson Vs_Mod_readPerson (hs.k k_136) rfl hf (fun q hq => t_Mod_readPerson hs  hq) Y_Mod_readPerson L_Mod_207 (by decide +kernel) rfl rfl (Nat.le_of_ble_eq_true rfl) (by decide) (Nat.le_refl _) (Nat.le_refl _) (fun q21 hf hs => ?_)
        refine g_goto (off := 92) (tgt := 127) (by decide +kernel) (by decide) ?_
        exact x_vret hf hs (by decide +kernel) rfl (Nat.le_refl _) (Nat.le_refl _)
    · refine g_aload_n (i := 0) (by decide +kernel) rfl ?_
      refine x_callVV (as := []) Vi_Mod_readSpan Vs_Mod_readSpan (hs.k k_136) rfl hf (fun q hq => t_Mod_readSpan hs  hq) Y_Mod_readSpan L_Mod_204 (by decide +kernel) rfl rfl (Nat.le_of_ble_eq_true rfl) (by decide) (Nat.le_refl _) (Nat.le_refl _) (fun q22 hf hs => ?_)
      refine g_goto (off := 107) (tgt := 127) (by decide +kernel) (by decide) ?_
      exact x_vret hf hs (by decide +kernel) rfl (Nat.le_refl _) (Nat.le_refl _)
  · exact x_vret hf hs (by decide +kernel) rfl (Nat.le_refl _) (Nat.le_refl _)
def f_Mod_ends  (h : am_H) : Option (am_H) :=
  (f_Mod_eats (30 : Int32) h).bind fun q1 =>
  ((if q1.1 = true then
      some q1.2
    else
      (f_Mod_fails (2 : Int32) q1.2).bind fun q3 =>
      some q3) : Option (am_H)).bind fun m4 =>
  (am_rd (m4.2.1 140) 1137 (0 : Int32)).bind fun x5 =>
  (am_wr m4 140 1137 (0 : Int32) (x5 + (1 : Int32))).bind fun h6 =>
  some h6
set_option maxRecDepth 100000 in
set_option maxHeartbeats 4000000 in
theorem t_Mod_ends  {h : am_H} (hs : am_Sh h)  {r : am_H} (hf : f_Mod_ends  h = some r) : am_Ct 7 M_Mod_ends [.ref 136] h 0 0 (am_qV r) := by
  unfold f_Mod_ends at hf
  refine am_Ct.of (by decide) rfl (Nat.le_of_ble_eq_true rfl) (ls := [(0, .ref 136)]) rfl ?_
  refine g_aload_n (i := 0) (by decide +kernel) rfl ?_
  refine g_bipush (z := 30) (v := 30) (by decide +kernel) rfl ?_
  refine x_callVB (as := [.int (30 : Int32)]) Vi_Mod_eats Vs_Mod_eats (hs.k k_136) rfl hf (fun q hq => t_Mod_eats hs  hq) Y_Mod_eats L_Mod_176 (by decide +kernel) rfl rfl (Nat.le_of_ble_eq_true rfl) (by decide) (Nat.le_refl _) (Nat.le_refl _) (fun q1 hf hs => ?_)
  obtain ⟨m4, hm14, hf⟩ := Option.bind_eq_some_iff.mp hf
  refine am_cutS (J := 14) (ls' := [(0, .ref 136)]) (st' := []) (h' := m4) (fun hs => ?_) (fun K14 => ?_)
  · refine g_aload_n (i := 0) (by decide +kernel) rfl ?_
    refine x_getr (hs.k k_136) F_Mod_24 (by decide +kernel) rfl (hs.r r_136_4) ?_
    refine g_iconst (z := 0) (v := 0) (by decide +kernel) rfl ?_
    refine g_dup2_11 (by decide +kernel) rfl rfl ?_
    refine x_iald hf (hs.k k_140) (by decide +kernel) (fun x5 hf => ?_)
    refine g_iconst (z := 1) (v := 1) (by decide +kernel) rfl ?_
    refine g_iadd (by decide +kernel) ?_
    refine x_iast hf hs (hs.k k_140) (by decide +kernel) (fun h6 hf hs => ?_)
    exact x_vret hf hs (by decide +kernel) rfl (Nat.le_refl _) (Nat.le_refl _)
  refine x_ifb_ne (off := 8) (tgt := 14) hm14 (by decide +kernel) (by decide) (fun c2 hm14 => ?_) (fun c2 hm14 => ?_)
  · cases hm14
    exact am_G.forget (am_subp [0] rfl) (K14 hs)
  · refine g_aload_n (i := 0) (by decide +kernel) rfl ?_
    refine g_iconst (z := 2) (v := 2) (by decide +kernel) rfl ?_
    refine x_callVV (as := [.int (2 : Int32)]) Vi_Mod_fails Vs_Mod_fails (hs.k k_136) rfl hm14 (fun q hq => t_Mod_fails hs  hq) Y_Mod_fails L_Mod_153 (by decide +kernel) rfl rfl (Nat.le_of_ble_eq_true rfl) (by decide) (Nat.le_refl _) (Nat.le_refl _) (fun q3 hm14 hs => ?_)
    cases hm14
    exact am_G.forget (am_subp [0] rfl) (K14 hs)
def f_Mod_doesErrands_L4  : Nat → Int32 → Int32 → am_H → Option (Int32 × Int32 × am_H)
  | 0, _, _, _ => none
  | n + 1, v1, v2, h =>
    (am_rd (h.2.1 137) 3411 (3 : Int32)).bind fun x1 =>
    (if x1 ≤ v2 then
      some (v1, v2, h)
    else
      (am_rd (h.2.1 137) 3411 (28 : Int32)).bind fun x3 =>
      (f_Mod_isIn ((x3).toInt64) v2 h).bind fun q4 =>
      (if q4 = true then
        f_Mod_doesErrands_L4  n v1 (v2 + (1 : Int32)) h
      else
        (am_rd (h.2.1 137) 3411 ((16 : Int32) + v2)).bind fun x6 =>
        (am_rd (h.2.1 137) 3411 ((35 : Int32) + v2)).bind fun x7 =>
        (if x6 = x7 then
          (am_rd (h.2.1 137) 3411 (26 : Int32)).bind fun x9 =>
          (am_rd (h.2.1 137) 3411 ((21 : Int32) + v2)).bind fun x10 =>
          (if x9 ≤ x10 then
            (am_rd (h.2.1 137) 3411 (28 : Int32)).bind fun x12 =>
            (am_wr h 137 3411 (28 : Int32) (x12 ||| ((1 : Int32) <<< (v2 &&& 31)))).bind fun h13 =>
            f_Mod_doesErrands_L4  n (v1 + (1 : Int32)) (v2 + (1 : Int32)) h13
          else
            f_Mod_doesErrands_L4  n v1 (v2 + (1 : Int32)) h)
        else
          f_Mod_doesErrands_L4  n v1 (v2 + (1 : Int32)) h)))
set_option maxRecDepth 100000 in
set_option maxHeartbeats 4000000 in
theorem t_Mod_doesErrands_L4   {Q : Option Value → am_H → Prop} : ∀ (n : Nat) (v1 : Int32) (v2 : Int32) (h : am_H) (q : Int32 × Int32 × am_H), am_Sh h → f_Mod_doesErrands_L4  n v1 v2 h = some q → (am_Sh q.2.2 → am_G 1 M_Mod_doesErrands 0 0 Q 94 [(0, .ref 136), (1, .int q.1), (2, .int q.2.1)] [] q.2.2 0 0) → am_G 1 M_Mod_doesErrands 0 0 Q 4 [(0, .ref 136), (1, .int v1), (2, .int v2)] [] h 0 0 := by
  intro n
  induction n with
  | zero =>
    intro v1 v2 h q hs hf kont
    rw [f_Mod_doesErrands_L4] at hf
    cases hf
  | succ n ih =>
    intro v1 v2 h q hs hf kont
    rw [f_Mod_doesErrands_L4] at hf
    refine g_iload_n (i := 2) (by decide +kernel) rfl ?_
    refine g_aload_n (i := 0) (by decide +kernel) rfl ?_
    refine x_getr (hs.k k_136) F_Mod_13 (by decide +kernel) rfl (hs.r r_136_1) ?_
    refine g_iconst (z := 3) (v := 3) (by decide +kernel) rfl ?_
    refine x_iald hf (hs.k k_137) (by decide +kernel) (fun x1 hf => ?_)
    refine x_icmp_ge (off := 83) (tgt := 94) hf (by decide +kernel) (by decide) (fun c2 hf => ?_) (fun c2 hf => ?_)
    · cases hf
      exact am_G.forget (am_subp [0, 1, 2] rfl) (kont hs)
    · refine g_aload_n (i := 0) (by decide +kernel) rfl ?_
      refine x_getr (hs.k k_136) F_Mod_13 (by decide +kernel) rfl (hs.r r_136_1) ?_
      refine g_bipush (z := 28) (v := 28) (by decide +kernel) rfl ?_
      refine x_iald hf (hs.k k_137) (by decide +kernel) (fun x3 hf => ?_)
      refine g_i2l (by decide +kernel) ?_
      refine g_iload_n (i := 2) (by decide +kernel) rfl ?_
      refine x_callSBp (as := [.long ((x3).toInt64), .int v2]) St_Mod_isIn hf (fun q hq => t_Mod_isIn hs  hq) Y_Mod_isIn L_Mod_260 (by decide +kernel) rfl rfl (Nat.le_of_ble_eq_true rfl) (by decide) (Nat.le_refl _) (Nat.le_refl _) (fun q4 hf => ?_)
      refine x_ifb_ne (off := 62) (tgt := 88) hf (by decide +kernel) (by decide) (fun c5 hf => ?_) (fun c5 hf => ?_)
      · refine g_iinc (i := 2) (z := 1) (v := (v2 + (1 : Int32))) (by decide +kernel) rfl rfl rfl (by decide) (ls1 := [(0, .ref 136), (1, .int v1), (2, .int (v2 + (1 : Int32)))]) rfl ?_
        refine g_goto (off := (-87)) (tgt := 4) (by decide +kernel) (by decide) ?_
        exact am_G.forget (am_subp [0, 1, 2] rfl) (ih _ _ _ _ hs hf kont)
      · refine g_aload_n (i := 0) (by decide +kernel) rfl ?_
        refine x_getr (hs.k k_136) F_Mod_13 (by decide +kernel) rfl (hs.r r_136_1) ?_
        refine g_bipush (z := 16) (v := 16) (by decide +kernel) rfl ?_
        refine g_iload_n (i := 2) (by decide +kernel) rfl ?_
        refine g_iadd (by decide +kernel) ?_
        refine x_iald hf (hs.k k_137) (by decide +kernel) (fun x6 hf => ?_)
        refine g_aload_n (i := 0) (by decide +kernel) rfl ?_
        refine x_getr (hs.k k_136) F_Mod_13 (by decide +kernel) rfl (hs.r r_136_1) ?_
        refine g_bipush (z := 35) (v := 35) (by decide +kernel) rfl ?_
        refine g_iload_n (i := 2) (by decide +kernel) rfl ?_
        refine g_iadd (by decide +kernel) ?_
        refine x_iald hf (hs.k k_137) (by decide +kernel) (fun x7 hf => ?_)
        refine x_icmp_ne (off := 41) (tgt := 88) hf (by decide +kernel) (by decide) (fun c8 hf => ?_) (fun c8 hf => ?_)
        · refine g_iinc (i := 2) (z := 1) (v := (v2 + (1 : Int32))) (by decide +kernel) rfl rfl rfl (by decide) (ls1 := [(0, .ref 136), (1, .int v1), (2, .int (v2 + (1 : Int32)))]) rfl ?_
          refine g_goto (off := (-87)) (tgt := 4) (by decide +kernel) (by decide) ?_
          exact am_G.forget (am_subp [0, 1, 2] rfl) (ih _ _ _ _ hs hf kont)
        · refine g_aload_n (i := 0) (by decide +kernel) rfl ?_
          refine x_getr (hs.k k_136) F_Mod_13 (by decide +kernel) rfl (hs.r r_136_1) ?_
          refine g_bipush (z := 26) (v := 26) (by decide +kernel) rfl ?_
          refine x_iald hf (hs.k k_137) (by decide +kernel) (fun x9 hf => ?_)
          refine g_aload_n (i := 0) (by decide +kernel) rfl ?_
          refine x_getr (hs.k k_136) F_Mod_13 (by decide +kernel) rfl (hs.r r_136_1) ?_
          refine g_bipush (z := 21) (v := 21) (by decide +kernel) rfl ?_
          refine g_iload_n (i := 2) (by decide +kernel) rfl ?_
          refine g_iadd (by decide +kernel) ?_
          refine x_iald hf (hs.k k_137) (by decide +kernel) (fun x10 hf => ?_)
          refine x_icmp_le (off := 6) (tgt := 72) hf (by decide +kernel) (by decide) (fun c11 hf => ?_) (fun c11 hf => ?_)
          · refine g_aload_n (i := 0) (by decide +kernel) rfl ?_
            refine x_getr (hs.k k_136) F_Mod_13 (by decide +kernel) rfl (hs.r r_136_1) ?_
            refine g_bipush (z := 28) (v := 28) (by decide +kernel) rfl ?_
            refine g_dup2_11 (by decide +kernel) rfl rfl ?_
            refine x_iald hf (hs.k k_137) (by decide +kernel) (fun x12 hf => ?_)
            refine g_iconst (z := 1) (v := 1) (by decide +kernel) rfl ?_
            refine g_iload_n (i := 2) (by decide +kernel) rfl ?_
            refine g_ishl (by decide +kernel) ?_
            refine g_ior (by decide +kernel) ?_
            refine x_iast hf hs (hs.k k_137) (by decide +kernel) (fun h13 hf hs => ?_)
            refine g_iinc (i := 1) (z := 1) (v := (v1 + (1 : Int32))) (by decide +kernel) rfl rfl rfl (by decide) (ls1 := [(0, .ref 136), (1, .int (v1 + (1 : Int32))), (2, .int v2)]) rfl ?_
            refine g_iinc (i := 2) (z := 1) (v := (v2 + (1 : Int32))) (by decide +kernel) rfl rfl rfl (by decide) (ls1 := [(0, .ref 136), (1, .int (v1 + (1 : Int32))), (2, .int (v2 + (1 : Int32)))]) rfl ?_
            refine g_goto (off := (-87)) (tgt := 4) (by decide +kernel) (by decide) ?_
            exact am_G.forget (am_subp [0, 1, 2] rfl) (ih _ _ _ _ hs hf kont)
          · refine g_goto (off := 19) (tgt := 88) (by decide +kernel) (by decide) ?_
            refine g_iinc (i := 2) (z := 1) (v := (v2 + (1 : Int32))) (by decide +kernel) rfl rfl rfl (by decide) (ls1 := [(0, .ref 136), (1, .int v1), (2, .int (v2 + (1 : Int32)))]) rfl ?_
            refine g_goto (off := (-87)) (tgt := 4) (by decide +kernel) (by decide) ?_
            exact am_G.forget (am_subp [0, 1, 2] rfl) (ih _ _ _ _ hs hf kont)
def f_Mod_doesErrands  (h : am_H) : Option (Int32 × am_H) :=
  (f_Mod_doesErrands_L4  am_fu (0 : Int32) (0 : Int32) h).bind fun q14 =>
  some (q14.1, q14.2.2)
set_option maxRecDepth 100000 in
set_option maxHeartbeats 4000000 in
theorem t_Mod_doesErrands  {h : am_H} (hs : am_Sh h)  {r : Int32 × am_H} (hf : f_Mod_doesErrands  h = some r) : am_Ct 1 M_Mod_doesErrands [.ref 136] h 0 0 (am_qI r) := by
  unfold f_Mod_doesErrands at hf
  refine am_Ct.of (by decide) rfl (Nat.le_of_ble_eq_true rfl) (ls := [(0, .ref 136)]) rfl ?_
  refine g_iconst (z := 0) (v := 0) (by decide +kernel) rfl ?_
  refine g_istore_n (i := 1) (by decide +kernel) rfl (by decide) (ls1 := [(0, .ref 136), (1, .int (0 : Int32))]) rfl ?_
  refine g_iconst (z := 0) (v := 0) (by decide +kernel) rfl ?_
  refine g_istore_n (i := 2) (by decide +kernel) rfl (by decide) (ls1 := [(0, .ref 136), (1, .int (0 : Int32)), (2, .int (0 : Int32))]) rfl ?_
  obtain ⟨q14, hqq14, hf⟩ := Option.bind_eq_some_iff.mp hf
  refine am_G.forget (am_subp [0, 1, 2] rfl) (t_Mod_doesErrands_L4  am_fu _ _ _ q14 hs hqq14 (fun hs => ?_))
  refine g_iload_n (i := 1) (by decide +kernel) rfl ?_
  exact x_iret hf hs (by decide +kernel) rfl (Nat.le_refl _) (Nat.le_refl _)
def f_Mod_river_L108 (p1 : Int32) : Nat → am_H → Option (am_H)
  | 0, _ => none
  | n + 1, h =>
    (if (h.2.1 136 11) = 0 then
      (if (h.2.1 136 9) = (24 : Int32) then
        some h
      else
        (f_Mod_readLine  h).bind fun q25 =>
        (f_Mod_ends  q25).bind fun q26 =>
        f_Mod_river_L108 p1 n  q26)
    else
      some h)
set_option maxRecDepth 100000 in
set_option maxHeartbeats 4000000 in
theorem t_Mod_river_L108 {p1 : Int32}  {Q : Option Value → am_H → Prop} : ∀ (n : Nat)  (h : am_H) (q : am_H), am_Sh h → f_Mod_river_L108 p1 n  h = some q → (am_Sh q → am_G 70 M_Mod_river 0 0 Q 135 [(0, .ref 136), (1, .int p1)] [] q 0 0) → am_G 70 M_Mod_river 0 0 Q 108 [(0, .ref 136), (1, .int p1)] [] h 0 0 := by
  intro n
  induction n with
  | zero =>
    intro  h q hs hf kont
    rw [f_Mod_river_L108] at hf
    cases hf
  | succ n ih =>
    intro  h q hs hf kont
    rw [f_Mod_river_L108] at hf
    refine g_aload_n (i := 0) (by decide +kernel) rfl ?_
    refine x_geti (hs.k k_136) F_Mod_141 (by decide +kernel) rfl ?_
    refine x_if_ne (off := 23) (tgt := 135) hf (by decide +kernel) (by decide) (fun c23 hf => ?_) (fun c23 hf => ?_)
    · cases hf
      exact am_G.forget (am_subp [0, 1] rfl) (kont hs)
    · refine g_aload_n (i := 0) (by decide +kernel) rfl ?_
      refine x_geti (hs.k k_136) F_Mod_123 (by decide +kernel) rfl ?_
      refine g_bipush (z := 24) (v := 24) (by decide +kernel) rfl ?_
      refine x_icmp_eq (off := 14) (tgt := 135) hf (by decide +kernel) (by decide) (fun c24 hf => ?_) (fun c24 hf => ?_)
      · cases hf
        exact am_G.forget (am_subp [0, 1] rfl) (kont hs)
      · refine g_aload_n (i := 0) (by decide +kernel) rfl ?_
        refine x_callVV (as := []) Vi_Mod_readLine Vs_Mod_readLine (hs.k k_136) rfl hf (fun q hq => t_Mod_readLine hs  hq) Y_Mod_readLine L_Mod_216 (by decide +kernel) rfl rfl (Nat.le_of_ble_eq_true rfl) (by decide) (Nat.le_refl _) (Nat.le_refl _) (fun q25 hf hs => ?_)
        refine g_aload_n (i := 0) (by decide +kernel) rfl ?_
        refine x_callVV (as := []) Vi_Mod_ends Vs_Mod_ends (hs.k k_136) rfl hf (fun q hq => t_Mod_ends hs  hq) Y_Mod_ends L_Mod_213 (by decide +kernel) rfl rfl (Nat.le_of_ble_eq_true rfl) (by decide) (Nat.le_refl _) (Nat.le_refl _) (fun q26 hf hs => ?_)
        refine g_goto (off := (-24)) (tgt := 108) (by decide +kernel) (by decide) ?_
        exact am_G.forget (am_subp [0, 1] rfl) (ih  _ _ hs hf kont)
def f_Mod_river_L179 (p1 : Int32) : Nat → Int32 → am_H → Option (Int32 × am_H)
  | 0, _, _ => none
  | n + 1, v2, h =>
    (if (1137 : Int32) ≤ v2 then
      some (v2, h)
    else
      (am_rd (h.2.1 140) 1137 v2).bind fun x33 =>
      (am_wr h 137 3411 v2 x33).bind fun h34 =>
      f_Mod_river_L179 p1 n (v2 + (1 : Int32)) h34)
set_option maxRecDepth 100000 in
set_option maxHeartbeats 4000000 in
theorem t_Mod_river_L179 {p1 : Int32}  {Q : Option Value → am_H → Prop} : ∀ (n : Nat) (v2 : Int32) (h : am_H) (q : Int32 × am_H), am_Sh h → f_Mod_river_L179 p1 n v2 h = some q → (am_Sh q.2 → am_G 70 M_Mod_river 0 0 Q 204 [(0, .ref 136), (1, .int p1), (2, .int q.1)] [] q.2 0 0) → am_G 70 M_Mod_river 0 0 Q 179 [(0, .ref 136), (1, .int p1), (2, .int v2)] [] h 0 0 := by
  intro n
  induction n with
  | zero =>
    intro v2 h q hs hf kont
    rw [f_Mod_river_L179] at hf
    cases hf
  | succ n ih =>
    intro v2 h q hs hf kont
    rw [f_Mod_river_L179] at hf
    refine g_iload_n (i := 2) (by decide +kernel) rfl ?_
    refine g_sipush (z := 1137) (v := 1137) (by decide +kernel) rfl ?_
    refine x_icmp_ge (off := 21) (tgt := 204) hf (by decide +kernel) (by decide) (fun c32 hf => ?_) (fun c32 hf => ?_)
    · cases hf
      exact am_G.forget (am_subp [0, 1, 2] rfl) (kont hs)
    · refine g_aload_n (i := 0) (by decide +kernel) rfl ?_
      refine x_getr (hs.k k_136) F_Mod_13 (by decide +kernel) rfl (hs.r r_136_1) ?_
      refine g_iload_n (i := 2) (by decide +kernel) rfl ?_
      refine g_aload_n (i := 0) (by decide +kernel) rfl ?_
      refine x_getr (hs.k k_136) F_Mod_24 (by decide +kernel) rfl (hs.r r_136_4) ?_
      refine g_iload_n (i := 2) (by decide +kernel) rfl ?_
      refine x_iald hf (hs.k k_140) (by decide +kernel) (fun x33 hf => ?_)
      refine x_iast hf hs (hs.k k_137) (by decide +kernel) (fun h34 hf hs => ?_)
      refine g_iinc (i := 2) (z := 1) (v := (v2 + (1 : Int32))) (by decide +kernel) rfl rfl rfl (by decide) (ls1 := [(0, .ref 136), (1, .int p1), (2, .int (v2 + (1 : Int32)))]) rfl ?_
      refine g_goto (off := (-22)) (tgt := 179) (by decide +kernel) (by decide) ?_
      exact am_G.forget (am_subp [0, 1, 2] rfl) (ih _ _ _ hs hf kont)
def f_Mod_river (p1 : Int32) (h : am_H) : Option (Int32 × am_H) :=
  am_let (am_sI h 136 0 (0 : Int32)) fun h1 =>
  (f_Mod_within ((p1).toInt64) (0 : Int64) (((h1.2.1 136 5)).toInt64) h1).bind fun q2 =>
  (if q2 = true then
    am_let (am_sI h1 136 8 p1) fun h4 =>
    am_let (am_sI h4 136 5 (0 : Int32)) fun h5 =>
    am_let (am_sI h5 136 7 (0 : Int32)) fun h6 =>
    am_let (am_sI h6 136 11 (0 : Int32)) fun h7 =>
    (f_Mod_plain 140 1137 h7).bind fun q8 =>
    (f_Mod_next  q8).bind fun q9 =>
    (f_Mod_eats (0 : Int32) q9).bind fun q10 =>
    ((if q10.1 = true then
        some q10.2
      else
        (f_Mod_fails (2 : Int32) q10.2).bind fun q12 =>
        some q12) : Option (am_H)).bind fun m13 =>
    (f_Mod_takes (2 : Int32) (4 : Int32) m13).bind fun q14 =>
    (am_wr q14.2 140 1137 (1 : Int32) q14.1).bind fun h15 =>
    (f_Mod_eats (1 : Int32) h15).bind fun q16 =>
    ((if q16.1 = true then
        some q16.2
      else
        (f_Mod_fails (2 : Int32) q16.2).bind fun q18 =>
        some q18) : Option (am_H)).bind fun m19 =>
    (f_Mod_takes (1 : Int32) (6 : Int32) m19).bind fun q20 =>
    (am_wr q20.2 140 1137 (2 : Int32) q20.1).bind fun h21 =>
    (f_Mod_ends  h21).bind fun q22 =>
    (f_Mod_river_L108 p1 am_fu  q22).bind fun q27 =>
    am_let (am_sI q27 136 13 (q27.2.1 136 11)) fun h28 =>
    am_let (am_sI h28 136 14 (if (h28.2.1 136 11) = 0 then (-1 : Int32) else (h28.2.1 136 12))) fun h30 =>
    (if (h30.2.1 136 11) = 0 then
      (f_Mod_river_L179 p1 am_fu (0 : Int32) h30).bind fun q35 =>
      (f_Mod_doesErrands  q35.2).bind fun q36 =>
      (am_rd (q36.2.2.1 137) 3411 (0 : Int32)).bind fun x37 =>
      some (x37, q36.2)
    else
      some (((-30 : Int32) - (h30.2.1 136 11)), h30))
  else
    some ((-3 : Int32), h1))
set_option maxRecDepth 100000 in
set_option maxHeartbeats 4000000 in
theorem t_Mod_river {p1 : Int32} {h : am_H} (hs : am_Sh h)  {r : Int32 × am_H} (hf : f_Mod_river p1 h = some r) : am_Ct 70 M_Mod_river [.ref 136, .int p1] h 0 0 (am_qI r) := by
  unfold f_Mod_river at hf
  refine am_Ct.of (by decide) rfl (Nat.le_of_ble_eq_true rfl) (ls := [(0, .ref 136), (1, .int p1)]) rfl ?_
  refine g_aload_n (i := 0) (by decide +kernel) rfl ?_
  refine g_iconst (z := 0) (v := 0) (by decide +kernel) rfl ?_
  refine x_puti hf hs (hs.k k_136) F_Mod_1 (by decide +kernel) rfl rfl rfl rfl (fun h1 hf hs => ?_)
  refine g_iload_n (i := 1) (by decide +kernel) rfl ?_
  refine g_i2l (by decide +kernel) ?_
  refine g_lconst (z := 0) (v := 0) (by decide +kernel) rfl ?_
  refine g_aload_n (i := 0) (by decide +kernel) rfl ?_
  refine x_geti (hs.k k_136) F_Mod_95 (by decide +kernel) rfl ?_
  refine g_i2l (by decide +kernel) ?_
  refine x_callSBp (as := [.long ((p1).toInt64), .long (0 : Int64), .long (((h1.2.1 136 5)).toInt64)]) St_Mod_within hf (fun q hq => t_Mod_within hs  hq) Y_Mod_within L_Mod_157 (by decide +kernel) rfl rfl (Nat.le_of_ble_eq_true rfl) (by decide) (Nat.le_refl _) (Nat.le_refl _) (fun q2 hf => ?_)
  refine x_ifb_ne (off := 6) (tgt := 22) hf (by decide +kernel) (by decide) (fun c3 hf => ?_) (fun c3 hf => ?_)
  · refine g_aload_n (i := 0) (by decide +kernel) rfl ?_
    refine g_iload_n (i := 1) (by decide +kernel) rfl ?_
    refine x_puti hf hs (hs.k k_136) F_Mod_98 (by decide +kernel) rfl rfl rfl rfl (fun h4 hf hs => ?_)
    refine g_aload_n (i := 0) (by decide +kernel) rfl ?_
    refine g_iconst (z := 0) (v := 0) (by decide +kernel) rfl ?_
    refine x_puti hf hs (hs.k k_136) F_Mod_95 (by decide +kernel) rfl rfl rfl rfl (fun h5 hf hs => ?_)
    refine g_aload_n (i := 0) (by decide +kernel) rfl ?_
    refine g_iconst (z := 0) (v := 0) (by decide +kernel) rfl ?_
    refine x_puti hf hs (hs.k k_136) F_Mod_116 (by decide +kernel) rfl rfl rfl rfl (fun h6 hf hs => ?_)
    refine g_aload_n (i := 0) (by decide +kernel) rfl ?_
    refine g_iconst (z := 0) (v := 0) (by decide +kernel) rfl ?_
    refine x_puti hf hs (hs.k k_136) F_Mod_141 (by decide +kernel) rfl rfl rfl rfl (fun h7 hf hs => ?_)
    refine g_aload_n (i := 0) (by decide +kernel) rfl ?_
    refine x_getr (hs.k k_136) F_Mod_24 (by decide +kernel) rfl (hs.r r_136_4) ?_
    refine x_callSV (as := [.ref 140]) St_Mod_plain hf (fun q hq => t_Mod_plain hs k_140 hq) Y_Mod_plain L_Mod_91 (by decide +kernel) rfl rfl (Nat.le_of_ble_eq_true rfl) (by decide) (Nat.le_refl _) (Nat.le_refl _) (fun q8 hf hs => ?_)
    refine g_aload_n (i := 0) (by decide +kernel) rfl ?_
    refine x_callVV (as := []) Vi_Mod_next Vs_Mod_next (hs.k k_136) rfl hf (fun q hq => t_Mod_next hs  hq) Y_Mod_next L_Mod_150 (by decide +kernel) rfl rfl (Nat.le_of_ble_eq_true rfl) (by decide) (Nat.le_refl _) (Nat.le_refl _) (fun q9 hf hs => ?_)
    refine g_aload_n (i := 0) (by decide +kernel) rfl ?_
    refine g_iconst (z := 0) (v := 0) (by decide +kernel) rfl ?_
    refine x_callVB (as := [.int (0 : Int32)]) Vi_Mod_eats Vs_Mod_eats (hs.k k_136) rfl hf (fun q hq => t_Mod_eats hs  hq) Y_Mod_eats L_Mod_176 (by decide +kernel) rfl rfl (Nat.le_of_ble_eq_true rfl) (by decide) (Nat.le_refl _) (Nat.le_refl _) (fun q10 hf hs => ?_)
    obtain ⟨m13, hm66, hf⟩ := Option.bind_eq_some_iff.mp hf
    refine am_cutS (J := 66) (ls' := [(0, .ref 136), (1, .int p1)]) (st' := []) (h' := m13) (fun hs => ?_) (fun K66 => ?_)
    · refine g_aload_n (i := 0) (by decide +kernel) rfl ?_
      refine x_getr (hs.k k_136) F_Mod_24 (by decide +kernel) rfl (hs.r r_136_4) ?_
      refine g_iconst (z := 1) (v := 1) (by decide +kernel) rfl ?_
      refine g_aload_n (i := 0) (by decide +kernel) rfl ?_
      refine g_iconst (z := 2) (v := 2) (by decide +kernel) rfl ?_
      refine g_iconst (z := 4) (v := 4) (by decide +kernel) rfl ?_
      refine x_callVI (as := [.int (2 : Int32), .int (4 : Int32)]) Vi_Mod_takes Vs_Mod_takes (hs.k k_136) rfl hf (fun q hq => t_Mod_takes hs  hq) Y_Mod_takes L_Mod_194 (by decide +kernel) rfl rfl (Nat.le_of_ble_eq_true rfl) (by decide) (Nat.le_refl _) (Nat.le_refl _) (fun q14 hf hs => ?_)
      refine x_iast hf hs (hs.k k_140) (by decide +kernel) (fun h15 hf hs => ?_)
      refine g_aload_n (i := 0) (by decide +kernel) rfl ?_
      refine g_iconst (z := 1) (v := 1) (by decide +kernel) rfl ?_
      refine x_callVB (as := [.int (1 : Int32)]) Vi_Mod_eats Vs_Mod_eats (hs.k k_136) rfl hf (fun q hq => t_Mod_eats hs  hq) Y_Mod_eats L_Mod_176 (by decide +kernel) rfl rfl (Nat.le_of_ble_eq_true rfl) (by decide) (Nat.le_refl _) (Nat.le_refl _) (fun q16 hf hs => ?_)
      obtain ⟨m19, hm91, hf⟩ := Option.bind_eq_some_iff.mp hf
      refine am_cutS (J := 91) (ls' := [(0, .ref 136), (1, .int p1)]) (st' := []) (h' := m19) (fun hs => ?_) (fun K91 => ?_)
      · refine g_aload_n (i := 0) (by decide +kernel) rfl ?_
        refine x_getr (hs.k k_136) F_Mod_24 (by decide +kernel) rfl (hs.r r_136_4) ?_
        refine g_iconst (z := 2) (v := 2) (by decide +kernel) rfl ?_
        refine g_aload_n (i := 0) (by decide +kernel) rfl ?_
        refine g_iconst (z := 1) (v := 1) (by decide +kernel) rfl ?_
        refine g_bipush (z := 6) (v := 6) (by decide +kernel) rfl ?_
        refine x_callVI (as := [.int (1 : Int32), .int (6 : Int32)]) Vi_Mod_takes Vs_Mod_takes (hs.k k_136) rfl hf (fun q hq => t_Mod_takes hs  hq) Y_Mod_takes L_Mod_194 (by decide +kernel) rfl rfl (Nat.le_of_ble_eq_true rfl) (by decide) (Nat.le_refl _) (Nat.le_refl _) (fun q20 hf hs => ?_)
        refine x_iast hf hs (hs.k k_140) (by decide +kernel) (fun h21 hf hs => ?_)
        refine g_aload_n (i := 0) (by decide +kernel) rfl ?_
        refine x_callVV (as := []) Vi_Mod_ends Vs_Mod_ends (hs.k k_136) rfl hf (fun q hq => t_Mod_ends hs  hq) Y_Mod_ends L_Mod_213 (by decide +kernel) rfl rfl (Nat.le_of_ble_eq_true rfl) (by decide) (Nat.le_refl _) (Nat.le_refl _) (fun q22 hf hs => ?_)
        obtain ⟨q27, hqq27, hf⟩ := Option.bind_eq_some_iff.mp hf
        refine am_G.forget (am_subp [0, 1] rfl) (t_Mod_river_L108  am_fu  _ q27 hs hqq27 (fun hs => ?_))
        refine g_aload_n (i := 0) (by decide +kernel) rfl ?_
        refine g_aload_n (i := 0) (by decide +kernel) rfl ?_
        refine x_geti (hs.k k_136) F_Mod_141 (by decide +kernel) rfl ?_
        refine x_puti hf hs (hs.k k_136) F_Mod_219 (by decide +kernel) rfl rfl rfl rfl (fun h28 hf hs => ?_)
        refine g_aload_n (i := 0) (by decide +kernel) rfl ?_
        refine g_aload_n (i := 0) (by decide +kernel) rfl ?_
        refine x_geti (hs.k k_136) F_Mod_141 (by decide +kernel) rfl ?_
        refine am_cut (J := 159) (ls' := [(0, .ref 136), (1, .int p1)]) (st' := [.int (if (h28.2.1 136 11) = 0 then (-1 : Int32) else (h28.2.1 136 12)), .ref 136]) ?_ (fun K159 => ?_)
        · refine x_puti hf hs (hs.k k_136) F_Mod_27 (by decide +kernel) rfl rfl rfl rfl (fun h30 hf hs => ?_)
          refine g_aload_n (i := 0) (by decide +kernel) rfl ?_
          refine x_geti (hs.k k_136) F_Mod_141 (by decide +kernel) rfl ?_
          refine x_if_eq (off := 11) (tgt := 177) hf (by decide +kernel) (by decide) (fun c31 hf => ?_) (fun c31 hf => ?_)
          · refine g_iconst (z := 0) (v := 0) (by decide +kernel) rfl ?_
            refine g_istore_n (i := 2) (by decide +kernel) rfl (by decide) (ls1 := [(0, .ref 136), (1, .int p1), (2, .int (0 : Int32))]) rfl ?_
            obtain ⟨q35, hqq35, hf⟩ := Option.bind_eq_some_iff.mp hf
            refine am_G.forget (am_subp [0, 1, 2] rfl) (t_Mod_river_L179  am_fu _ _ q35 hs hqq35 (fun hs => ?_))
            refine g_aload_n (i := 0) (by decide +kernel) rfl ?_
            refine x_callVI (as := []) Vi_Mod_doesErrands Vs_Mod_doesErrands (hs.k k_136) rfl hf (fun q hq => t_Mod_doesErrands hs  hq) Y_Mod_doesErrands L_Mod_222 (by decide +kernel) rfl rfl (Nat.le_of_ble_eq_true rfl) (by decide) (Nat.le_refl _) (Nat.le_refl _) (fun q36 hf hs => ?_)
            refine g_pop (by decide +kernel) rfl ?_
            refine g_aload_n (i := 0) (by decide +kernel) rfl ?_
            refine x_getr (hs.k k_136) F_Mod_13 (by decide +kernel) rfl (hs.r r_136_1) ?_
            refine g_iconst (z := 0) (v := 0) (by decide +kernel) rfl ?_
            refine x_iald hf (hs.k k_137) (by decide +kernel) (fun x37 hf => ?_)
            exact x_iret hf hs (by decide +kernel) rfl (Nat.le_refl _) (Nat.le_refl _)
          · refine g_bipush (z := (-30)) (v := (-30)) (by decide +kernel) rfl ?_
            refine g_aload_n (i := 0) (by decide +kernel) rfl ?_
            refine x_geti (hs.k k_136) F_Mod_141 (by decide +kernel) rfl ?_
            refine g_isub (by decide +kernel) ?_
            exact x_iret hf hs (by decide +kernel) rfl (Nat.le_refl _) (Nat.le_refl _)
        refine p_if_ne (off := 7) (tgt := 155) (by decide +kernel) (by decide) (fun c29 => ?_) (fun c29 => ?_)
        · refine g_aload_n (i := 0) (by decide +kernel) rfl ?_
          refine x_geti (hs.k k_136) F_Mod_144 (by decide +kernel) rfl ?_
          have K1 := K159
          simp only [if_neg c29] at K1
          exact am_G.forget (am_subp [0, 1] rfl) K1
        · refine g_iconst (z := (-1)) (v := (-1)) (by decide +kernel) rfl ?_
          refine g_goto (off := 7) (tgt := 159) (by decide +kernel) (by decide) ?_
          have K1 := K159
          simp only [if_pos c29] at K1
          exact am_G.forget (am_subp [0, 1] rfl) K1
      refine x_ifb_ne (off := 8) (tgt := 91) hm91 (by decide +kernel) (by decide) (fun c17 hm91 => ?_) (fun c17 hm91 => ?_)
      · cases hm91
        exact am_G.forget (am_subp [0, 1] rfl) (K91 hs)
      · refine g_aload_n (i := 0) (by decide +kernel) rfl ?_
        refine g_iconst (z := 2) (v := 2) (by decide +kernel) rfl ?_
        refine x_callVV (as := [.int (2 : Int32)]) Vi_Mod_fails Vs_Mod_fails (hs.k k_136) rfl hm91 (fun q hq => t_Mod_fails hs  hq) Y_Mod_fails L_Mod_153 (by decide +kernel) rfl rfl (Nat.le_of_ble_eq_true rfl) (by decide) (Nat.le_refl _) (Nat.le_refl _) (fun q18 hm91 hs => ?_)
        cases hm91
        exact am_G.forget (am_subp [0, 1] rfl) (K91 hs)
    refine x_ifb_ne (off := 8) (tgt := 66) hm66 (by decide +kernel) (by decide) (fun c11 hm66 => ?_) (fun c11 hm66 => ?_)
    · cases hm66
      exact am_G.forget (am_subp [0, 1] rfl) (K66 hs)
    · refine g_aload_n (i := 0) (by decide +kernel) rfl ?_
      refine g_iconst (z := 2) (v := 2) (by decide +kernel) rfl ?_
      refine x_callVV (as := [.int (2 : Int32)]) Vi_Mod_fails Vs_Mod_fails (hs.k k_136) rfl hm66 (fun q hq => t_Mod_fails hs  hq) Y_Mod_fails L_Mod_153 (by decide +kernel) rfl rfl (Nat.le_of_ble_eq_true rfl) (by decide) (Nat.le_refl _) (Nat.le_refl _) (fun q12 hm66 hs => ?_)
      cases hm66
      exact am_G.forget (am_subp [0, 1] rfl) (K66 hs)
  · refine g_bipush (z := (-3)) (v := (-3)) (by decide +kernel) rfl ?_
    exact x_iret hf hs (by decide +kernel) rfl (Nat.le_refl _) (Nat.le_refl _)
def f_Mod_fault (p1 : Int32) (h : am_H) : Option (Int32 × am_H) :=
  am_let (am_sI h 136 0 (0 : Int32)) fun h1 =>
  (if p1 = 0 then
    some ((h1.2.1 136 13), h1)
  else
    (if p1 = (1 : Int32) then
      some ((h1.2.1 136 14), h1)
    else
      some ((-1 : Int32), h1)))
set_option maxRecDepth 100000 in
set_option maxHeartbeats 4000000 in
theorem t_Mod_fault {p1 : Int32} {h : am_H} (hs : am_Sh h)  {r : Int32 × am_H} (hf : f_Mod_fault p1 h = some r) : am_Ct 0 M_Mod_fault [.ref 136, .int p1] h 0 0 (am_qI r) := by
  unfold f_Mod_fault at hf
  refine am_Ct.of (by decide) rfl (Nat.le_of_ble_eq_true rfl) (ls := [(0, .ref 136), (1, .int p1)]) rfl ?_
  refine g_aload_n (i := 0) (by decide +kernel) rfl ?_
  refine g_iconst (z := 0) (v := 0) (by decide +kernel) rfl ?_
  refine x_puti hf hs (hs.k k_136) F_Mod_1 (by decide +kernel) rfl rfl rfl rfl (fun h1 hf hs => ?_)
  refine g_iload_n (i := 1) (by decide +kernel) rfl ?_
  refine x_if_ne (off := 10) (tgt := 16) hf (by decide +kernel) (by decide) (fun c2 hf => ?_) (fun c2 hf => ?_)
  · refine g_iload_n (i := 1) (by decide +kernel) rfl ?_
    refine g_iconst (z := 1) (v := 1) (by decide +kernel) rfl ?_
    refine x_icmp_ne (off := 10) (tgt := 28) hf (by decide +kernel) (by decide) (fun c3 hf => ?_) (fun c3 hf => ?_)
    · refine g_iconst (z := (-1)) (v := (-1)) (by decide +kernel) rfl ?_
      exact x_iret hf hs (by decide +kernel) rfl (Nat.le_refl _) (Nat.le_refl _)
    · refine g_aload_n (i := 0) (by decide +kernel) rfl ?_
      refine x_geti (hs.k k_136) F_Mod_27 (by decide +kernel) rfl ?_
      refine g_goto (off := 4) (tgt := 29) (by decide +kernel) (by decide) ?_
      exact x_iret hf hs (by decide +kernel) rfl (Nat.le_refl _) (Nat.le_refl _)
  · refine g_aload_n (i := 0) (by decide +kernel) rfl ?_
    refine x_geti (hs.k k_136) F_Mod_219 (by decide +kernel) rfl ?_
    refine g_goto (off := 16) (tgt := 29) (by decide +kernel) (by decide) ?_
    exact x_iret hf hs (by decide +kernel) rfl (Nat.le_refl _) (Nat.le_refl _)
def f_Mod_isPerson (p1 : Int64) (h : am_H) : Option (Bool) :=
  (am_rd (h.2.1 137) 3411 (3 : Int32)).bind fun x1 =>
  (f_Mod_within p1 (0 : Int64) (((x1 - (1 : Int32))).toInt64) h).bind fun q2 =>
  some q2
set_option maxRecDepth 100000 in
set_option maxHeartbeats 4000000 in
theorem t_Mod_isPerson {p1 : Int64} {h : am_H} (hs : am_Sh h)  {r : Bool} (hf : f_Mod_isPerson p1 h = some r) : am_Ct 1 M_Mod_isPerson [.ref 136, .long p1] h 0 0 (am_pB h r) := by
  unfold f_Mod_isPerson at hf
  refine am_Ct.of (by decide) rfl (Nat.le_of_ble_eq_true rfl) (ls := [(0, .ref 136), (1, .long p1)]) rfl ?_
  refine g_lload_n (i := 1) (by decide +kernel) rfl ?_
  refine g_lconst (z := 0) (v := 0) (by decide +kernel) rfl ?_
  refine g_aload_n (i := 0) (by decide +kernel) rfl ?_
  refine x_getr (hs.k k_136) F_Mod_13 (by decide +kernel) rfl (hs.r r_136_1) ?_
  refine g_iconst (z := 3) (v := 3) (by decide +kernel) rfl ?_
  refine x_iald hf (hs.k k_137) (by decide +kernel) (fun x1 hf => ?_)
  refine g_iconst (z := 1) (v := 1) (by decide +kernel) rfl ?_
  refine g_isub (by decide +kernel) ?_
  refine g_i2l (by decide +kernel) ?_
  refine x_callSBp (as := [.long p1, .long (0 : Int64), .long (((x1 - (1 : Int32))).toInt64)]) St_Mod_within hf (fun q hq => t_Mod_within hs  hq) Y_Mod_within L_Mod_157 (by decide +kernel) rfl rfl (Nat.le_of_ble_eq_true rfl) (by decide) (Nat.le_refl _) (Nat.le_refl _) (fun q2 hf => ?_)
  exact x_zretp rfl hf (by decide +kernel) rfl (Nat.le_refl _) (Nat.le_refl _)
def f_Mod_isSpot (p1 : Int64) (h : am_H) : Option (Bool) :=
  (if (lg_cmp p1 (8 : Int64)) = 0 then
    some true
  else
    (am_rd (h.2.1 137) 3411 (1 : Int32)).bind fun x2 =>
    (f_Mod_within p1 (0 : Int64) (((((2 : Int32) * x2) - (1 : Int32))).toInt64) h).bind fun q3 =>
    (if q3 = true then
      some true
    else
      some false))
set_option maxRecDepth 100000 in
set_option maxHeartbeats 4000000 in
theorem t_Mod_isSpot {p1 : Int64} {h : am_H} (hs : am_Sh h)  {r : Bool} (hf : f_Mod_isSpot p1 h = some r) : am_Ct 1 M_Mod_isSpot [.ref 136, .long p1] h 0 0 (am_pB h r) := by
  unfold f_Mod_isSpot at hf
  refine am_Ct.of (by decide) rfl (Nat.le_of_ble_eq_true rfl) (ls := [(0, .ref 136), (1, .long p1)]) rfl ?_
  refine g_lload_n (i := 1) (by decide +kernel) rfl ?_
  refine g_ldc2 (by decide +kernel) C_Mod_225 ?_
  refine g_lcmp (by decide +kernel) ?_
  refine x_if_eq (off := 22) (tgt := 27) hf (by decide +kernel) (by decide) (fun c1 hf => ?_) (fun c1 hf => ?_)
  · refine g_iconst (z := 1) (v := 1) (by decide +kernel) rfl ?_
    refine g_goto (off := 4) (tgt := 32) (by decide +kernel) (by decide) ?_
    exact x_zretp rfl hf (by decide +kernel) rfl (Nat.le_refl _) (Nat.le_refl _)
  · refine g_lload_n (i := 1) (by decide +kernel) rfl ?_
    refine g_lconst (z := 0) (v := 0) (by decide +kernel) rfl ?_
    refine g_iconst (z := 2) (v := 2) (by decide +kernel) rfl ?_
    refine g_aload_n (i := 0) (by decide +kernel) rfl ?_
    refine x_getr (hs.k k_136) F_Mod_13 (by decide +kernel) rfl (hs.r r_136_1) ?_
    refine g_iconst (z := 1) (v := 1) (by decide +kernel) rfl ?_
    refine x_iald hf (hs.k k_137) (by decide +kernel) (fun x2 hf => ?_)
    refine g_imul (by decide +kernel) ?_
    refine g_iconst (z := 1) (v := 1) (by decide +kernel) rfl ?_
    refine g_isub (by decide +kernel) ?_
    refine g_i2l (by decide +kernel) ?_
    refine x_callSBp (as := [.long p1, .long (0 : Int64), .long (((((2 : Int32) * x2) - (1 : Int32))).toInt64)]) St_Mod_within hf (fun q hq => t_Mod_within hs  hq) Y_Mod_within L_Mod_157 (by decide +kernel) rfl rfl (Nat.le_of_ble_eq_true rfl) (by decide) (Nat.le_refl _) (Nat.le_refl _) (fun q3 hf => ?_)
    refine x_ifb_eq (off := 7) (tgt := 31) hf (by decide +kernel) (by decide) (fun c4 hf => ?_) (fun c4 hf => ?_)
    · refine g_iconst (z := 0) (v := 0) (by decide +kernel) rfl ?_
      exact x_zretp rfl hf (by decide +kernel) rfl (Nat.le_refl _) (Nat.le_refl _)
    · refine g_iconst (z := 1) (v := 1) (by decide +kernel) rfl ?_
      refine g_goto (off := 4) (tgt := 32) (by decide +kernel) (by decide) ?_
      exact x_zretp rfl hf (by decide +kernel) rfl (Nat.le_refl _) (Nat.le_refl _)
def f_Mod_bitsOf_L4 (p0 : Int32) : Nat → Int32 → Int32 → am_H → Option (Int32 × Int32)
  | 0, _, _, _ => none
  | n + 1, v1, v2, h =>
    (if (9 : Int32) ≤ v2 then
      some (v1, v2)
    else
      f_Mod_bitsOf_L4 p0 n (v1 + ((p0 >>> (v2 &&& 31)) &&& (1 : Int32))) (v2 + (1 : Int32)) h)
set_option maxRecDepth 100000 in
set_option maxHeartbeats 4000000 in
theorem t_Mod_bitsOf_L4 {p0 : Int32}  {Q : Option Value → am_H → Prop} : ∀ (n : Nat) (v1 : Int32) (v2 : Int32) (h : am_H) (q : Int32 × Int32), am_Sh h → f_Mod_bitsOf_L4 p0 n v1 v2 h = some q → (am_G 0 M_Mod_bitsOf 0 0 Q 24 [(0, .int p0), (1, .int q.1), (2, .int q.2)] [] h 0 0) → am_G 0 M_Mod_bitsOf 0 0 Q 4 [(0, .int p0), (1, .int v1), (2, .int v2)] [] h 0 0 := by
  intro n
  induction n with
  | zero =>
    intro v1 v2 h q hs hf kont
    rw [f_Mod_bitsOf_L4] at hf
    cases hf
  | succ n ih =>
    intro v1 v2 h q hs hf kont
    rw [f_Mod_bitsOf_L4] at hf
    refine g_iload_n (i := 2) (by decide +kernel) rfl ?_
    refine g_bipush (z := 9) (v := 9) (by decide +kernel) rfl ?_
    refine x_icmp_ge (off := 17) (tgt := 24) hf (by decide +kernel) (by decide) (fun c1 hf => ?_) (fun c1 hf => ?_)
    · cases hf
      exact am_G.forget (am_subp [0, 1, 2] rfl) kont
    · refine g_iload_n (i := 1) (by decide +kernel) rfl ?_
      refine g_iload_n (i := 0) (by decide +kernel) rfl ?_
      refine g_iload_n (i := 2) (by decide +kernel) rfl ?_
      refine g_ishr (by decide +kernel) ?_
      refine g_iconst (z := 1) (v := 1) (by decide +kernel) rfl ?_
      refine g_iand (by decide +kernel) ?_
      refine g_iadd (by decide +kernel) ?_
      refine g_istore_n (i := 1) (by decide +kernel) rfl (by decide) (ls1 := [(0, .int p0), (1, .int (v1 + ((p0 >>> (v2 &&& 31)) &&& (1 : Int32)))), (2, .int v2)]) rfl ?_
      refine g_iinc (i := 2) (z := 1) (v := (v2 + (1 : Int32))) (by decide +kernel) rfl rfl rfl (by decide) (ls1 := [(0, .int p0), (1, .int (v1 + ((p0 >>> (v2 &&& 31)) &&& (1 : Int32)))), (2, .int (v2 + (1 : Int32)))]) rfl ?_
      refine g_goto (off := (-17)) (tgt := 4) (by decide +kernel) (by decide) ?_
      exact am_G.forget (am_subp [0, 1, 2] rfl) (ih _ _ _ _ hs hf kont)
def f_Mod_bitsOf (p0 : Int32) (h : am_H) : Option (Int32) :=
  (f_Mod_bitsOf_L4 p0 am_fu (0 : Int32) (0 : Int32) h).bind fun q2 =>
  some q2.1
set_option maxRecDepth 100000 in
set_option maxHeartbeats 4000000 in
theorem t_Mod_bitsOf {p0 : Int32} {h : am_H} (hs : am_Sh h)  {r : Int32} (hf : f_Mod_bitsOf p0 h = some r) : am_Ct 0 M_Mod_bitsOf [.int p0] h 0 0 (am_pI h r) := by
  unfold f_Mod_bitsOf at hf
  refine am_Ct.of (by decide) rfl (Nat.le_of_ble_eq_true rfl) (ls := [(0, .int p0)]) rfl ?_
  refine g_iconst (z := 0) (v := 0) (by decide +kernel) rfl ?_
  refine g_istore_n (i := 1) (by decide +kernel) rfl (by decide) (ls1 := [(0, .int p0), (1, .int (0 : Int32))]) rfl ?_
  refine g_iconst (z := 0) (v := 0) (by decide +kernel) rfl ?_
  refine g_istore_n (i := 2) (by decide +kernel) rfl (by decide) (ls1 := [(0, .int p0), (1, .int (0 : Int32)), (2, .int (0 : Int32))]) rfl ?_
  obtain ⟨q2, hqq2, hf⟩ := Option.bind_eq_some_iff.mp hf
  refine am_G.forget (am_subp [0, 1, 2] rfl) (t_Mod_bitsOf_L4  am_fu _ _ _ q2 hs hqq2 ?_)
  refine g_iload_n (i := 1) (by decide +kernel) rfl ?_
  exact x_iretp hf (by decide +kernel) rfl (Nat.le_refl _) (Nat.le_refl _)
def f_Mod_spanIn (p1 : Int32) (h : am_H) : Option (Int32) :=
  (am_rd (h.2.1 137) 3411 (2 : Int32)).bind fun x1 =>
  (am_md p1 x1).bind fun x2 =>
  (am_rd (h.2.1 137) 3411 ((29 : Int32) + x2)).bind fun x3 =>
  some x3
set_option maxRecDepth 100000 in
set_option maxHeartbeats 4000000 in
theorem t_Mod_spanIn {p1 : Int32} {h : am_H} (hs : am_Sh h)  {r : Int32} (hf : f_Mod_spanIn p1 h = some r) : am_Ct 0 M_Mod_spanIn [.ref 136, .int p1] h 0 0 (am_pI h r) := by
  unfold f_Mod_spanIn at hf
  refine am_Ct.of (by decide) rfl (Nat.le_of_ble_eq_true rfl) (ls := [(0, .ref 136), (1, .int p1)]) rfl ?_
  refine g_aload_n (i := 0) (by decide +kernel) rfl ?_
  refine x_getr (hs.k k_136) F_Mod_13 (by decide +kernel) rfl (hs.r r_136_1) ?_
  refine g_bipush (z := 29) (v := 29) (by decide +kernel) rfl ?_
  refine g_iload_n (i := 1) (by decide +kernel) rfl ?_
  refine g_aload_n (i := 0) (by decide +kernel) rfl ?_
  refine x_getr (hs.k k_136) F_Mod_13 (by decide +kernel) rfl (hs.r r_136_1) ?_
  refine g_iconst (z := 2) (v := 2) (by decide +kernel) rfl ?_
  refine x_iald hf (hs.k k_137) (by decide +kernel) (fun x1 hf => ?_)
  refine x_irem hf (by decide +kernel) (fun x2 hf => ?_)
  refine g_iadd (by decide +kernel) ?_
  refine x_iald hf (hs.k k_137) (by decide +kernel) (fun x3 hf => ?_)
  exact x_iretp hf (by decide +kernel) rfl (Nat.le_refl _) (Nat.le_refl _)
def f_Mod_fogIn (p1 : Int32) (h : am_H) : Option (Int32) :=
  (am_rd (h.2.1 137) 3411 (27 : Int32)).bind fun x1 =>
  (if x1 ≤ p1 then
    some (0 : Int32)
  else
    some (1 : Int32))
set_option maxRecDepth 100000 in
set_option maxHeartbeats 4000000 in
theorem t_Mod_fogIn {p1 : Int32} {h : am_H} (hs : am_Sh h)  {r : Int32} (hf : f_Mod_fogIn p1 h = some r) : am_Ct 0 M_Mod_fogIn [.ref 136, .int p1] h 0 0 (am_pI h r) := by
  unfold f_Mod_fogIn at hf
  refine am_Ct.of (by decide) rfl (Nat.le_of_ble_eq_true rfl) (ls := [(0, .ref 136), (1, .int p1)]) rfl ?_
  refine g_iload_n (i := 1) (by decide +kernel) rfl ?_
  refine g_aload_n (i := 0) (by decide +kernel) rfl ?_
  refine x_getr (hs.k k_136) F_Mod_13 (by decide +kernel) rfl (hs.r r_136_1) ?_
  refine g_bipush (z := 27) (v := 27) (by decide +kernel) rfl ?_
  refine x_iald hf (hs.k k_137) (by decide +kernel) (fun x1 hf => ?_)
  refine x_icmp_ge (off := 7) (tgt := 15) hf (by decide +kernel) (by decide) (fun c2 hf => ?_) (fun c2 hf => ?_)
  · refine g_iconst (z := 0) (v := 0) (by decide +kernel) rfl ?_
    exact x_iretp hf (by decide +kernel) rfl (Nat.le_refl _) (Nat.le_refl _)
  · refine g_iconst (z := 1) (v := 1) (by decide +kernel) rfl ?_
    refine g_goto (off := 4) (tgt := 16) (by decide +kernel) (by decide) ?_
    exact x_iretp hf (by decide +kernel) rfl (Nat.le_refl _) (Nat.le_refl _)
def f_Mod_between (p0 : Int32) (p1 : Int32) (p2 : Int32) (h : am_H) : Option (Int32) :=
  (if p0 = (3003 : Int32) then
    (if p1 = p2 then
      some (1 : Int32)
    else
      some (0 : Int32))
  else if p0 = (3004 : Int32) then
    (if p2 ≤ p1 then
      some (0 : Int32)
    else
      some (1 : Int32))
  else if p0 = (3005 : Int32) then
    (if p1 ≤ p2 then
      some (0 : Int32)
    else
      some (1 : Int32))
  else if p0 = (3006 : Int32) then
    ((if p0 = (3000 : Int32) then
        some (((p1).toInt64) + ((p2).toInt64))
      else
        (if p0 = (3001 : Int32) then
          some (((p1).toInt64) - ((p2).toInt64))
        else
          some (((p1).toInt64) * ((p2).toInt64)))) : Option (Int64)).bind fun m6 =>
    (if (lg_cmp m6 (1000000 : Int64)) ≤ 0 then
      (if 0 ≤ (lg_cmp m6 (-1000000 : Int64)) then
        some ((m6).toInt32)
      else
        some (((-1000000 : Int64)).toInt32))
    else
      some (((1000000 : Int64)).toInt32))
  else if p0 = (3007 : Int32) then
    some (p1 &&& p2)
  else if p0 = (3008 : Int32) then
    some (p1 ||| p2)
  else 
    ((if p0 = (3000 : Int32) then
        some (((p1).toInt64) + ((p2).toInt64))
      else
        (if p0 = (3001 : Int32) then
          some (((p1).toInt64) - ((p2).toInt64))
        else
          some (((p1).toInt64) * ((p2).toInt64)))) : Option (Int64)).bind fun m11 =>
    (if (lg_cmp m11 (1000000 : Int64)) ≤ 0 then
      (if 0 ≤ (lg_cmp m11 (-1000000 : Int64)) then
        some ((m11).toInt32)
      else
        some (((-1000000 : Int64)).toInt32))
    else
      some (((1000000 : Int64)).toInt32)))
set_option maxRecDepth 100000 in
set_option maxHeartbeats 4000000 in
theorem t_Mod_between {p0 : Int32} {p1 : Int32} {p2 : Int32} {h : am_H} (hs : am_Sh h)  {r : Int32} (hf : f_Mod_between p0 p1 p2 h = some r) : am_Ct 0 M_Mod_between [.int p0, .int p1, .int p2] h 0 0 (am_pI h r) := by
  unfold f_Mod_between at hf
  refine am_Ct.of (by decide) rfl (Nat.le_of_ble_eq_true rfl) (ls := [(0, .int p0), (1, .int p1), (2, .int p2)]) rfl ?_
  refine g_iload_n (i := 0) (by decide +kernel) rfl ?_
  by_cases e0 : p0 = (3003 : Int32)
  · rw [if_pos e0] at hf
    have ex : Int32.toInt p0 = 3003 := by rw [e0]; rfl
    refine x_tabIn (dflt := 80) (lo := 3003) (hi := 3008) (offs := #[39, 50, 61, 80, 72, 76]) (len := 39) (off := 39) (tgt := 40) (by decide +kernel) (by rw [ex]; decide) (by rw [ex]; decide) (by rw [ex]; rfl) (by decide) ?_
    refine g_iload_n (i := 1) (by decide +kernel) rfl ?_
    refine g_iload_n (i := 2) (by decide +kernel) rfl ?_
    refine x_icmp_ne (off := 7) (tgt := 49) hf (by decide +kernel) (by decide) (fun c1 hf => ?_) (fun c1 hf => ?_)
    · refine g_iconst (z := 0) (v := 0) (by decide +kernel) rfl ?_
      exact x_iretp hf (by decide +kernel) rfl (Nat.le_refl _) (Nat.le_refl _)
    · refine g_iconst (z := 1) (v := 1) (by decide +kernel) rfl ?_
      refine g_goto (off := 4) (tgt := 50) (by decide +kernel) (by decide) ?_
      exact x_iretp hf (by decide +kernel) rfl (Nat.le_refl _) (Nat.le_refl _)
  · rw [if_neg e0] at hf
    by_cases e1 : p0 = (3004 : Int32)
    · rw [if_pos e1] at hf
      have ex : Int32.toInt p0 = 3004 := by rw [e1]; rfl
      refine x_tabIn (dflt := 80) (lo := 3003) (hi := 3008) (offs := #[39, 50, 61, 80, 72, 76]) (len := 39) (off := 50) (tgt := 51) (by decide +kernel) (by rw [ex]; decide) (by rw [ex]; decide) (by rw [ex]; rfl) (by decide) ?_
      refine g_iload_n (i := 1) (by decide +kernel) rfl ?_
      refine g_iload_n (i := 2) (by decide +kernel) rfl ?_
      refine x_icmp_ge (off := 7) (tgt := 60) hf (by decide +kernel) (by decide) (fun c2 hf => ?_) (fun c2 hf => ?_)
      · refine g_iconst (z := 0) (v := 0) (by decide +kernel) rfl ?_
        exact x_iretp hf (by decide +kernel) rfl (Nat.le_refl _) (Nat.le_refl _)
      · refine g_iconst (z := 1) (v := 1) (by decide +kernel) rfl ?_
        refine g_goto (off := 4) (tgt := 61) (by decide +kernel) (by decide) ?_
        exact x_iretp hf (by decide +kernel) rfl (Nat.le_refl _) (Nat.le_refl _)
    · rw [if_neg e1] at hf
      by_cases e2 : p0 = (3005 : Int32)
      · rw [if_pos e2] at hf
        have ex : Int32.toInt p0 = 3005 := by rw [e2]; rfl
        refine x_tabIn (dflt := 80) (lo := 3003) (hi := 3008) (offs := #[39, 50, 61, 80, 72, 76]) (len := 39) (off := 61) (tgt := 62) (by decide +kernel) (by rw [ex]; decide) (by rw [ex]; decide) (by rw [ex]; rfl) (by decide) ?_
        refine g_iload_n (i := 1) (by decide +kernel) rfl ?_
        refine g_iload_n (i := 2) (by decide +kernel) rfl ?_
        refine x_icmp_le (off := 7) (tgt := 71) hf (by decide +kernel) (by decide) (fun c3 hf => ?_) (fun c3 hf => ?_)
        · refine g_iconst (z := 0) (v := 0) (by decide +kernel) rfl ?_
          exact x_iretp hf (by decide +kernel) rfl (Nat.le_refl _) (Nat.le_refl _)
        · refine g_iconst (z := 1) (v := 1) (by decide +kernel) rfl ?_
          refine g_goto (off := 4) (tgt := 72) (by decide +kernel) (by decide) ?_
          exact x_iretp hf (by decide +kernel) rfl (Nat.le_refl _) (Nat.le_refl _)
      · rw [if_neg e2] at hf
        by_cases e3 : p0 = (3006 : Int32)
        · rw [if_pos e3] at hf
          have ex : Int32.toInt p0 = 3006 := by rw [e3]; rfl
          refine x_tabIn (dflt := 80) (lo := 3003) (hi := 3008) (offs := #[39, 50, 61, 80, 72, 76]) (len := 39) (off := 80) (tgt := 81) (by decide +kernel) (by rw [ex]; decide) (by rw [ex]; decide) (by rw [ex]; rfl) (by decide) ?_
          refine g_iload_n (i := 0) (by decide +kernel) rfl ?_
          refine g_sipush (z := 3000) (v := 3000) (by decide +kernel) rfl ?_
          obtain ⟨m6, hm116, hf⟩ := Option.bind_eq_some_iff.mp hf
          refine am_cut (J := 116) (ls' := [(0, .int p0), (1, .int p1), (2, .int p2)]) (st' := [.long m6]) ?_ (fun K116 => ?_)
          · refine g_lstore_n (i := 3) (by decide +kernel) rfl (by decide) (ls1 := [(0, .int p0), (1, .int p1), (2, .int p2), (3, .long m6)]) rfl ?_
            refine g_lload_n (i := 3) (by decide +kernel) rfl ?_
            refine g_ldc2 (by decide +kernel) C_Mod_227 ?_
            refine g_lcmp (by decide +kernel) ?_
            refine x_if_le (off := 9) (tgt := 131) hf (by decide +kernel) (by decide) (fun c7 hf => ?_) (fun c7 hf => ?_)
            · refine g_lload_n (i := 3) (by decide +kernel) rfl ?_
              refine g_ldc2 (by decide +kernel) C_Mod_229 ?_
              refine g_lcmp (by decide +kernel) ?_
              refine x_if_ge (off := 9) (tgt := 145) hf (by decide +kernel) (by decide) (fun c8 hf => ?_) (fun c8 hf => ?_)
              · refine g_lload_n (i := 3) (by decide +kernel) rfl ?_
                refine g_l2i (by decide +kernel) ?_
                exact x_iretp hf (by decide +kernel) rfl (Nat.le_refl _) (Nat.le_refl _)
              · refine g_ldc2 (by decide +kernel) C_Mod_229 ?_
                refine g_goto (off := 4) (tgt := 146) (by decide +kernel) (by decide) ?_
                refine g_l2i (by decide +kernel) ?_
                exact x_iretp hf (by decide +kernel) rfl (Nat.le_refl _) (Nat.le_refl _)
            · refine g_ldc2 (by decide +kernel) C_Mod_227 ?_
              refine g_goto (off := 18) (tgt := 146) (by decide +kernel) (by decide) ?_
              refine g_l2i (by decide +kernel) ?_
              exact x_iretp hf (by decide +kernel) rfl (Nat.le_refl _) (Nat.le_refl _)
          refine x_icmp_ne (off := 11) (tgt := 96) hm116 (by decide +kernel) (by decide) (fun c4 hm116 => ?_) (fun c4 hm116 => ?_)
          · refine g_iload_n (i := 0) (by decide +kernel) rfl ?_
            refine g_sipush (z := 3001) (v := 3001) (by decide +kernel) rfl ?_
            refine x_icmp_ne (off := 11) (tgt := 111) hm116 (by decide +kernel) (by decide) (fun c5 hm116 => ?_) (fun c5 hm116 => ?_)
            · refine g_iload_n (i := 1) (by decide +kernel) rfl ?_
              refine g_i2l (by decide +kernel) ?_
              refine g_iload_n (i := 2) (by decide +kernel) rfl ?_
              refine g_i2l (by decide +kernel) ?_
              refine g_lmul (by decide +kernel) ?_
              cases hm116
              exact am_G.forget (am_subp [0, 1, 2] rfl) K116
            · refine g_iload_n (i := 1) (by decide +kernel) rfl ?_
              refine g_i2l (by decide +kernel) ?_
              refine g_iload_n (i := 2) (by decide +kernel) rfl ?_
              refine g_i2l (by decide +kernel) ?_
              refine g_lsub (by decide +kernel) ?_
              refine g_goto (off := 8) (tgt := 116) (by decide +kernel) (by decide) ?_
              cases hm116
              exact am_G.forget (am_subp [0, 1, 2] rfl) K116
          · refine g_iload_n (i := 1) (by decide +kernel) rfl ?_
            refine g_i2l (by decide +kernel) ?_
            refine g_iload_n (i := 2) (by decide +kernel) rfl ?_
            refine g_i2l (by decide +kernel) ?_
            refine g_ladd (by decide +kernel) ?_
            refine g_goto (off := 23) (tgt := 116) (by decide +kernel) (by decide) ?_
            cases hm116
            exact am_G.forget (am_subp [0, 1, 2] rfl) K116
        · rw [if_neg e3] at hf
          by_cases e4 : p0 = (3007 : Int32)
          · rw [if_pos e4] at hf
            have ex : Int32.toInt p0 = 3007 := by rw [e4]; rfl
            refine x_tabIn (dflt := 80) (lo := 3003) (hi := 3008) (offs := #[39, 50, 61, 80, 72, 76]) (len := 39) (off := 72) (tgt := 73) (by decide +kernel) (by rw [ex]; decide) (by rw [ex]; decide) (by rw [ex]; rfl) (by decide) ?_
            refine g_iload_n (i := 1) (by decide +kernel) rfl ?_
            refine g_iload_n (i := 2) (by decide +kernel) rfl ?_
            refine g_iand (by decide +kernel) ?_
            exact x_iretp hf (by decide +kernel) rfl (Nat.le_refl _) (Nat.le_refl _)
          · rw [if_neg e4] at hf
            by_cases e5 : p0 = (3008 : Int32)
            · rw [if_pos e5] at hf
              have ex : Int32.toInt p0 = 3008 := by rw [e5]; rfl
              refine x_tabIn (dflt := 80) (lo := 3003) (hi := 3008) (offs := #[39, 50, 61, 80, 72, 76]) (len := 39) (off := 76) (tgt := 77) (by decide +kernel) (by rw [ex]; decide) (by rw [ex]; decide) (by rw [ex]; rfl) (by decide) ?_
              refine g_iload_n (i := 1) (by decide +kernel) rfl ?_
              refine g_iload_n (i := 2) (by decide +kernel) rfl ?_
              refine g_ior (by decide +kernel) ?_
              exact x_iretp hf (by decide +kernel) rfl (Nat.le_refl _) (Nat.le_refl _)
            · rw [if_neg e5] at hf
              refine x_tabOut (dflt := 80) (lo := 3003) (hi := 3008) (offs := #[39, 50, 61, 80, 72, 76]) (len := 39) (tgt := 81) (by decide +kernel) (am_tabNe ⟨by decide, by decide⟩ (fun z hz => ?_)) (by decide) ?_
              · have hz : z < 6 := hz
                have : z = 0 ∨ z = 1 ∨ z = 2 ∨ z = 3 ∨ z = 4 ∨ z = 5 := by omega
                rcases this with rfl | rfl | rfl | rfl | rfl | rfl
                · exact e0
                · exact e1
                · exact e2
                · exact e3
                · exact e4
                · exact e5
              · refine g_iload_n (i := 0) (by decide +kernel) rfl ?_
                refine g_sipush (z := 3000) (v := 3000) (by decide +kernel) rfl ?_
                obtain ⟨m11, hm116, hf⟩ := Option.bind_eq_some_iff.mp hf
                refine am_cut (J := 116) (ls' := [(0, .int p0), (1, .int p1), (2, .int p2)]) (st' := [.long m11]) ?_ (fun K116 => ?_)
                · refine g_lstore_n (i := 3) (by decide +kernel) rfl (by decide) (ls1 := [(0, .int p0), (1, .int p1), (2, .int p2), (3, .long m11)]) rfl ?_
                  refine g_lload_n (i := 3) (by decide +kernel) rfl ?_
                  refine g_ldc2 (by decide +kernel) C_Mod_227 ?_
                  refine g_lcmp (by decide +kernel) ?_
                  refine x_if_le (off := 9) (tgt := 131) hf (by decide +kernel) (by decide) (fun c12 hf => ?_) (fun c12 hf => ?_)
                  · refine g_lload_n (i := 3) (by decide +kernel) rfl ?_
                    refine g_ldc2 (by decide +kernel) C_Mod_229 ?_
                    refine g_lcmp (by decide +kernel) ?_
                    refine x_if_ge (off := 9) (tgt := 145) hf (by decide +kernel) (by decide) (fun c13 hf => ?_) (fun c13 hf => ?_)
                    · refine g_lload_n (i := 3) (by decide +kernel) rfl ?_
                      refine g_l2i (by decide +kernel) ?_
                      exact x_iretp hf (by decide +kernel) rfl (Nat.le_refl _) (Nat.le_refl _)
                    · refine g_ldc2 (by decide +kernel) C_Mod_229 ?_
                      refine g_goto (off := 4) (tgt := 146) (by decide +kernel) (by decide) ?_
                      refine g_l2i (by decide +kernel) ?_
                      exact x_iretp hf (by decide +kernel) rfl (Nat.le_refl _) (Nat.le_refl _)
                  · refine g_ldc2 (by decide +kernel) C_Mod_227 ?_
                    refine g_goto (off := 18) (tgt := 146) (by decide +kernel) (by decide) ?_
                    refine g_l2i (by decide +kernel) ?_
                    exact x_iretp hf (by decide +kernel) rfl (Nat.le_refl _) (Nat.le_refl _)
                refine x_icmp_ne (off := 11) (tgt := 96) hm116 (by decide +kernel) (by decide) (fun c9 hm116 => ?_) (fun c9 hm116 => ?_)
                · refine g_iload_n (i := 0) (by decide +kernel) rfl ?_
                  refine g_sipush (z := 3001) (v := 3001) (by decide +kernel) rfl ?_
                  refine x_icmp_ne (off := 11) (tgt := 111) hm116 (by decide +kernel) (by decide) (fun c10 hm116 => ?_) (fun c10 hm116 => ?_)
                  · refine g_iload_n (i := 1) (by decide +kernel) rfl ?_
                    refine g_i2l (by decide +kernel) ?_
                    refine g_iload_n (i := 2) (by decide +kernel) rfl ?_
                    refine g_i2l (by decide +kernel) ?_
                    refine g_lmul (by decide +kernel) ?_
                    cases hm116
                    exact am_G.forget (am_subp [0, 1, 2] rfl) K116
                  · refine g_iload_n (i := 1) (by decide +kernel) rfl ?_
                    refine g_i2l (by decide +kernel) ?_
                    refine g_iload_n (i := 2) (by decide +kernel) rfl ?_
                    refine g_i2l (by decide +kernel) ?_
                    refine g_lsub (by decide +kernel) ?_
                    refine g_goto (off := 8) (tgt := 116) (by decide +kernel) (by decide) ?_
                    cases hm116
                    exact am_G.forget (am_subp [0, 1, 2] rfl) K116
                · refine g_iload_n (i := 1) (by decide +kernel) rfl ?_
                  refine g_i2l (by decide +kernel) ?_
                  refine g_iload_n (i := 2) (by decide +kernel) rfl ?_
                  refine g_i2l (by decide +kernel) ?_
                  refine g_ladd (by decide +kernel) ?_
                  refine g_goto (off := 23) (tgt := 116) (by decide +kernel) (by decide) ?_
                  cases hm116
                  exact am_G.forget (am_subp [0, 1, 2] rfl) K116
def f_Mod_lets_L85 (p1 : Int32) (p2 : Int32) (p3 : Int32) (p4 : Int32) (p5 : Int32) (p6 : Int32) : Nat → Int32 → Int32 → am_H → Option (Int32 × Int32 × am_H)
  | 0, _, _, _ => none
  | n + 1, v7, v8, h =>
    (am_rd (h.2.1 137) 3411 ((9 : Int32) + p1)).bind fun x10 =>
    (if x10 ≤ v8 then
      some (v7, v8, h)
    else
      (am_rd (h.2.1 137) 3411 ((7 : Int32) + p1)).bind fun x12 =>
      (am_rd (h.2.1 137) 3411 (((237 : Int32) + x12) + v8)).bind fun x13 =>
      (if (3000 : Int32) ≤ x13 then
        (if x13 = (3006 : Int32) then
          (am_rd (h.2.1 141) 900 (v7 - (1 : Int32))).bind fun x20 =>
          (am_wr h 141 900 (v7 - (1 : Int32)) ((1 : Int32) - x20)).bind fun h21 =>
          f_Mod_lets_L85 p1 p2 p3 p4 p5 p6 n v7 (v8 + (1 : Int32)) h21
        else
          (am_rd (h.2.1 141) 900 ((v7 + (-1 : Int32)) - (1 : Int32))).bind fun x16 =>
          (am_rd (h.2.1 141) 900 (v7 + (-1 : Int32))).bind fun x17 =>
          (f_Mod_between x13 x16 x17 h).bind fun q18 =>
          (am_wr h 141 900 ((v7 + (-1 : Int32)) - (1 : Int32)) q18).bind fun h19 =>
          f_Mod_lets_L85 p1 p2 p3 p4 p5 p6 n (v7 + (-1 : Int32)) (v8 + (1 : Int32)) h19)
      else
        ((if (1000 : Int32) ≤ x13 then
            (am_rd (h.2.1 142) 6 (x13 - (1000 : Int32))).bind fun x23 =>
            some x23
          else
            some x13) : Option (Int32)).bind fun m24 =>
        (am_wr h 141 900 v7 m24).bind fun h25 =>
        f_Mod_lets_L85 p1 p2 p3 p4 p5 p6 n (v7 + (1 : Int32)) (v8 + (1 : Int32)) h25))
set_option maxRecDepth 100000 in
set_option maxHeartbeats 4000000 in
theorem t_Mod_lets_L85 {p1 : Int32} {p2 : Int32} {p3 : Int32} {p4 : Int32} {p5 : Int32} {p6 : Int32}  {Q : Option Value → am_H → Prop} : ∀ (n : Nat) (v7 : Int32) (v8 : Int32) (h : am_H) (q : Int32 × Int32 × am_H), am_Sh h → f_Mod_lets_L85 p1 p2 p3 p4 p5 p6 n v7 v8 h = some q → (am_Sh q.2.2 → am_G 1 M_Mod_lets 0 0 Q 237 [(0, .ref 136), (1, .int p1), (2, .int p2), (3, .int p3), (4, .int p4), (5, .int p5), (6, .int p6), (7, .int q.1), (8, .int q.2.1)] [] q.2.2 0 0) → am_G 1 M_Mod_lets 0 0 Q 85 [(0, .ref 136), (1, .int p1), (2, .int p2), (3, .int p3), (4, .int p4), (5, .int p5), (6, .int p6), (7, .int v7), (8, .int v8)] [] h 0 0 := by
  intro n
  induction n with
  | zero =>
    intro v7 v8 h q hs hf kont
    rw [f_Mod_lets_L85] at hf
    cases hf
  | succ n ih =>
    intro v7 v8 h q hs hf kont
    rw [f_Mod_lets_L85] at hf
    refine g_iload (i := 8) (by decide +kernel) rfl ?_
    refine g_aload_n (i := 0) (by decide +kernel) rfl ?_
    refine x_getr (hs.k k_136) F_Mod_13 (by decide +kernel) rfl (hs.r r_136_1) ?_
    refine g_bipush (z := 9) (v := 9) (by decide +kernel) rfl ?_
    refine g_iload_n (i := 1) (by decide +kernel) rfl ?_
    refine g_iadd (by decide +kernel) ?_
    refine x_iald hf (hs.k k_137) (by decide +kernel) (fun x10 hf => ?_)
    refine x_icmp_ge (off := 141) (tgt := 237) hf (by decide +kernel) (by decide) (fun c11 hf => ?_) (fun c11 hf => ?_)
    · cases hf
      exact am_G.forget (am_subp [0, 1, 2, 3, 4, 5, 6, 7, 8] rfl) (kont hs)
    · refine g_aload_n (i := 0) (by decide +kernel) rfl ?_
      refine x_getr (hs.k k_136) F_Mod_13 (by decide +kernel) rfl (hs.r r_136_1) ?_
      refine g_sipush (z := 237) (v := 237) (by decide +kernel) rfl ?_
      refine g_aload_n (i := 0) (by decide +kernel) rfl ?_
      refine x_getr (hs.k k_136) F_Mod_13 (by decide +kernel) rfl (hs.r r_136_1) ?_
      refine g_bipush (z := 7) (v := 7) (by decide +kernel) rfl ?_
      refine g_iload_n (i := 1) (by decide +kernel) rfl ?_
      refine g_iadd (by decide +kernel) ?_
      refine x_iald hf (hs.k k_137) (by decide +kernel) (fun x12 hf => ?_)
      refine g_iadd (by decide +kernel) ?_
      refine g_iload (i := 8) (by decide +kernel) rfl ?_
      refine g_iadd (by decide +kernel) ?_
      refine x_iald hf (hs.k k_137) (by decide +kernel) (fun x13 hf => ?_)
      refine g_istore (i := 9) (by decide +kernel) rfl (by decide) (ls1 := [(0, .ref 136), (1, .int p1), (2, .int p2), (3, .int p3), (4, .int p4), (5, .int p5), (6, .int p6), (7, .int v7), (8, .int v8), (9, .int x13)]) rfl ?_
      refine g_iload (i := 9) (by decide +kernel) rfl ?_
      refine g_sipush (z := 3000) (v := 3000) (by decide +kernel) rfl ?_
      refine x_icmp_ge (off := 40) (tgt := 167) hf (by decide +kernel) (by decide) (fun c14 hf => ?_) (fun c14 hf => ?_)
      · refine g_iload (i := 9) (by decide +kernel) rfl ?_
        refine g_sipush (z := 3006) (v := 3006) (by decide +kernel) rfl ?_
        refine x_icmp_ne (off := 26) (tgt := 198) hf (by decide +kernel) (by decide) (fun c15 hf => ?_) (fun c15 hf => ?_)
        · refine g_iinc (i := 7) (z := (-1)) (v := (v7 + (-1 : Int32))) (by decide +kernel) rfl rfl rfl (by decide) (ls1 := [(0, .ref 136), (1, .int p1), (2, .int p2), (3, .int p3), (4, .int p4), (5, .int p5), (6, .int p6), (7, .int (v7 + (-1 : Int32))), (8, .int v8), (9, .int x13)]) rfl ?_
          refine g_aload_n (i := 0) (by decide +kernel) rfl ?_
          refine x_getr (hs.k k_136) F_Mod_30 (by decide +kernel) rfl (hs.r r_136_16) ?_
          refine g_iload (i := 7) (by decide +kernel) rfl ?_
          refine g_iconst (z := 1) (v := 1) (by decide +kernel) rfl ?_
          refine g_isub (by decide +kernel) ?_
          refine g_iload (i := 9) (by decide +kernel) rfl ?_
          refine g_aload_n (i := 0) (by decide +kernel) rfl ?_
          refine x_getr (hs.k k_136) F_Mod_30 (by decide +kernel) rfl (hs.r r_136_16) ?_
          refine g_iload (i := 7) (by decide +kernel) rfl ?_
          refine g_iconst (z := 1) (v := 1) (by decide +kernel) rfl ?_
          refine g_isub (by decide +kernel) ?_
          refine x_iald hf (hs.k k_141) (by decide +kernel) (fun x16 hf => ?_)
          refine g_aload_n (i := 0) (by decide +kernel) rfl ?_
          refine x_getr (hs.k k_136) F_Mod_30 (by decide +kernel) rfl (hs.r r_136_16) ?_
          refine g_iload (i := 7) (by decide +kernel) rfl ?_
          refine x_iald hf (hs.k k_141) (by decide +kernel) (fun x17 hf => ?_)
          refine x_callSIp (as := [.int x13, .int x16, .int x17]) St_Mod_between hf (fun q hq => t_Mod_between hs  hq) Y_Mod_between L_Mod_231 (by decide +kernel) rfl rfl (Nat.le_of_ble_eq_true rfl) (by decide) (Nat.le_refl _) (Nat.le_refl _) (fun q18 hf => ?_)
          refine x_iast hf hs (hs.k k_141) (by decide +kernel) (fun h19 hf hs => ?_)
          refine g_iinc (i := 8) (z := 1) (v := (v8 + (1 : Int32))) (by decide +kernel) rfl rfl rfl (by decide) (ls1 := [(0, .ref 136), (1, .int p1), (2, .int p2), (3, .int p3), (4, .int p4), (5, .int p5), (6, .int p6), (7, .int (v7 + (-1 : Int32))), (8, .int (v8 + (1 : Int32))), (9, .int x13)]) rfl ?_
          refine g_goto (off := (-149)) (tgt := 85) (by decide +kernel) (by decide) ?_
          exact am_G.forget (am_subp [0, 1, 2, 3, 4, 5, 6, 7, 8] rfl) (ih _ _ _ _ hs hf kont)
        · refine g_aload_n (i := 0) (by decide +kernel) rfl ?_
          refine x_getr (hs.k k_136) F_Mod_30 (by decide +kernel) rfl (hs.r r_136_16) ?_
          refine g_iload (i := 7) (by decide +kernel) rfl ?_
          refine g_iconst (z := 1) (v := 1) (by decide +kernel) rfl ?_
          refine g_isub (by decide +kernel) ?_
          refine g_iconst (z := 1) (v := 1) (by decide +kernel) rfl ?_
          refine g_aload_n (i := 0) (by decide +kernel) rfl ?_
          refine x_getr (hs.k k_136) F_Mod_30 (by decide +kernel) rfl (hs.r r_136_16) ?_
          refine g_iload (i := 7) (by decide +kernel) rfl ?_
          refine g_iconst (z := 1) (v := 1) (by decide +kernel) rfl ?_
          refine g_isub (by decide +kernel) ?_
          refine x_iald hf (hs.k k_141) (by decide +kernel) (fun x20 hf => ?_)
          refine g_isub (by decide +kernel) ?_
          refine x_iast hf hs (hs.k k_141) (by decide +kernel) (fun h21 hf hs => ?_)
          refine g_goto (off := 36) (tgt := 231) (by decide +kernel) (by decide) ?_
          refine g_iinc (i := 8) (z := 1) (v := (v8 + (1 : Int32))) (by decide +kernel) rfl rfl rfl (by decide) (ls1 := [(0, .ref 136), (1, .int p1), (2, .int p2), (3, .int p3), (4, .int p4), (5, .int p5), (6, .int p6), (7, .int v7), (8, .int (v8 + (1 : Int32))), (9, .int x13)]) rfl ?_
          refine g_goto (off := (-149)) (tgt := 85) (by decide +kernel) (by decide) ?_
          exact am_G.forget (am_subp [0, 1, 2, 3, 4, 5, 6, 7, 8] rfl) (ih _ _ _ _ hs hf kont)
      · refine g_aload_n (i := 0) (by decide +kernel) rfl ?_
        refine x_getr (hs.k k_136) F_Mod_30 (by decide +kernel) rfl (hs.r r_136_16) ?_
        refine g_iload (i := 7) (by decide +kernel) rfl ?_
        refine g_iload (i := 9) (by decide +kernel) rfl ?_
        refine g_sipush (z := 1000) (v := 1000) (by decide +kernel) rfl ?_
        obtain ⟨m24, hm160, hf⟩ := Option.bind_eq_some_iff.mp hf
        refine am_cut (J := 160) (ls' := [(0, .ref 136), (1, .int p1), (2, .int p2), (3, .int p3), (4, .int p4), (5, .int p5), (6, .int p6), (7, .int v7), (8, .int v8), (9, .int x13)]) (st' := [.int m24, .int v7, .ref 141]) ?_ (fun K160 => ?_)
        · refine x_iast hf hs (hs.k k_141) (by decide +kernel) (fun h25 hf hs => ?_)
          refine g_iinc (i := 7) (z := 1) (v := (v7 + (1 : Int32))) (by decide +kernel) rfl rfl rfl (by decide) (ls1 := [(0, .ref 136), (1, .int p1), (2, .int p2), (3, .int p3), (4, .int p4), (5, .int p5), (6, .int p6), (7, .int (v7 + (1 : Int32))), (8, .int v8), (9, .int x13)]) rfl ?_
          refine g_goto (off := 67) (tgt := 231) (by decide +kernel) (by decide) ?_
          refine g_iinc (i := 8) (z := 1) (v := (v8 + (1 : Int32))) (by decide +kernel) rfl rfl rfl (by decide) (ls1 := [(0, .ref 136), (1, .int p1), (2, .int p2), (3, .int p3), (4, .int p4), (5, .int p5), (6, .int p6), (7, .int (v7 + (1 : Int32))), (8, .int (v8 + (1 : Int32))), (9, .int x13)]) rfl ?_
          refine g_goto (off := (-149)) (tgt := 85) (by decide +kernel) (by decide) ?_
          exact am_G.forget (am_subp [0, 1, 2, 3, 4, 5, 6, 7, 8] rfl) (ih _ _ _ _ hs hf kont)
        refine x_icmp_ge (off := 8) (tgt := 149) hm160 (by decide +kernel) (by decide) (fun c22 hm160 => ?_) (fun c22 hm160 => ?_)
        · refine g_aload_n (i := 0) (by decide +kernel) rfl ?_
          refine x_getr (hs.k k_136) F_Mod_33 (by decide +kernel) rfl (hs.r r_136_17) ?_
          refine g_iload (i := 9) (by decide +kernel) rfl ?_
          refine g_sipush (z := 1000) (v := 1000) (by decide +kernel) rfl ?_
          refine g_isub (by decide +kernel) ?_
          refine x_iald hm160 (hs.k k_142) (by decide +kernel) (fun x23 hm160 => ?_)
          cases hm160
          exact am_G.forget (am_subp [0, 1, 2, 3, 4, 5, 6, 7, 8, 9] rfl) K160
        · refine g_iload (i := 9) (by decide +kernel) rfl ?_
          refine g_goto (off := 14) (tgt := 160) (by decide +kernel) (by decide) ?_
          cases hm160
          exact am_G.forget (am_subp [0, 1, 2, 3, 4, 5, 6, 7, 8, 9] rfl) K160
def f_Mod_lets (p1 : Int32) (p2 : Int32) (p3 : Int32) (p4 : Int32) (p5 : Int32) (p6 : Int32) (h : am_H) : Option (Bool × am_H) :=
  (am_rd (h.2.1 137) 3411 ((5 : Int32) + p1)).bind fun x1 =>
  (if x1 = 0 then
    (if p1 = 0 then
      some (true, h)
    else
      (if p5 = 0 then
        some (true, h)
      else
        some (false, h)))
  else
    (am_wr h 142 6 (0 : Int32) p3).bind fun h3 =>
    (am_wr h3 142 6 (1 : Int32) p4).bind fun h4 =>
    (am_wr h4 142 6 (2 : Int32) p2).bind fun h5 =>
    (am_rd (h5.2.1 137) 3411 ((11 : Int32) + p2)).bind fun x6 =>
    (am_wr h5 142 6 (3 : Int32) x6).bind fun h7 =>
    (am_wr h7 142 6 (4 : Int32) p5).bind fun h8 =>
    (am_wr h8 142 6 (5 : Int32) p6).bind fun h9 =>
    (f_Mod_lets_L85 p1 p2 p3 p4 p5 p6 am_fu (0 : Int32) (0 : Int32) h9).bind fun q26 =>
    (am_rd (q26.2.2.2.1 141) 900 (0 : Int32)).bind fun x27 =>
    (if x27 = (1 : Int32) then
      some (true, q26.2.2)
    else
      some (false, q26.2.2)))
set_option maxRecDepth 100000 in
set_option maxHeartbeats 4000000 in
theorem t_Mod_lets {p1 : Int32} {p2 : Int32} {p3 : Int32} {p4 : Int32} {p5 : Int32} {p6 : Int32} {h : am_H} (hs : am_Sh h)  {r : Bool × am_H} (hf : f_Mod_lets p1 p2 p3 p4 p5 p6 h = some r) : am_Ct 1 M_Mod_lets [.ref 136, .int p1, .int p2, .int p3, .int p4, .int p5, .int p6] h 0 0 (am_qB r) := by
  unfold f_Mod_lets at hf
  refine am_Ct.of (by decide) rfl (Nat.le_of_ble_eq_true rfl) (ls := [(0, .ref 136), (1, .int p1), (2, .int p2), (3, .int p3), (4, .int p4), (5, .int p5), (6, .int p6)]) rfl ?_
  refine g_aload_n (i := 0) (by decide +kernel) rfl ?_
  refine x_getr (hs.k k_136) F_Mod_13 (by decide +kernel) rfl (hs.r r_136_1) ?_
  refine g_iconst (z := 5) (v := 5) (by decide +kernel) rfl ?_
  refine g_iload_n (i := 1) (by decide +kernel) rfl ?_
  refine g_iadd (by decide +kernel) ?_
  refine x_iald hf (hs.k k_137) (by decide +kernel) (fun x1 hf => ?_)
  refine x_if_ne (off := 18) (tgt := 26) hf (by decide +kernel) (by decide) (fun c2 hf => ?_) (fun c2 hf => ?_)
  · refine g_aload_n (i := 0) (by decide +kernel) rfl ?_
    refine x_getr (hs.k k_136) F_Mod_33 (by decide +kernel) rfl (hs.r r_136_17) ?_
    refine g_iconst (z := 0) (v := 0) (by decide +kernel) rfl ?_
    refine g_iload_n (i := 3) (by decide +kernel) rfl ?_
    refine x_iast hf hs (hs.k k_142) (by decide +kernel) (fun h3 hf hs => ?_)
    refine g_aload_n (i := 0) (by decide +kernel) rfl ?_
    refine x_getr (hs.k k_136) F_Mod_33 (by decide +kernel) rfl (hs.r r_136_17) ?_
    refine g_iconst (z := 1) (v := 1) (by decide +kernel) rfl ?_
    refine g_iload (i := 4) (by decide +kernel) rfl ?_
    refine x_iast hf hs (hs.k k_142) (by decide +kernel) (fun h4 hf hs => ?_)
    refine g_aload_n (i := 0) (by decide +kernel) rfl ?_
    refine x_getr (hs.k k_136) F_Mod_33 (by decide +kernel) rfl (hs.r r_136_17) ?_
    refine g_iconst (z := 2) (v := 2) (by decide +kernel) rfl ?_
    refine g_iload_n (i := 2) (by decide +kernel) rfl ?_
    refine x_iast hf hs (hs.k k_142) (by decide +kernel) (fun h5 hf hs => ?_)
    refine g_aload_n (i := 0) (by decide +kernel) rfl ?_
    refine x_getr (hs.k k_136) F_Mod_33 (by decide +kernel) rfl (hs.r r_136_17) ?_
    refine g_iconst (z := 3) (v := 3) (by decide +kernel) rfl ?_
    refine g_aload_n (i := 0) (by decide +kernel) rfl ?_
    refine x_getr (hs.k k_136) F_Mod_13 (by decide +kernel) rfl (hs.r r_136_1) ?_
    refine g_bipush (z := 11) (v := 11) (by decide +kernel) rfl ?_
    refine g_iload_n (i := 2) (by decide +kernel) rfl ?_
    refine g_iadd (by decide +kernel) ?_
    refine x_iald hf (hs.k k_137) (by decide +kernel) (fun x6 hf => ?_)
    refine x_iast hf hs (hs.k k_142) (by decide +kernel) (fun h7 hf hs => ?_)
    refine g_aload_n (i := 0) (by decide +kernel) rfl ?_
    refine x_getr (hs.k k_136) F_Mod_33 (by decide +kernel) rfl (hs.r r_136_17) ?_
    refine g_iconst (z := 4) (v := 4) (by decide +kernel) rfl ?_
    refine g_iload (i := 5) (by decide +kernel) rfl ?_
    refine x_iast hf hs (hs.k k_142) (by decide +kernel) (fun h8 hf hs => ?_)
    refine g_aload_n (i := 0) (by decide +kernel) rfl ?_
    refine x_getr (hs.k k_136) F_Mod_33 (by decide +kernel) rfl (hs.r r_136_17) ?_
    refine g_iconst (z := 5) (v := 5) (by decide +kernel) rfl ?_
    refine g_iload (i := 6) (by decide +kernel) rfl ?_
    refine x_iast hf hs (hs.k k_142) (by decide +kernel) (fun h9 hf hs => ?_)
    refine g_iconst (z := 0) (v := 0) (by decide +kernel) rfl ?_
    refine g_istore (i := 7) (by decide +kernel) rfl (by decide) (ls1 := [(0, .ref 136), (1, .int p1), (2, .int p2), (3, .int p3), (4, .int p4), (5, .int p5), (6, .int p6), (7, .int (0 : Int32))]) rfl ?_
    refine g_iconst (z := 0) (v := 0) (by decide +kernel) rfl ?_
    refine g_istore (i := 8) (by decide +kernel) rfl (by decide) (ls1 := [(0, .ref 136), (1, .int p1), (2, .int p2), (3, .int p3), (4, .int p4), (5, .int p5), (6, .int p6), (7, .int (0 : Int32)), (8, .int (0 : Int32))]) rfl ?_
    obtain ⟨q26, hqq26, hf⟩ := Option.bind_eq_some_iff.mp hf
    refine am_G.forget (am_subp [0, 1, 2, 3, 4, 5, 6, 7, 8] rfl) (t_Mod_lets_L85  am_fu _ _ _ q26 hs hqq26 (fun hs => ?_))
    refine g_aload_n (i := 0) (by decide +kernel) rfl ?_
    refine x_getr (hs.k k_136) F_Mod_30 (by decide +kernel) rfl (hs.r r_136_16) ?_
    refine g_iconst (z := 0) (v := 0) (by decide +kernel) rfl ?_
    refine x_iald hf (hs.k k_141) (by decide +kernel) (fun x27 hf => ?_)
    refine g_iconst (z := 1) (v := 1) (by decide +kernel) rfl ?_
    refine x_icmp_ne (off := 7) (tgt := 251) hf (by decide +kernel) (by decide) (fun c28 hf => ?_) (fun c28 hf => ?_)
    · refine g_iconst (z := 0) (v := 0) (by decide +kernel) rfl ?_
      exact x_zret rfl hf hs (by decide +kernel) rfl (Nat.le_refl _) (Nat.le_refl _)
    · refine g_iconst (z := 1) (v := 1) (by decide +kernel) rfl ?_
      refine g_goto (off := 4) (tgt := 252) (by decide +kernel) (by decide) ?_
      exact x_zret rfl hf hs (by decide +kernel) rfl (Nat.le_refl _) (Nat.le_refl _)
  · refine g_iload_n (i := 1) (by decide +kernel) rfl ?_
    refine x_if_eq (off := 8) (tgt := 20) hf (by decide +kernel) (by decide) (fun c29 hf => ?_) (fun c29 hf => ?_)
    · refine g_iconst (z := 1) (v := 1) (by decide +kernel) rfl ?_
      refine g_goto (off := 4) (tgt := 25) (by decide +kernel) (by decide) ?_
      exact x_zret rfl hf hs (by decide +kernel) rfl (Nat.le_refl _) (Nat.le_refl _)
    · refine g_iload (i := 5) (by decide +kernel) rfl ?_
      refine x_if_ne (off := 7) (tgt := 24) hf (by decide +kernel) (by decide) (fun c30 hf => ?_) (fun c30 hf => ?_)
      · refine g_iconst (z := 0) (v := 0) (by decide +kernel) rfl ?_
        exact x_zret rfl hf hs (by decide +kernel) rfl (Nat.le_refl _) (Nat.le_refl _)
      · refine g_iconst (z := 1) (v := 1) (by decide +kernel) rfl ?_
        refine g_goto (off := 4) (tgt := 25) (by decide +kernel) (by decide) ?_
        exact x_zret rfl hf hs (by decide +kernel) rfl (Nat.le_refl _) (Nat.le_refl _)
