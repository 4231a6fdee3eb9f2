-- deps: 31.law 32.nat 33.bit 34.spec 35.riv 36.let 37.mod 38.mod 39.it 40.ahead 41.rel
/-! ===== calls that ask ===== -/
theorem n_isPerson {h : am_H} {r : sR} {s : sS} {p : Nat} (V : mV (h.2.1 137) r s) (hp : p < rP r) : f_Mod_isPerson (nI p).toInt64 h = some true := by
  have hP := V.hP
  unfold f_Mod_isPerson
  simp (disch := omega) only [i_0, i_1, i_2, i_3, i_4, i_5, i_6, i_7, i_8, i_9, i_10, i_11, i_12, i_13, i_14, i_15, i_16, i_17, i_18, i_19, i_20, i_21, i_22, i_23, i_24, i_25, i_26, i_27, i_28, i_29, i_30, i_31, i_32, i_33, i_34, i_35, i_36, i_37, i_38, i_39, i_40, i_41, i_42, i_43, i_45, i_46, i_48, i_50, i_57, i_58, i_59, i_60, i_61, i_62, i_63, i_65, i_91, i_93, i_97, i_99, i_100, i_101, i_102, i_103, i_104, i_105, i_106, i_107, i_108, i_109, i_110, i_111, i_112, i_113, i_114, i_115, i_116, i_117, i_118, i_119, i_120, i_121, i_122, i_171, i_200, i_236, i_237, i_255, i_256, i_900, i_999, i_1000, i_1137, i_2000, i_2001, i_2002, i_2003, i_2004, i_2005, i_2006, i_2007, i_2008, i_3000, i_3001, i_3002, i_3003, i_3004, i_3005, i_3006, i_3007, i_3008, nm_1, nI_a1, nm_2, oI_n, oI_some, nI_eqP, nI_ltP, nI_leP, nI_add, nI_mul, nI_sub, nI_div, n_rd, n_wr, n_wrJ, n_md, Option.bind_some, reduceIte, Nat.reduceEqDiff, Nat.reduceLeDiff, Nat.reduceLT, or_self, true_or, or_true, false_or, or_false, ne_eq, not_true_eq_false, not_false_eq_true, true_and, and_true, false_and, and_false, decide_true, decide_false, Bool.false_eq_true, decide_eq_true_eq, reduceCtorEq, Nat.add_sub_cancel, Nat.reduceAdd, Nat.reduceMul, Nat.reduceSub, am_let, V.p]
  rcases n_win (x := nI p) (n := rP r) (h := h) (by omega) with ⟨k, _, _, e⟩ | ⟨q, _⟩
  · have e' : f_Mod_within (nI p).toInt64 0 (nI (rP r) - nI 1).toInt64 h = some true := e
    rw [show nI (rP r - 1) = nI (rP r) - nI 1 from (nI_sub (by omega)).symm, e', Option.bind_some]
  · rcases q with q | q
    · exact absurd q (nI_pos (by omega))
    · exact absurd q (nI_ge hp (by omega))
theorem n_isPerson' {h : am_H} {r : sR} {s : sS} {x : Int32} (V : mV (h.2.1 137) r s) (hx : x < 0 ∨ nI (rP r) ≤ x) : f_Mod_isPerson x.toInt64 h = some false := by
  have hP := V.hP
  unfold f_Mod_isPerson
  rw [rd_lit (by decide) (by decide), Option.bind_some, V.p]
  rcases n_win (x := x) (n := rP r) (h := h) (by omega) with ⟨k, hk, rfl, e⟩ | ⟨q, e⟩
  · rcases hx with q | q
    · exact absurd q (nI_pos (by omega))
    · exact absurd q (nI_ge hk (by omega))
  · rw [e, Option.bind_some]
theorem per {h h' : am_H} {r : sR} {s : sS} (T : tV h r s) (M : mV (h'.2.1 137) r s) (x : Int32) : (∃ p, p < rP r ∧ x = nI p ∧ f_River_hasPerson 1 x h = some true ∧ f_Mod_isPerson x.toInt64 h' = some true) ∨ (f_River_hasPerson 1 x h = some false ∧ f_Mod_isPerson x.toInt64 h' = some false) := by
  have hP := T.hP
  rcases of_lt x (P := rP r) (by omega) with ⟨p, hp, rfl⟩ | ⟨q, _⟩
  · exact .inl ⟨p, hp, rfl, n_hasPerson T.1 T.2.2.1 hp, n_isPerson M hp⟩
  · exact .inr ⟨n_hasPerson' T.2.2.1 q, n_isPerson' M q⟩
theorem l_eq8 {x : Int32} : (x.toInt64 = 8) = (x = 8) := by
  apply propext
  constructor
  · intro e
    have := congrArg Int64.toInt e
    rw [Int32.toInt_toInt64] at this
    exact Int32.toInt_inj.mp this
  · intro e; subst e; rfl
theorem spt {h h' : am_H} {r : sR} {s : sS} (T : tV h r s) (M : mV (h'.2.1 137) r s) (x : Int32) : (∃ q, vSp (rG r) q ∧ x = nI q ∧ f_River_hasSpot 1 x h = some true ∧ f_Mod_isSpot x.toInt64 h' = some true) ∨ (f_River_hasSpot 1 x h = some false ∧ f_Mod_isSpot x.toInt64 h' = some false) := by
  have hG := T.hG
  have e8 : (lg_cmp x.toInt64 8 = 0) = (x = 8) := by rw [propext (lg_cmp_eq _ _), l_eq8]
  have e2 : (2 : Int32) * nI (rG r) = nI (2 * rG r) := nI_mul 2 _
  unfold f_River_hasSpot f_Mod_isSpot
  simp only [e8, T.g, rd_lit (show (1 : Nat) < 3411 by decide) (show 3411 < 2 ^ 31 by decide), Option.bind_some, M.g, e2]
  by_cases c : x = 8
  · exact .inl ⟨8, .inl rfl, c, if_pos c, if_pos c⟩
  · simp only [if_neg c]
    rcases n_win (x := x) (n := 2 * rG r) (h := h') (by omega) with ⟨k, hk, rfl, e⟩ | ⟨q, e⟩
    · rw [e, Option.bind_some]
      exact .inl ⟨k, .inr hk, rfl, by rw [if_neg (nI_pos (by omega)), if_neg (nI_ge hk (by omega))], rfl⟩
    · rw [e, Option.bind_some]
      right
      refine ⟨?_, rfl⟩
      rcases q with q | q
      · rw [if_pos q]
      · by_cases d : x < 0
        · rw [if_pos d]
        · rw [if_neg d, if_pos q]
/-- within 0 .. n, of an int: both sides' tests -/
theorem rng {h : am_H} {n : Nat} {u : Int64} (hn : n < 2 ^ 30) (hu : u = lN n) (x : Int32) : (∃ k, k ≤ n ∧ x = nI k ∧ f_Mod_within x.toInt64 0 u h = some true) ∨ ((x < 0 ∨ ¬ x ≤ nI n) ∧ f_Mod_within x.toInt64 0 u h = some false) := by
  subst hu
  rw [n_within]
  rcases of_lt x (P := n + 1) (by omega) with ⟨k, hk, rfl⟩ | ⟨q, q2⟩
  · refine .inl ⟨k, by omega, rfl, ?_⟩
    congr 1
    apply decide_eq_true
    rw [nI_l (by omega)]
    exact ⟨(lN_le (a := 0) (by omega) (by omega)).mpr (Nat.zero_le k), (lN_le (by omega) (by omega)).mpr (by omega)⟩
  · refine .inr ⟨?_, ?_⟩
    · rcases q with q | q
      · exact .inl q
      · right
        intro c
        have := Int32.le_trans q c
        exact absurd this (nI_ge (by omega) (by omega))
    · congr 1
      apply decide_eq_false
      rintro ⟨a1, a2⟩
      apply q2
      refine ⟨a1, ?_⟩
      have e : lN n < lN (n + 1) := (lN_lt (by omega) (by omega)).mpr (by omega)
      exact Int64.lt_of_le_of_lt a2 e
theorem ok_span (b : Nat) (hb : b ≤ 90000) (x : Int32) : ok1 b (f_Top_span x) (f_Mod_span x) := by
  refine ok1_of (fun g h v T M => ?_)
  have TV := T.tV v (by omega)
  have k0 : keM h (am_sI h 136 0 0) := keM.s0 (by decide)
  have MV := (M.ke k0).mV v (by omega)
  have hH := TV.hH
  have hW := TV.hW
  unfold f_Top_span f_Mod_span am_let
  rcases rng (h := am_sI h 136 0 0) (n := 999) (by decide) (show (999 : Int64) = lN 999 from rfl) x with ⟨k, hk, rfl, e⟩ | ⟨q, e⟩
  · have hm : (sH g.1.2.1 + k) % rW g.1.1 < rW g.1.1 := Nat.mod_lt _ (by omega)
    refine ⟨oI (sW g.1.2.1 ((sH g.1.2.1 + k) % rW g.1.1)), _, ?_, ?_, k0⟩
    · simp (disch := omega) only [i_0, i_1, i_2, i_3, i_4, i_5, i_6, i_7, i_8, i_9, i_10, i_11, i_12, i_13, i_14, i_15, i_16, i_17, i_18, i_19, i_20, i_21, i_22, i_23, i_24, i_25, i_26, i_27, i_28, i_29, i_30, i_31, i_32, i_33, i_34, i_35, i_36, i_37, i_38, i_39, i_40, i_41, i_42, i_43, i_45, i_46, i_48, i_50, i_57, i_58, i_59, i_60, i_61, i_62, i_63, i_65, i_91, i_93, i_97, i_99, i_100, i_101, i_102, i_103, i_104, i_105, i_106, i_107, i_108, i_109, i_110, i_111, i_112, i_113, i_114, i_115, i_116, i_117, i_118, i_119, i_120, i_121, i_122, i_171, i_200, i_236, i_237, i_255, i_256, i_900, i_999, i_1000, i_1137, i_2000, i_2001, i_2002, i_2003, i_2004, i_2005, i_2006, i_2007, i_2008, i_3000, i_3001, i_3002, i_3003, i_3004, i_3005, i_3006, i_3007, i_3008, nm_1, nI_a1, nm_2, oI_n, oI_some, nI_eqP, nI_ltP, nI_leP, nI_add, nI_mul, nI_sub, nI_div, n_rd, n_wr, n_wrJ, n_md, Option.bind_some, reduceIte, Nat.reduceEqDiff, Nat.reduceLeDiff, Nat.reduceLT, or_self, true_or, or_true, false_or, or_false, ne_eq, not_true_eq_false, not_false_eq_true, true_and, and_true, false_and, and_false, decide_true, decide_false, Bool.false_eq_true, decide_eq_true_eq, reduceCtorEq, Nat.add_sub_cancel, Nat.reduceAdd, Nat.reduceMul, Nat.reduceSub, am_let, TV.ho]
      rw [if_neg (by omega), if_pos (by omega), n_hourOfWeek TV.1 TV.2.2.1 (by omega), Option.bind_some, n_rd (by omega) (by decide), Option.bind_some, TV.wk hm]
    · simp only [e, Option.bind_some, if_true, rd_lit (show (26 : Nat) < 3411 by decide) (show 3411 < 2 ^ 31 by decide), MV.ho, nI_add]
      rw [n_spanIn MV (by omega), Option.bind_some]
  · refine ⟨-3, _, ?_, ?_, k0⟩
    · rcases q with q | q
      · rw [if_pos q]
      · by_cases d : x < 0
        · rw [if_pos d]
        · rw [if_neg d, if_neg (show ¬ x ≤ (999 : Int32) from q)]
    · simp only [e, Option.bind_some, Bool.false_eq_true, if_false]
theorem ok_fault (b : Nat) (x : Int32) : ok1 b (f_Top_fault x) (f_Mod_fault x) := by
  refine ok1_of (fun g h v T M => ?_)
  have k0 : keM h (am_sI h 136 0 0) := keM.s0 (by decide)
  have M2 := M.ke k0
  unfold f_Top_fault f_Mod_fault
  simp only [am_let, T.2.2.2.2.2.1.1, T.2.2.2.2.2.1.2, M2.2.2.2.2.2.1.1, M2.2.2.2.2.2.1.2]
  by_cases c : x = 0
  · simp only [if_pos c]; exact ⟨_, _, rfl, rfl, k0⟩
  · simp only [if_neg c]
    by_cases d : x = 1
    · simp only [if_pos d]; exact ⟨_, _, rfl, rfl, k0⟩
    · simp only [if_neg d]; exact ⟨_, _, rfl, rfl, k0⟩
theorem ok_person (b : Nat) (hb : b ≤ 90000) (x y : Int32) : ok1 b (f_Top_person x y) (f_Mod_person x y) := by
  refine ok1_of (fun g h v T M => ?_)
  have TV := T.tV v (by omega)
  have k0 : keM h (am_sI h 136 0 0) := keM.s0 (by decide)
  have MV := (M.ke k0).mV v (by omega)
  have hP := TV.hP
  have hD := TV.hD
  unfold f_Top_person f_Mod_person am_let
  rcases per TV MV x with ⟨p, hp, rfl, e1, e2⟩ | ⟨e1, e2⟩
  · simp only [e1, e2, Option.bind_some, if_true]
    have s5 : nI p &&& 31 = nI p := nI_msk (by omega)
    have e35 : (35 : Int32) + nI p = nI (35 + p) := nI_add 35 p
    have e11 : (11 : Int32) + nI p = nI (11 + p) := nI_add 11 p
    have e16 : (16 : Int32) + nI p = nI (16 + p) := nI_add 16 p
    have e21 : (21 : Int32) + nI p = nI (21 + p) := nI_add 21 p
    have e40 : (40 : Int32) + nI p = nI (40 + p) := nI_add 40 p
    simp only [e35, e11, e16, e21, e40, n_rd (show p < 5 by omega) (show 5 < 2 ^ 31 by decide), n_rd (show 35 + p < 3411 by omega) (show 3411 < 2 ^ 31 by decide), n_rd (show 11 + p < 3411 by omega) (show 3411 < 2 ^ 31 by decide), n_rd (show 16 + p < 3411 by omega) (show 3411 < 2 ^ 31 by decide), n_rd (show 21 + p < 3411 by omega) (show 3411 < 2 ^ 31 by decide), n_rd (show 40 + p < 3411 by omega) (show 3411 < 2 ^ 31 by decide), rd_lit (show (28 : Nat) < 3411 by decide) (show 3411 < 2 ^ 31 by decide), Option.bind_some, TV.sp hp, TV.ld hp, TV.to hp, TV.by hp, TV.tl hp, TV.dn, MV.sp hp, MV.to hp, MV.by hp, MV.ac hp, MV.dn, (MV.2.2.1.2.2.2.2.2.1 p hp).1, n_isIn (show sD g.1.2.1 < 2 ^ 31 by omega) (show p < 32 by omega), s5, nI_shr (show sD g.1.2.1 < 2 ^ 31 by omega) (show p < 32 by omega)]
    have e4 : nI (sD g.1.2.1 >>> p) &&& (1 : Int32) = nI (sD g.1.2.1 >>> p &&& 1) := nI_and _ 1
    rw [e4, bit_and1]
    repeat (split; exact ⟨_, _, rfl, rfl, k0⟩)
    split
    · by_cases c : (sD g.1.2.1).testBit p
      · simp only [c, if_true]; exact ⟨_, _, rfl, rfl, k0⟩
      · simp only [c, if_false, Bool.false_eq_true]; exact ⟨_, _, rfl, rfl, k0⟩
    · split
      · exact ⟨_, _, rfl, rfl, k0⟩
      · exact ⟨_, _, rfl, rfl, k0⟩
  · simp only [e1, e2, Option.bind_some, Bool.false_eq_true, if_false]
    exact ⟨_, _, rfl, rfl, k0⟩
