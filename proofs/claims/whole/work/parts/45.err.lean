-- deps: 31.law 32.nat 33.bit 34.spec 35.riv 36.let 37.mod 38.mod 39.it 40.ahead 41.rel 42.ask 43.why 44.meet
/-! ===== errands ===== -/
theorem mV.vw {A : Nat → Int32} {r : sR} {s : sS} (V : mV A r s) : vW r (sW s) := fun _ hk => V.hwk hk
theorem n_isErrand {h : am_H} {r : sR} {s : sS} {p : Nat} (V : mV (h.2.1 137) r s) (hp : p < rP r) : f_Mod_isErrand (nI p) h = some (rTo r p).isSome := by
  have hP := V.hP
  have hG := V.hG
  unfold f_Mod_isErrand
  simp (disch := omega) only [i_0, i_1, i_2, i_3, i_4, i_5, i_6, i_7, i_8, i_9, i_10, i_11, i_12, i_13, i_14, i_15, i_16, i_17, i_18, i_19, i_20, i_21, i_22, i_23, i_24, i_25, i_26, i_27, i_28, i_29, i_30, i_31, i_32, i_33, i_34, i_35, i_36, i_37, i_38, i_39, i_40, i_41, i_42, i_43, i_45, i_46, i_48, i_50, i_57, i_58, i_59, i_60, i_61, i_62, i_63, i_65, i_91, i_93, i_97, i_99, i_100, i_101, i_102, i_103, i_104, i_105, i_106, i_107, i_108, i_109, i_110, i_111, i_112, i_113, i_114, i_115, i_116, i_117, i_118, i_119, i_120, i_121, i_122, i_171, i_200, i_236, i_237, i_255, i_256, i_900, i_999, i_1000, i_1137, i_2000, i_2001, i_2002, i_2003, i_2004, i_2005, i_2006, i_2007, i_2008, i_3000, i_3001, i_3002, i_3003, i_3004, i_3005, i_3006, i_3007, i_3008, nm_1, nI_a1, nm_2, oI_n, oI_some, nI_eqP, nI_ltP, nI_leP, nI_add, nI_mul, nI_sub, nI_div, n_rd, n_wr, n_wrJ, n_md, Option.bind_some, reduceIte, Nat.reduceEqDiff, Nat.reduceLeDiff, Nat.reduceLT, or_self, true_or, or_true, false_or, or_false, ne_eq, not_true_eq_false, not_false_eq_true, true_and, and_true, false_and, and_false, decide_true, decide_false, Bool.false_eq_true, decide_eq_true_eq, reduceCtorEq, Nat.add_sub_cancel, Nat.reduceAdd, Nat.reduceMul, Nat.reduceSub, am_let, V.to hp]
  cases e : rTo r p with
  | none => simp (disch := omega) only [i_0, i_1, i_2, i_3, i_4, i_5, i_6, i_7, i_8, i_9, i_10, i_11, i_12, i_13, i_14, i_15, i_16, i_17, i_18, i_19, i_20, i_21, i_22, i_23, i_24, i_25, i_26, i_27, i_28, i_29, i_30, i_31, i_32, i_33, i_34, i_35, i_36, i_37, i_38, i_39, i_40, i_41, i_42, i_43, i_45, i_46, i_48, i_50, i_57, i_58, i_59, i_60, i_61, i_62, i_63, i_65, i_91, i_93, i_97, i_99, i_100, i_101, i_102, i_103, i_104, i_105, i_106, i_107, i_108, i_109, i_110, i_111, i_112, i_113, i_114, i_115, i_116, i_117, i_118, i_119, i_120, i_121, i_122, i_171, i_200, i_236, i_237, i_255, i_256, i_900, i_999, i_1000, i_1137, i_2000, i_2001, i_2002, i_2003, i_2004, i_2005, i_2006, i_2007, i_2008, i_3000, i_3001, i_3002, i_3003, i_3004, i_3005, i_3006, i_3007, i_3008, nm_1, nI_a1, nm_2, oI_n, oI_some, nI_eqP, nI_ltP, nI_leP, nI_add, nI_mul, nI_sub, nI_div, n_rd, n_wr, n_wrJ, n_md, Option.bind_some, reduceIte, Nat.reduceEqDiff, Nat.reduceLeDiff, Nat.reduceLT, or_self, true_or, or_true, false_or, or_false, ne_eq, not_true_eq_false, not_false_eq_true, true_and, and_true, false_and, and_false, decide_true, decide_false, Bool.false_eq_true, decide_eq_true_eq, reduceCtorEq, Nat.add_sub_cancel, Nat.reduceAdd, Nat.reduceMul, Nat.reduceSub, am_let, Option.isSome_none]
  | some g =>
    have := ((V.1.2.2.2.2.2 p hp).2.1 g e).1
    simp (disch := omega) only [i_0, i_1, i_2, i_3, i_4, i_5, i_6, i_7, i_8, i_9, i_10, i_11, i_12, i_13, i_14, i_15, i_16, i_17, i_18, i_19, i_20, i_21, i_22, i_23, i_24, i_25, i_26, i_27, i_28, i_29, i_30, i_31, i_32, i_33, i_34, i_35, i_36, i_37, i_38, i_39, i_40, i_41, i_42, i_43, i_45, i_46, i_48, i_50, i_57, i_58, i_59, i_60, i_61, i_62, i_63, i_65, i_91, i_93, i_97, i_99, i_100, i_101, i_102, i_103, i_104, i_105, i_106, i_107, i_108, i_109, i_110, i_111, i_112, i_113, i_114, i_115, i_116, i_117, i_118, i_119, i_120, i_121, i_122, i_171, i_200, i_236, i_237, i_255, i_256, i_900, i_999, i_1000, i_1137, i_2000, i_2001, i_2002, i_2003, i_2004, i_2005, i_2006, i_2007, i_2008, i_3000, i_3001, i_3002, i_3003, i_3004, i_3005, i_3006, i_3007, i_3008, nm_1, nI_a1, nm_2, oI_n, oI_some, nI_eqP, nI_ltP, nI_leP, nI_add, nI_mul, nI_sub, nI_div, n_rd, n_wr, n_wrJ, n_md, Option.bind_some, reduceIte, Nat.reduceEqDiff, Nat.reduceLeDiff, Nat.reduceLT, or_self, true_or, or_true, false_or, or_false, ne_eq, not_true_eq_false, not_false_eq_true, true_and, and_true, false_and, and_false, decide_true, decide_false, Bool.false_eq_true, decide_eq_true_eq, reduceCtorEq, Nat.add_sub_cancel, Nat.reduceAdd, Nat.reduceMul, Nat.reduceSub, am_let, Option.isSome_some]
theorem n_hasErrand {h : am_H} {r : sR} {s : sS} {p : Nat} (V : tV h r s) (hp : p < rP r) : f_Weeks_hasErrand (nI p) h = some (rTo r p).isSome := by
  have hP := V.hP
  have hG := V.hG
  unfold f_Weeks_hasErrand
  simp (disch := omega) only [i_0, i_1, i_2, i_3, i_4, i_5, i_6, i_7, i_8, i_9, i_10, i_11, i_12, i_13, i_14, i_15, i_16, i_17, i_18, i_19, i_20, i_21, i_22, i_23, i_24, i_25, i_26, i_27, i_28, i_29, i_30, i_31, i_32, i_33, i_34, i_35, i_36, i_37, i_38, i_39, i_40, i_41, i_42, i_43, i_45, i_46, i_48, i_50, i_57, i_58, i_59, i_60, i_61, i_62, i_63, i_65, i_91, i_93, i_97, i_99, i_100, i_101, i_102, i_103, i_104, i_105, i_106, i_107, i_108, i_109, i_110, i_111, i_112, i_113, i_114, i_115, i_116, i_117, i_118, i_119, i_120, i_121, i_122, i_171, i_200, i_236, i_237, i_255, i_256, i_900, i_999, i_1000, i_1137, i_2000, i_2001, i_2002, i_2003, i_2004, i_2005, i_2006, i_2007, i_2008, i_3000, i_3001, i_3002, i_3003, i_3004, i_3005, i_3006, i_3007, i_3008, nm_1, nI_a1, nm_2, oI_n, oI_some, nI_eqP, nI_ltP, nI_leP, nI_add, nI_mul, nI_sub, nI_div, n_rd, n_wr, n_wrJ, n_md, Option.bind_some, reduceIte, Nat.reduceEqDiff, Nat.reduceLeDiff, Nat.reduceLT, or_self, true_or, or_true, false_or, or_false, ne_eq, not_true_eq_false, not_false_eq_true, true_and, and_true, false_and, and_false, decide_true, decide_false, Bool.false_eq_true, decide_eq_true_eq, reduceCtorEq, Nat.add_sub_cancel, Nat.reduceAdd, Nat.reduceMul, Nat.reduceSub, am_let, V.to hp]
  cases e : rTo r p with
  | none => simp (disch := omega) only [i_0, i_1, i_2, i_3, i_4, i_5, i_6, i_7, i_8, i_9, i_10, i_11, i_12, i_13, i_14, i_15, i_16, i_17, i_18, i_19, i_20, i_21, i_22, i_23, i_24, i_25, i_26, i_27, i_28, i_29, i_30, i_31, i_32, i_33, i_34, i_35, i_36, i_37, i_38, i_39, i_40, i_41, i_42, i_43, i_45, i_46, i_48, i_50, i_57, i_58, i_59, i_60, i_61, i_62, i_63, i_65, i_91, i_93, i_97, i_99, i_100, i_101, i_102, i_103, i_104, i_105, i_106, i_107, i_108, i_109, i_110, i_111, i_112, i_113, i_114, i_115, i_116, i_117, i_118, i_119, i_120, i_121, i_122, i_171, i_200, i_236, i_237, i_255, i_256, i_900, i_999, i_1000, i_1137, i_2000, i_2001, i_2002, i_2003, i_2004, i_2005, i_2006, i_2007, i_2008, i_3000, i_3001, i_3002, i_3003, i_3004, i_3005, i_3006, i_3007, i_3008, nm_1, nI_a1, nm_2, oI_n, oI_some, nI_eqP, nI_ltP, nI_leP, nI_add, nI_mul, nI_sub, nI_div, n_rd, n_wr, n_wrJ, n_md, Option.bind_some, reduceIte, Nat.reduceEqDiff, Nat.reduceLeDiff, Nat.reduceLT, or_self, true_or, or_true, false_or, or_false, ne_eq, not_true_eq_false, not_false_eq_true, true_and, and_true, false_and, and_false, decide_true, decide_false, Bool.false_eq_true, decide_eq_true_eq, reduceCtorEq, Nat.add_sub_cancel, Nat.reduceAdd, Nat.reduceMul, Nat.reduceSub, am_let, Option.isSome_none]
  | some g =>
    have := ((V.1.2.2.2.2.2 p hp).2.1 g e).1
    simp (disch := omega) only [i_0, i_1, i_2, i_3, i_4, i_5, i_6, i_7, i_8, i_9, i_10, i_11, i_12, i_13, i_14, i_15, i_16, i_17, i_18, i_19, i_20, i_21, i_22, i_23, i_24, i_25, i_26, i_27, i_28, i_29, i_30, i_31, i_32, i_33, i_34, i_35, i_36, i_37, i_38, i_39, i_40, i_41, i_42, i_43, i_45, i_46, i_48, i_50, i_57, i_58, i_59, i_60, i_61, i_62, i_63, i_65, i_91, i_93, i_97, i_99, i_100, i_101, i_102, i_103, i_104, i_105, i_106, i_107, i_108, i_109, i_110, i_111, i_112, i_113, i_114, i_115, i_116, i_117, i_118, i_119, i_120, i_121, i_122, i_171, i_200, i_236, i_237, i_255, i_256, i_900, i_999, i_1000, i_1137, i_2000, i_2001, i_2002, i_2003, i_2004, i_2005, i_2006, i_2007, i_2008, i_3000, i_3001, i_3002, i_3003, i_3004, i_3005, i_3006, i_3007, i_3008, nm_1, nI_a1, nm_2, oI_n, oI_some, nI_eqP, nI_ltP, nI_leP, nI_add, nI_mul, nI_sub, nI_div, n_rd, n_wr, n_wrJ, n_md, Option.bind_some, reduceIte, Nat.reduceEqDiff, Nat.reduceLeDiff, Nat.reduceLT, or_self, true_or, or_true, false_or, or_false, ne_eq, not_true_eq_false, not_false_eq_true, true_and, and_true, false_and, and_false, decide_true, decide_false, Bool.false_eq_true, decide_eq_true_eq, reduceCtorEq, Nat.add_sub_cancel, Nat.reduceAdd, Nat.reduceMul, Nat.reduceSub, am_let, Option.isSome_some]
theorem n_isDone {h : am_H} {r : sR} {s : sS} {p : Nat} (V : tV h r s) (hp : p < rP r) : f_Weeks_isDone (nI p) h = some ((sD s).testBit p) := by
  have hP := V.hP
  have hD := V.hD
  unfold f_Weeks_isDone
  rw [V.dn, n_hasBit (by omega) (by omega), Option.bind_some]
theorem n_isInTime {h : am_H} {r : sR} {s : sS} {p later : Nat} (V : mV (h.2.1 137) r s) (M : mT p r h) (hp : p < rP r) (he : (rTo r p).isSome = true) (hla : later ≤ 60) : f_Mod_isInTime (nI p) (nI later) h = some (iT r s (sW s) p later) := by
  have hP := V.hP
  have hG := V.hG
  have hH := V.hH
  have hD : sD s < 32 := V.2.1.2.2.1
  obtain ⟨g, hg⟩ := Option.isSome_iff_exists.mp he
  obtain ⟨hg1, b, hb, hb1⟩ := (V.1.2.2.2.2.2 p hp).2.1 g hg
  unfold f_Mod_isInTime iT
  simp (disch := omega) only [i_0, i_1, i_2, i_3, i_4, i_5, i_6, i_7, i_8, i_9, i_10, i_11, i_12, i_13, i_14, i_15, i_16, i_17, i_18, i_19, i_20, i_21, i_22, i_23, i_24, i_25, i_26, i_27, i_28, i_29, i_30, i_31, i_32, i_33, i_34, i_35, i_36, i_37, i_38, i_39, i_40, i_41, i_42, i_43, i_45, i_46, i_48, i_50, i_57, i_58, i_59, i_60, i_61, i_62, i_63, i_65, i_91, i_93, i_97, i_99, i_100, i_101, i_102, i_103, i_104, i_105, i_106, i_107, i_108, i_109, i_110, i_111, i_112, i_113, i_114, i_115, i_116, i_117, i_118, i_119, i_120, i_121, i_122, i_171, i_200, i_236, i_237, i_255, i_256, i_900, i_999, i_1000, i_1137, i_2000, i_2001, i_2002, i_2003, i_2004, i_2005, i_2006, i_2007, i_2008, i_3000, i_3001, i_3002, i_3003, i_3004, i_3005, i_3006, i_3007, i_3008, nm_1, nI_a1, nm_2, oI_n, oI_some, nI_eqP, nI_ltP, nI_leP, nI_add, nI_mul, nI_sub, nI_div, n_rd, n_wr, n_wrJ, n_md, Option.bind_some, reduceIte, Nat.reduceEqDiff, Nat.reduceLeDiff, Nat.reduceLT, or_self, true_or, or_true, false_or, or_false, ne_eq, not_true_eq_false, not_false_eq_true, true_and, and_true, false_and, and_false, decide_true, decide_false, Bool.false_eq_true, decide_eq_true_eq, reduceCtorEq, Nat.add_sub_cancel, Nat.reduceAdd, Nat.reduceMul, Nat.reduceSub, am_let, V.dn]
  rw [n_isIn (by omega) (by omega), Option.bind_some]
  by_cases d : (sD s).testBit p
  · simp only [d, if_true, Bool.true_or]
  · simp only [Bool.not_eq_true] at d
    simp only [d, Bool.false_eq_true, if_false, Bool.false_or]
    rw [V.sp hp, V.to hp, V.by hp, hg, hb, oI_some, oI_some, n_hoursTo V M (V.hsp hp) (by omega) hla, Option.bind_some]
    cases hf : ff (fun n => (it r s (sW s) p later (1 <<< sP s p) n).testBit g) 0 61 with
    | none =>
      simp only [hf]
      simp (disch := omega) only [i_0, i_1, i_2, i_3, i_4, i_5, i_6, i_7, i_8, i_9, i_10, i_11, i_12, i_13, i_14, i_15, i_16, i_17, i_18, i_19, i_20, i_21, i_22, i_23, i_24, i_25, i_26, i_27, i_28, i_29, i_30, i_31, i_32, i_33, i_34, i_35, i_36, i_37, i_38, i_39, i_40, i_41, i_42, i_43, i_45, i_46, i_48, i_50, i_57, i_58, i_59, i_60, i_61, i_62, i_63, i_65, i_91, i_93, i_97, i_99, i_100, i_101, i_102, i_103, i_104, i_105, i_106, i_107, i_108, i_109, i_110, i_111, i_112, i_113, i_114, i_115, i_116, i_117, i_118, i_119, i_120, i_121, i_122, i_171, i_200, i_236, i_237, i_255, i_256, i_900, i_999, i_1000, i_1137, i_2000, i_2001, i_2002, i_2003, i_2004, i_2005, i_2006, i_2007, i_2008, i_3000, i_3001, i_3002, i_3003, i_3004, i_3005, i_3006, i_3007, i_3008, nm_1, nI_a1, nm_2, oI_n, oI_some, nI_eqP, nI_ltP, nI_leP, nI_add, nI_mul, nI_sub, nI_div, n_rd, n_wr, n_wrJ, n_md, Option.bind_some, reduceIte, Nat.reduceEqDiff, Nat.reduceLeDiff, Nat.reduceLT, or_self, true_or, or_true, false_or, or_false, ne_eq, not_true_eq_false, not_false_eq_true, true_and, and_true, false_and, and_false, decide_true, decide_false, Bool.false_eq_true, decide_eq_true_eq, reduceCtorEq, Nat.add_sub_cancel, Nat.reduceAdd, Nat.reduceMul, Nat.reduceSub, am_let]
    | some n =>
      have := (ff_some hf).2.1
      simp only [hf]
      simp (disch := omega) only [i_0, i_1, i_2, i_3, i_4, i_5, i_6, i_7, i_8, i_9, i_10, i_11, i_12, i_13, i_14, i_15, i_16, i_17, i_18, i_19, i_20, i_21, i_22, i_23, i_24, i_25, i_26, i_27, i_28, i_29, i_30, i_31, i_32, i_33, i_34, i_35, i_36, i_37, i_38, i_39, i_40, i_41, i_42, i_43, i_45, i_46, i_48, i_50, i_57, i_58, i_59, i_60, i_61, i_62, i_63, i_65, i_91, i_93, i_97, i_99, i_100, i_101, i_102, i_103, i_104, i_105, i_106, i_107, i_108, i_109, i_110, i_111, i_112, i_113, i_114, i_115, i_116, i_117, i_118, i_119, i_120, i_121, i_122, i_171, i_200, i_236, i_237, i_255, i_256, i_900, i_999, i_1000, i_1137, i_2000, i_2001, i_2002, i_2003, i_2004, i_2005, i_2006, i_2007, i_2008, i_3000, i_3001, i_3002, i_3003, i_3004, i_3005, i_3006, i_3007, i_3008, nm_1, nI_a1, nm_2, oI_n, oI_some, nI_eqP, nI_ltP, nI_leP, nI_add, nI_mul, nI_sub, nI_div, n_rd, n_wr, n_wrJ, n_md, Option.bind_some, reduceIte, Nat.reduceEqDiff, Nat.reduceLeDiff, Nat.reduceLT, or_self, true_or, or_true, false_or, or_false, ne_eq, not_true_eq_false, not_false_eq_true, true_and, and_true, false_and, and_false, decide_true, decide_false, Bool.false_eq_true, decide_eq_true_eq, reduceCtorEq, Nat.add_sub_cancel, Nat.reduceAdd, Nat.reduceMul, Nat.reduceSub, am_let, V.ho]
      by_cases c : b < sH s + later + n
      · rw [if_pos c]
        congr 1
        symm
        exact decide_eq_false (by omega)
      · rw [if_neg c]
        congr 1
        symm
        exact decide_eq_true (by omega)
/-- the hours that are left, at most 60; none: it is too late -/
def lft (r : sR) (s : sS) (p : Nat) : Option Nat := match rBy r p with
  | none => none
  | some b => if sH s ≤ b then some (min 60 (b - sH s)) else none
theorem sub_neg {a b : Nat} (ha : a < 2 ^ 30) (hb : b < 2 ^ 30) (h : a < b) : nI a - nI b < 0 := by
  rw [Int32.lt_iff_toInt_lt, Int32.toInt_sub, nI_toInt (by omega), nI_toInt (by omega), Int.bmod_eq_of_le (by omega) (by omega)]
  have : (0 : Int32).toInt = 0 := by decide
  omega
theorem lt60 {x : Int32} (h : x < 0) : (if x < (60 : Int32) then x else 60) = x := if_pos (Int32.lt_trans h (by decide))
theorem min60 {n : Nat} (h : n < 2 ^ 31) : (if nI n < (60 : Int32) then nI n else 60) = nI (min 60 n) := by
  by_cases c : n < 60
  · rw [if_pos (show nI n < (60 : Int32) from (nI_ltI h (b := 60) (by decide)).mpr c), show min 60 n = n by omega]
  · rw [if_neg (show ¬ nI n < (60 : Int32) from fun q => c ((nI_ltI h (b := 60) (by decide)).mp q)), show min 60 n = 60 by omega]; rfl
theorem n_hoursLeft {h : am_H} {r : sR} {s : sS} {p b : Nat} (V : tV h r s) (hp : p < rP r) (hb : rBy r p = some b) (hb1 : b ≤ 999) : (∃ m, lft r s p = some m ∧ m ≤ 60 ∧ f_Weeks_hoursLeft (nI p) h = some (nI m)) ∨ (lft r s p = none ∧ ∃ y, y < 0 ∧ f_Weeks_hoursLeft (nI p) h = some y) := by
  have hP := V.hP
  have hH := V.hH
  unfold f_Weeks_hoursLeft lft
  rw [n_rd (by omega) (by decide), Option.bind_some, V.by hp, hb, oI_some, V.ho]
  by_cases c : sH s ≤ b
  · left
    refine ⟨min 60 (b - sH s), ?_, by omega, ?_⟩
    · simp only [if_pos c]
    · rw [nI_sub c, min60 (by omega)]
  · right
    refine ⟨?_, nI b - nI (sH s), sub_neg (by omega) (by omega) (by omega), ?_⟩
    · simp only [if_neg c]
    · rw [lt60 (sub_neg (by omega) (by omega) (by omega))]
theorem ff_lim {P : Nat → Bool} {m : Nat} (hm : m ≤ 60) : (ff P 0 (m + 1)).isSome = (match ff P 0 61 with
    | some n => decide (n ≤ m)
    | none => false) := by
  cases h : ff P 0 61 with
  | none =>
    rw [ff_none' (fun i a b => ff_none h i a (by omega))]
    rfl
  | some n =>
    obtain ⟨a, b, c, d⟩ := ff_some h
    by_cases e : n ≤ m
    · rw [ff_some' (n := n) (by omega) (by omega) c d]
      simp [e]
    · rw [ff_none' (fun i q1 q2 => d i q1 (by omega))]
      simp [e]
/-- comes by a week, not being done -/
def cm (r : sR) (s : sS) (wk : Nat → Option Nat) (p : Nat) : Bool := match rTo r p, rBy r p with
  | some g, some b => (match ff (fun n => (it r s wk p 0 (1 <<< sP s p) n).testBit g) 0 61 with
    | some n => decide (sH s + n ≤ b)
    | none => false)
  | _, _ => false
theorem iT_cm {r : sR} {s : sS} {wk : Nat → Option Nat} {p : Nat} : iT r s wk p 0 = ((sD s).testBit p || cm r s wk p) := rfl
theorem n_comes {h : am_H} {r : sR} {s : sS} {p q : Nat} {wk : Nat → Option Nat} (V : tV h r s) (T : tW h q r wk) (hp : p < rP r) (he : (rTo r p).isSome = true) : f_Weeks_comes (nI p) q 6 h = some (cm r s wk p) := by
  have hP := V.hP
  have hG := V.hG
  have hH := V.hH
  have hsp := V.hsp hp
  have hx9 : sP s p < 9 := by rcases hsp with c | c <;> omega
  obtain ⟨g, hg⟩ := Option.isSome_iff_exists.mp he
  obtain ⟨hg1, b, hb, hb1⟩ := (V.1.2.2.2.2.2 p hp).2.1 g hg
  unfold f_Weeks_comes cm
  rw [n_rd (by omega) (by decide), Option.bind_some, n_rd (by omega) (by decide), Option.bind_some, V.sp hp, V.to hp, hg, hb, oI_some, shl1 (by omega)]
  rcases n_hoursLeft V hp hb hb1 with ⟨m, e1, e2, e3⟩ | ⟨e1, y, e2, e3⟩
  · have e0 : f_Ahead_hoursFrom (nI p) (nI (1 <<< sP s p)) (nI g) q 6 0 (nI m) h = _ := n_hoursFrom (fr := 0) (m := m) V T hp (one_v hsp) (by omega) (by omega) (by omega)
    rw [e3, Option.bind_some, e0, Option.bind_some]
    have hl := ff_lim (P := fun n => (it r s wk p 0 (1 <<< sP s p) n).testBit g) e2
    have hmm : m = min 60 (b - sH s) ∧ sH s ≤ b := by
      unfold lft at e1
      rw [hb] at e1
      simp only at e1
      by_cases c : sH s ≤ b
      · rw [if_pos c] at e1; cases e1; exact ⟨rfl, c⟩
      · rw [if_neg c] at e1; cases e1
    have hR : (match ff (fun n => (it r s wk p 0 (1 <<< sP s p) n).testBit g) 0 61 with
        | some n => decide (sH s + n ≤ b)
        | none => false) = (ff (fun n => (it r s wk p 0 (1 <<< sP s p) n).testBit g) 0 (m + 1)).isSome := by
      rw [hl]
      cases hf : ff (fun n => (it r s wk p 0 (1 <<< sP s p) n).testBit g) 0 61 with
      | none => rfl
      | some n =>
        have := (ff_some hf).2.1
        exact decide_eq_decide.mpr (by omega)
    show _ = some (match ff (fun n => (it r s wk p 0 (1 <<< sP s p) n).testBit g) 0 61 with
        | some n => decide (sH s + n ≤ b)
        | none => false)
    rw [hR]
    cases hf : ff (fun n => (it r s wk p 0 (1 <<< sP s p) n).testBit g) 0 (m + 1) with
    | none => rw [oI_none, if_pos rfl]; rfl
    | some n =>
      have := (ff_some hf).2.1
      rw [oI_some, if_neg (nI_nm1 (by omega))]; rfl
  · have e0 : f_Ahead_hoursFrom (nI p) (nI (1 <<< sP s p)) (nI g) q 6 0 y h = some (oI none) := n_hoursFrom' (fr := 0) V (by omega) e2
    rw [e3, Option.bind_some, e0, Option.bind_some, oI_none, if_pos rfl]
    have hlt : ¬ sH s ≤ b := by
      intro c
      unfold lft at e1
      rw [hb] at e1
      simp only [if_pos c] at e1
      cases e1
    show _ = some (match ff (fun n => (it r s wk p 0 (1 <<< sP s p) n).testBit g) 0 61 with
        | some n => decide (sH s + n ≤ b)
        | none => false)
    cases ff (fun n => (it r s wk p 0 (1 <<< sP s p) n).testBit g) 0 61 with
    | none => rfl
    | some n =>
      congr 1
      symm
      exact decide_eq_false (by omega)
/-- errands in time, as bits -/
def inS (r : sR) (s : sS) (wk : Nat → Option Nat) : Nat := bts (rP r) (fun p => (rTo r p).isSome && iT r s wk p 0)
theorem bts5 {n : Nat} {c : Nat → Bool} (hn : n ≤ 5) : bts n c < 32 := Nat.lt_of_lt_of_le (bts_lt n c) (Nat.pow_le_pow_right (by omega) (n := 2) (i := n) (j := 5) hn)
theorem n_doneInTime {h : am_H} {r : sR} {s : sS} {q : Nat} {wk : Nat → Option Nat} (V : tV h r s) (T : tW h q r wk) : f_Weeks_doneInTime q 6 h = some (nI (inS r s wk)) := by
  have hP := V.hP
  have L := lp (fun k (a : Int32 × Int32) => f_Weeks_doneInTime_L4 q 6 k a.1 a.2 h)
    (fun m a => ∃ p, m + p = rP r ∧ a = (nI (bts p (fun p => (rTo r p).isSome && iT r s wk p 0)), nI p))
    (fun b => b.1 = nI (inS r s wk))
    (fun k m a hI => by
      obtain ⟨p, h1, rfl⟩ := hI
      simp only
      rw [f_Weeks_doneInTime_L4, V.p]
      have hb := bts5 (n := p) (c := fun p => (rTo r p).isSome && iT r s wk p 0) (by omega)
      by_cases c : p < rP r
      · right
        rw [if_neg (nI_ge c (by omega)), n_hasErrand V c, Option.bind_some, shl1 (by omega), nI_or, nI_1]
        refine ⟨m - 1, (nI (bts (p + 1) (fun p => (rTo r p).isSome && iT r s wk p 0)), nI (p + 1)), by omega, ?_, p + 1, by omega, rfl⟩
        rw [bts_s]
        cases he : (rTo r p).isSome with
        | false =>
          rw [if_ff]
          simp only [Bool.false_and, Bool.false_eq_true, if_false, Nat.or_zero]
        | true =>
          rw [if_tt, n_isDone V c, Option.bind_some, iT_cm]
          cases hd : (sD s).testBit p with
          | true =>
            simp only [if_true, Bool.true_or, Bool.true_and]
          | false =>
            rw [if_ff, n_comes V T c he, Option.bind_some]
            cases hc : cm r s wk p <;> simp
      · left
        have : p = rP r := by omega
        subst this
        rw [if_pos (nI_le (Nat.le_refl _) (by omega))]
        exact ⟨_, rfl, rfl⟩)
  obtain ⟨b, e1, e2⟩ := L am_fu (rP r) (nI 0, nI 0) (by unfold am_fu; omega) ⟨0, by omega, rfl⟩
  unfold f_Weeks_doneInTime
  have e1' : f_Weeks_doneInTime_L4 q 6 am_fu 0 0 h = some b := e1
  rw [e1', Option.bind_some, e2]
theorem n_inTimeSet {h : am_H} {r : sR} {s : sS} (V : mV (h.2.1 137) r s) : ∃ h', f_Mod_inTimeSet h = some (nI (inS r s (sW s)), h') ∧ am_ex [141, 142, 144, 145, 146] h h' := by
  have hP := V.hP
  have L := lp (fun k (a : Int32 × Int32 × am_H) => f_Mod_inTimeSet_L4 k a.1 a.2.1 a.2.2)
    (fun m a => ∃ p, m + p = rP r ∧ a.1 = nI (bts p (fun p => (rTo r p).isSome && iT r s (sW s) p 0)) ∧ a.2.1 = nI p ∧ am_ex [141, 142, 144, 145, 146] h a.2.2)
    (fun b => b.1 = nI (inS r s (sW s)) ∧ am_ex [141, 142, 144, 145, 146] h b.2.2)
    (fun k m a hI => by
      obtain ⟨p, h1, h2, h3, hx⟩ := hI
      obtain ⟨a1, a2, a3⟩ := a
      simp only at h2 h3 hx
      subst h2 h3
      simp only
      have V2 := V.ex hx (by decide)
      rw [f_Mod_inTimeSet_L4, rd_lit (by decide) (by decide), Option.bind_some, V2.p]
      have hb := bts5 (n := p) (c := fun p => (rTo r p).isSome && iT r s (sW s) p 0) (by omega)
      by_cases c : p < rP r
      · right
        rw [if_neg (nI_ge c (by omega)), n_isErrand V2 c, Option.bind_some, shl1 (by omega), nI_or, nI_1]
        cases he : (rTo r p).isSome with
        | false =>
          rw [if_ff]
          refine ⟨m - 1, (_, _, _), by omega, rfl, p + 1, by omega, ?_, rfl, hx⟩
          simp only [bts_s, he, Bool.false_and, Bool.false_eq_true, if_false, Nat.or_zero]
          rfl
        | true =>
          obtain ⟨h', b1, b2, b3⟩ := n_laysLets c V2
          have V3 := V2.ex b2 (by decide)
          have e0 : f_Mod_isInTime (nI p) 0 h' = some (iT r s (sW s) p 0) := n_isInTime (later := 0) V3 b3 c he (by omega)
          rw [if_tt, b1, Option.bind_some, e0, Option.bind_some]
          have e00 : nI (bts p (fun p => (rTo r p).isSome && iT r s (sW s) p 0)) ||| (0 : Int32) = nI (bts p (fun p => (rTo r p).isSome && iT r s (sW s) p 0)) := by
            have : nI (bts p (fun p => (rTo r p).isSome && iT r s (sW s) p 0)) ||| nI 0 = _ := nI_or _ 0
            rw [Nat.or_zero] at this
            exact this
          rw [e00]
          have hx2 := hx.tr b2 (Z := [141, 142, 144, 145, 146]) (fun _ z => z) (fun _ z => z)
          cases hc : iT r s (sW s) p 0 with
          | true =>
            rw [if_tt]
            refine ⟨m - 1, (_, _, _), by omega, rfl, p + 1, by omega, ?_, rfl, hx2⟩
            simp only [bts_s, he, hc, Bool.true_and, if_true]
            rfl
          | false =>
            rw [if_ff]
            refine ⟨m - 1, (_, _, _), by omega, rfl, p + 1, by omega, ?_, rfl, hx2⟩
            simp only [bts_s, he, hc, Bool.and_false, Bool.false_eq_true, if_false, Nat.or_zero]
            rfl
      · left
        have : p = rP r := by omega
        subst this
        rw [if_pos (nI_le (Nat.le_refl _) (by omega))]
        exact ⟨_, rfl, rfl, hx⟩)
  obtain ⟨b, e1, e2, e3⟩ := L am_fu (rP r) (nI 0, nI 0, h) (by unfold am_fu; omega) ⟨0, by omega, rfl, rfl, am_ex.rf⟩
  refine ⟨b.2.2, ?_, e3⟩
  unfold f_Mod_inTimeSet
  have e1' : f_Mod_inTimeSet_L4 am_fu 0 0 h = some b := e1
  rw [e1', Option.bind_some, e2]
theorem ok_inTime (b : Nat) (hb : b ≤ 90000) : ok1 b f_Top_inTime f_Mod_inTime := by
  refine ok1_of (fun g h v T M => ?_)
  have TV := T.tV v (by omega)
  have k0 : keM h (am_sI h 136 0 0) := keM.s0 (by decide)
  have MV := (M.ke k0).mV v (by omega)
  unfold f_Top_inTime f_Mod_inTime
  simp only [am_let]
  obtain ⟨h', a1, a2⟩ := n_inTimeSet MV
  rw [n_doneInTime TV TV.tW, a1]
  exact ⟨_, _, rfl, rfl, k0.tr (a2.keM (by decide))⟩
