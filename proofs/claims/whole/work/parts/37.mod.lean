-- deps: 31.law 32.nat 33.bit 34.spec 35.riv 36.let
/-! ===== the reference: its river and its state ===== -/
def mR (A : Nat → Int32) (r : sR) : Prop :=
  A 0 = nI (rL r) ∧ A 1 = nI (rG r) ∧ A 2 = nI (rW r) ∧ A 3 = nI (rP r) ∧ A 4 = nI (rF r) ∧
  (∀ p, p < rP r → A (11 + p) = nI (rLoad r p) ∧ A (16 + p) = oI (rTo r p) ∧ A (21 + p) = oI (rBy r p)) ∧
  (lwf A 0 ∧ lwf A 1) ∧
  (∀ p s k f, p < rP r → s < 2 * rG r → k < rW r → f < 2 → slet A 0 p (s / 2) k f (s % 2) = rWk r p s k f) ∧
  (∀ p g k f d, p < rP r → g < rG r → k < rW r → f < 2 → slet A 1 p g k f d = rSv r p g k f)
def mS (A : Nat → Int32) (b : Nat) (r : sR) (s : sS) : Prop :=
  A b = nI (sH s) ∧ A (b + 1) = nI (sF s) ∧ A (b + 2) = nI (sD s) ∧ (∀ k, k < rW r → A (b + 3 + k) = oI (sW s k)) ∧
  (∀ p, p < rP r → A (b + 9 + p) = nI (sP s p) ∧ A (b + 14 + p) = nI (sT s p))
/-- what the functions of the reference need of its row -/
def mV (A : Nat → Int32) (r : sR) (s : sS) : Prop := vR r ∧ vS 100000 r s ∧ mR A r ∧ mS A 26 r s
theorem mV.wk {A : Nat → Int32} {r : sR} {s : sS} (V : mV A r s) {k : Nat} (hk : k < rW r) : A (29 + k) = oI (sW s k) := V.2.2.2.2.2.2.1 k hk
theorem mV.sp {A : Nat → Int32} {r : sR} {s : sS} (V : mV A r s) {p : Nat} (hp : p < rP r) : A (35 + p) = nI (sP s p) := (V.2.2.2.2.2.2.2 p hp).1
theorem mV.ac {A : Nat → Int32} {r : sR} {s : sS} (V : mV A r s) {p : Nat} (hp : p < rP r) : A (40 + p) = nI (sT s p) := (V.2.2.2.2.2.2.2 p hp).2
theorem mV.ho {A : Nat → Int32} {r : sR} {s : sS} (V : mV A r s) : A 26 = nI (sH s) := V.2.2.2.1
theorem mV.fo {A : Nat → Int32} {r : sR} {s : sS} (V : mV A r s) : A 27 = nI (sF s) := V.2.2.2.2.1
theorem mV.dn {A : Nat → Int32} {r : sR} {s : sS} (V : mV A r s) : A 28 = nI (sD s) := V.2.2.2.2.2.1
theorem mV.g {A : Nat → Int32} {r : sR} {s : sS} (V : mV A r s) : A 1 = nI (rG r) := V.2.2.1.2.1
theorem mV.w {A : Nat → Int32} {r : sR} {s : sS} (V : mV A r s) : A 2 = nI (rW r) := V.2.2.1.2.2.1
theorem mV.p {A : Nat → Int32} {r : sR} {s : sS} (V : mV A r s) : A 3 = nI (rP r) := V.2.2.1.2.2.2.1
theorem mV.f {A : Nat → Int32} {r : sR} {s : sS} (V : mV A r s) : A 4 = nI (rF r) := V.2.2.1.2.2.2.2.1
theorem mV.to {A : Nat → Int32} {r : sR} {s : sS} (V : mV A r s) {p : Nat} (hp : p < rP r) : A (16 + p) = oI (rTo r p) := (V.2.2.1.2.2.2.2.2.1 p hp).2.1
theorem mV.by {A : Nat → Int32} {r : sR} {s : sS} (V : mV A r s) {p : Nat} (hp : p < rP r) : A (21 + p) = oI (rBy r p) := (V.2.2.1.2.2.2.2.2.1 p hp).2.2
theorem mV.hG {A : Nat → Int32} {r : sR} {s : sS} (V : mV A r s) : 2 ≤ rG r ∧ rG r ≤ 4 := V.1.1
theorem mV.hW {A : Nat → Int32} {r : sR} {s : sS} (V : mV A r s) : 1 ≤ rW r ∧ rW r ≤ 6 := V.1.2.1
theorem mV.hP {A : Nat → Int32} {r : sR} {s : sS} (V : mV A r s) : rP r ≤ 5 := V.1.2.2.1
theorem mV.hH {A : Nat → Int32} {r : sR} {s : sS} (V : mV A r s) : sH s ≤ 100000 := V.2.1.1
theorem mV.hF {A : Nat → Int32} {r : sR} {s : sS} (V : mV A r s) : sF s ≤ 99 := V.2.1.2.1
theorem mV.hwk {A : Nat → Int32} {r : sR} {s : sS} (V : mV A r s) {k : Nat} (hk : k < rW r) : ∀ g, sW s k = some g → g < rG r := V.2.1.2.2.2.1 k hk
theorem mV.hsp {A : Nat → Int32} {r : sR} {s : sS} (V : mV A r s) {p : Nat} (hp : p < rP r) : vSp (rG r) (sP s p) := (V.2.1.2.2.2.2 p hp).1
/-- fog in n hours -/
def fg (s : sS) (n : Nat) : Nat := if n < sF s then 1 else 0
theorem fg_lt (s : sS) (n : Nat) : fg s n < 2 := by unfold fg; split <;> omega
theorem n_spanIn {h : am_H} {r : sR} {s : sS} {t : Nat} (V : mV (h.2.1 137) r s) (ht : t < 2 ^ 31) : f_Mod_spanIn (nI t) h = some (oI (sW s (t % rW r))) := by
  have hW := V.hW
  have hm : t % rW r < rW r := Nat.mod_lt _ (by omega)
  unfold f_Mod_spanIn
  simp (disch := omega) only [i_0, i_1, i_2, i_3, i_4, i_5, i_6, i_7, i_8, i_9, i_10, i_11, i_12, i_13, i_14, i_15, i_16, i_17, i_18, i_19, i_20, i_21, i_22, i_23, i_24, i_25, i_26, i_27, i_28, i_29, i_30, i_31, i_32, i_33, i_34, i_35, i_36, i_37, i_38, i_39, i_40, i_41, i_42, i_43, i_45, i_46, i_48, i_50, i_57, i_58, i_59, i_60, i_61, i_62, i_63, i_65, i_91, i_93, i_97, i_99, i_100, i_101, i_102, i_103, i_104, i_105, i_106, i_107, i_108, i_109, i_110, i_111, i_112, i_113, i_114, i_115, i_116, i_117, i_118, i_119, i_120, i_121, i_122, i_171, i_200, i_236, i_237, i_255, i_256, i_900, i_999, i_1000, i_1137, i_2000, i_2001, i_2002, i_2003, i_2004, i_2005, i_2006, i_2007, i_2008, i_3000, i_3001, i_3002, i_3003, i_3004, i_3005, i_3006, i_3007, i_3008, nm_1, nI_a1, nm_2, oI_n, oI_some, nI_eqP, nI_ltP, nI_leP, nI_add, nI_mul, nI_sub, nI_div, n_rd, n_wr, n_wrJ, n_md, Option.bind_some, reduceIte, Nat.reduceEqDiff, Nat.reduceLeDiff, Nat.reduceLT, or_self, true_or, or_true, false_or, or_false, ne_eq, not_true_eq_false, not_false_eq_true, true_and, and_true, false_and, and_false, decide_true, decide_false, Bool.false_eq_true, decide_eq_true_eq, reduceCtorEq, Nat.add_sub_cancel, Nat.reduceAdd, Nat.reduceMul, Nat.reduceSub, am_let, V.w, V.wk hm]
theorem n_fogIn {h : am_H} {r : sR} {s : sS} {n : Nat} (V : mV (h.2.1 137) r s) (hn : n < 2 ^ 31) : f_Mod_fogIn (nI n) h = some (nI (fg s n)) := by
  have hF := V.hF
  unfold f_Mod_fogIn fg
  simp (disch := omega) only [i_0, i_1, i_2, i_3, i_4, i_5, i_6, i_7, i_8, i_9, i_10, i_11, i_12, i_13, i_14, i_15, i_16, i_17, i_18, i_19, i_20, i_21, i_22, i_23, i_24, i_25, i_26, i_27, i_28, i_29, i_30, i_31, i_32, i_33, i_34, i_35, i_36, i_37, i_38, i_39, i_40, i_41, i_42, i_43, i_45, i_46, i_48, i_50, i_57, i_58, i_59, i_60, i_61, i_62, i_63, i_65, i_91, i_93, i_97, i_99, i_100, i_101, i_102, i_103, i_104, i_105, i_106, i_107, i_108, i_109, i_110, i_111, i_112, i_113, i_114, i_115, i_116, i_117, i_118, i_119, i_120, i_121, i_122, i_171, i_200, i_236, i_237, i_255, i_256, i_900, i_999, i_1000, i_1137, i_2000, i_2001, i_2002, i_2003, i_2004, i_2005, i_2006, i_2007, i_2008, i_3000, i_3001, i_3002, i_3003, i_3004, i_3005, i_3006, i_3007, i_3008, nm_1, nI_a1, nm_2, oI_n, oI_some, nI_eqP, nI_ltP, nI_leP, nI_add, nI_mul, nI_sub, nI_div, n_rd, n_wr, n_wrJ, n_md, Option.bind_some, reduceIte, Nat.reduceEqDiff, Nat.reduceLeDiff, Nat.reduceLT, or_self, true_or, or_true, false_or, or_false, ne_eq, not_true_eq_false, not_false_eq_true, true_and, and_true, false_and, and_false, decide_true, decide_false, Bool.false_eq_true, decide_eq_true_eq, reduceCtorEq, Nat.add_sub_cancel, Nat.reduceAdd, Nat.reduceMul, Nat.reduceSub, am_let, V.fo]
  by_cases c : n < sF s
  · rw [if_pos c, if_neg (by omega)]
  · rw [if_neg c, if_pos (by omega)]
/-- an act leads nowhere -/
def blk (G s act : Nat) (l : Option Nat) : Bool := if act = 0 then false else if act = 1 then decide (s = 8 ∨ G ≤ s / 2 + 1) else if act = 2 then decide (s = 8 ∨ s < 2) else if act = 3 ∨ act = 4 then decide (s = 8 ∨ l ≠ some (s / 2)) else decide (s ≠ 8 ∨ l = none)
theorem n_leads {h : am_H} {r : sR} {s : sS} {x act : Nat} {l : Option Nat} (V : mV (h.2.1 137) r s) (hx : vSp (rG r) x) (hl : ∀ g, l = some g → g < rG r) (ha : act ≤ 6) : f_Mod_leads (nI x) (nI act) (oI l) h = some (if blk (rG r) x act l then -1 else nI (mv x act l)) := by
  have hG := V.hG
  have hx9 : x < 9 := by rcases hx with c | c <;> omega
  have hl' : ∀ g, l = some g → g < 2 ^ 31 := fun g q => by have := hl g q; omega
  unfold f_Mod_leads blk mv
  rcases (show act = 0 ∨ act = 1 ∨ act = 2 ∨ act = 3 ∨ act = 4 ∨ act = 5 ∨ act = 6 by omega) with rfl | rfl | rfl | rfl | rfl | rfl | rfl
  · rfl
  · by_cases c : x = 8
    · subst c; simp (disch := omega) only [i_0, i_1, i_2, i_3, i_4, i_5, i_6, i_7, i_8, i_9, i_10, i_11, i_12, i_13, i_14, i_15, i_16, i_17, i_18, i_19, i_20, i_21, i_22, i_23, i_24, i_25, i_26, i_27, i_28, i_29, i_30, i_31, i_32, i_33, i_34, i_35, i_36, i_37, i_38, i_39, i_40, i_41, i_42, i_43, i_45, i_46, i_48, i_50, i_57, i_58, i_59, i_60, i_61, i_62, i_63, i_65, i_91, i_93, i_97, i_99, i_100, i_101, i_102, i_103, i_104, i_105, i_106, i_107, i_108, i_109, i_110, i_111, i_112, i_113, i_114, i_115, i_116, i_117, i_118, i_119, i_120, i_121, i_122, i_171, i_200, i_236, i_237, i_255, i_256, i_900, i_999, i_1000, i_1137, i_2000, i_2001, i_2002, i_2003, i_2004, i_2005, i_2006, i_2007, i_2008, i_3000, i_3001, i_3002, i_3003, i_3004, i_3005, i_3006, i_3007, i_3008, nm_1, nI_a1, nm_2, oI_n, oI_some, nI_eqP, nI_ltP, nI_leP, nI_add, nI_mul, nI_sub, nI_div, n_rd, n_wr, n_wrJ, n_md, Option.bind_some, reduceIte, Nat.reduceEqDiff, Nat.reduceLeDiff, Nat.reduceLT, or_self, true_or, or_true, false_or, or_false, ne_eq, not_true_eq_false, not_false_eq_true, true_and, and_true, false_and, and_false, decide_true, decide_false, Bool.false_eq_true, decide_eq_true_eq, reduceCtorEq, Nat.add_sub_cancel, Nat.reduceAdd, Nat.reduceMul, Nat.reduceSub, am_let]
    · simp (disch := omega) only [i_0, i_1, i_2, i_3, i_4, i_5, i_6, i_7, i_8, i_9, i_10, i_11, i_12, i_13, i_14, i_15, i_16, i_17, i_18, i_19, i_20, i_21, i_22, i_23, i_24, i_25, i_26, i_27, i_28, i_29, i_30, i_31, i_32, i_33, i_34, i_35, i_36, i_37, i_38, i_39, i_40, i_41, i_42, i_43, i_45, i_46, i_48, i_50, i_57, i_58, i_59, i_60, i_61, i_62, i_63, i_65, i_91, i_93, i_97, i_99, i_100, i_101, i_102, i_103, i_104, i_105, i_106, i_107, i_108, i_109, i_110, i_111, i_112, i_113, i_114, i_115, i_116, i_117, i_118, i_119, i_120, i_121, i_122, i_171, i_200, i_236, i_237, i_255, i_256, i_900, i_999, i_1000, i_1137, i_2000, i_2001, i_2002, i_2003, i_2004, i_2005, i_2006, i_2007, i_2008, i_3000, i_3001, i_3002, i_3003, i_3004, i_3005, i_3006, i_3007, i_3008, nm_1, nI_a1, nm_2, oI_n, oI_some, nI_eqP, nI_ltP, nI_leP, nI_add, nI_mul, nI_sub, nI_div, n_rd, n_wr, n_wrJ, n_md, Option.bind_some, reduceIte, Nat.reduceEqDiff, Nat.reduceLeDiff, Nat.reduceLT, or_self, true_or, or_true, false_or, or_false, ne_eq, not_true_eq_false, not_false_eq_true, true_and, and_true, false_and, and_false, decide_true, decide_false, Bool.false_eq_true, decide_eq_true_eq, reduceCtorEq, Nat.add_sub_cancel, Nat.reduceAdd, Nat.reduceMul, Nat.reduceSub, am_let, c, V.g]
      by_cases d : x / 2 = rG r - 1
      · rw [if_pos d, if_pos (by omega)]
      · have : ¬ rG r ≤ x / 2 + 1 := by
          rcases hx with q | q
          · exact absurd q c
          · omega
        rw [if_neg d, if_neg this]
  · by_cases c : x = 8
    · subst c; simp (disch := omega) only [i_0, i_1, i_2, i_3, i_4, i_5, i_6, i_7, i_8, i_9, i_10, i_11, i_12, i_13, i_14, i_15, i_16, i_17, i_18, i_19, i_20, i_21, i_22, i_23, i_24, i_25, i_26, i_27, i_28, i_29, i_30, i_31, i_32, i_33, i_34, i_35, i_36, i_37, i_38, i_39, i_40, i_41, i_42, i_43, i_45, i_46, i_48, i_50, i_57, i_58, i_59, i_60, i_61, i_62, i_63, i_65, i_91, i_93, i_97, i_99, i_100, i_101, i_102, i_103, i_104, i_105, i_106, i_107, i_108, i_109, i_110, i_111, i_112, i_113, i_114, i_115, i_116, i_117, i_118, i_119, i_120, i_121, i_122, i_171, i_200, i_236, i_237, i_255, i_256, i_900, i_999, i_1000, i_1137, i_2000, i_2001, i_2002, i_2003, i_2004, i_2005, i_2006, i_2007, i_2008, i_3000, i_3001, i_3002, i_3003, i_3004, i_3005, i_3006, i_3007, i_3008, nm_1, nI_a1, nm_2, oI_n, oI_some, nI_eqP, nI_ltP, nI_leP, nI_add, nI_mul, nI_sub, nI_div, n_rd, n_wr, n_wrJ, n_md, Option.bind_some, reduceIte, Nat.reduceEqDiff, Nat.reduceLeDiff, Nat.reduceLT, or_self, true_or, or_true, false_or, or_false, ne_eq, not_true_eq_false, not_false_eq_true, true_and, and_true, false_and, and_false, decide_true, decide_false, Bool.false_eq_true, decide_eq_true_eq, reduceCtorEq, Nat.add_sub_cancel, Nat.reduceAdd, Nat.reduceMul, Nat.reduceSub, am_let]
    · simp (disch := omega) only [i_0, i_1, i_2, i_3, i_4, i_5, i_6, i_7, i_8, i_9, i_10, i_11, i_12, i_13, i_14, i_15, i_16, i_17, i_18, i_19, i_20, i_21, i_22, i_23, i_24, i_25, i_26, i_27, i_28, i_29, i_30, i_31, i_32, i_33, i_34, i_35, i_36, i_37, i_38, i_39, i_40, i_41, i_42, i_43, i_45, i_46, i_48, i_50, i_57, i_58, i_59, i_60, i_61, i_62, i_63, i_65, i_91, i_93, i_97, i_99, i_100, i_101, i_102, i_103, i_104, i_105, i_106, i_107, i_108, i_109, i_110, i_111, i_112, i_113, i_114, i_115, i_116, i_117, i_118, i_119, i_120, i_121, i_122, i_171, i_200, i_236, i_237, i_255, i_256, i_900, i_999, i_1000, i_1137, i_2000, i_2001, i_2002, i_2003, i_2004, i_2005, i_2006, i_2007, i_2008, i_3000, i_3001, i_3002, i_3003, i_3004, i_3005, i_3006, i_3007, i_3008, nm_1, nI_a1, nm_2, oI_n, oI_some, nI_eqP, nI_ltP, nI_leP, nI_add, nI_mul, nI_sub, nI_div, n_rd, n_wr, n_wrJ, n_md, Option.bind_some, reduceIte, Nat.reduceEqDiff, Nat.reduceLeDiff, Nat.reduceLT, or_self, true_or, or_true, false_or, or_false, ne_eq, not_true_eq_false, not_false_eq_true, true_and, and_true, false_and, and_false, decide_true, decide_false, Bool.false_eq_true, decide_eq_true_eq, reduceCtorEq, Nat.add_sub_cancel, Nat.reduceAdd, Nat.reduceMul, Nat.reduceSub, am_let, c]
      by_cases d : 2 ≤ x
      · rw [if_pos d, if_neg (by omega)]
      · rw [if_neg d, if_pos (by omega)]
  · by_cases c : x = 8
    · subst c; simp (disch := omega) only [i_0, i_1, i_2, i_3, i_4, i_5, i_6, i_7, i_8, i_9, i_10, i_11, i_12, i_13, i_14, i_15, i_16, i_17, i_18, i_19, i_20, i_21, i_22, i_23, i_24, i_25, i_26, i_27, i_28, i_29, i_30, i_31, i_32, i_33, i_34, i_35, i_36, i_37, i_38, i_39, i_40, i_41, i_42, i_43, i_45, i_46, i_48, i_50, i_57, i_58, i_59, i_60, i_61, i_62, i_63, i_65, i_91, i_93, i_97, i_99, i_100, i_101, i_102, i_103, i_104, i_105, i_106, i_107, i_108, i_109, i_110, i_111, i_112, i_113, i_114, i_115, i_116, i_117, i_118, i_119, i_120, i_121, i_122, i_171, i_200, i_236, i_237, i_255, i_256, i_900, i_999, i_1000, i_1137, i_2000, i_2001, i_2002, i_2003, i_2004, i_2005, i_2006, i_2007, i_2008, i_3000, i_3001, i_3002, i_3003, i_3004, i_3005, i_3006, i_3007, i_3008, nm_1, nI_a1, nm_2, oI_n, oI_some, nI_eqP, nI_ltP, nI_leP, nI_add, nI_mul, nI_sub, nI_div, n_rd, n_wr, n_wrJ, n_md, Option.bind_some, reduceIte, Nat.reduceEqDiff, Nat.reduceLeDiff, Nat.reduceLT, or_self, true_or, or_true, false_or, or_false, ne_eq, not_true_eq_false, not_false_eq_true, true_and, and_true, false_and, and_false, decide_true, decide_false, Bool.false_eq_true, decide_eq_true_eq, reduceCtorEq, Nat.add_sub_cancel, Nat.reduceAdd, Nat.reduceMul, Nat.reduceSub, am_let]
    · simp (disch := omega) only [i_0, i_1, i_2, i_3, i_4, i_5, i_6, i_7, i_8, i_9, i_10, i_11, i_12, i_13, i_14, i_15, i_16, i_17, i_18, i_19, i_20, i_21, i_22, i_23, i_24, i_25, i_26, i_27, i_28, i_29, i_30, i_31, i_32, i_33, i_34, i_35, i_36, i_37, i_38, i_39, i_40, i_41, i_42, i_43, i_45, i_46, i_48, i_50, i_57, i_58, i_59, i_60, i_61, i_62, i_63, i_65, i_91, i_93, i_97, i_99, i_100, i_101, i_102, i_103, i_104, i_105, i_106, i_107, i_108, i_109, i_110, i_111, i_112, i_113, i_114, i_115, i_116, i_117, i_118, i_119, i_120, i_121, i_122, i_171, i_200, i_236, i_237, i_255, i_256, i_900, i_999, i_1000, i_1137, i_2000, i_2001, i_2002, i_2003, i_2004, i_2005, i_2006, i_2007, i_2008, i_3000, i_3001, i_3002, i_3003, i_3004, i_3005, i_3006, i_3007, i_3008, nm_1, nI_a1, nm_2, oI_n, oI_some, nI_eqP, nI_ltP, nI_leP, nI_add, nI_mul, nI_sub, nI_div, n_rd, n_wr, n_wrJ, n_md, Option.bind_some, reduceIte, Nat.reduceEqDiff, Nat.reduceLeDiff, Nat.reduceLT, or_self, true_or, or_true, false_or, or_false, ne_eq, not_true_eq_false, not_false_eq_true, true_and, and_true, false_and, and_false, decide_true, decide_false, Bool.false_eq_true, decide_eq_true_eq, reduceCtorEq, Nat.add_sub_cancel, Nat.reduceAdd, Nat.reduceMul, Nat.reduceSub, am_let, c, oI_eq2 hl', nI_xor]
      by_cases d : l = some (x / 2) <;> simp [d]
  · by_cases c : x = 8
    · subst c; simp (disch := omega) only [i_0, i_1, i_2, i_3, i_4, i_5, i_6, i_7, i_8, i_9, i_10, i_11, i_12, i_13, i_14, i_15, i_16, i_17, i_18, i_19, i_20, i_21, i_22, i_23, i_24, i_25, i_26, i_27, i_28, i_29, i_30, i_31, i_32, i_33, i_34, i_35, i_36, i_37, i_38, i_39, i_40, i_41, i_42, i_43, i_45, i_46, i_48, i_50, i_57, i_58, i_59, i_60, i_61, i_62, i_63, i_65, i_91, i_93, i_97, i_99, i_100, i_101, i_102, i_103, i_104, i_105, i_106, i_107, i_108, i_109, i_110, i_111, i_112, i_113, i_114, i_115, i_116, i_117, i_118, i_119, i_120, i_121, i_122, i_171, i_200, i_236, i_237, i_255, i_256, i_900, i_999, i_1000, i_1137, i_2000, i_2001, i_2002, i_2003, i_2004, i_2005, i_2006, i_2007, i_2008, i_3000, i_3001, i_3002, i_3003, i_3004, i_3005, i_3006, i_3007, i_3008, nm_1, nI_a1, nm_2, oI_n, oI_some, nI_eqP, nI_ltP, nI_leP, nI_add, nI_mul, nI_sub, nI_div, n_rd, n_wr, n_wrJ, n_md, Option.bind_some, reduceIte, Nat.reduceEqDiff, Nat.reduceLeDiff, Nat.reduceLT, or_self, true_or, or_true, false_or, or_false, ne_eq, not_true_eq_false, not_false_eq_true, true_and, and_true, false_and, and_false, decide_true, decide_false, Bool.false_eq_true, decide_eq_true_eq, reduceCtorEq, Nat.add_sub_cancel, Nat.reduceAdd, Nat.reduceMul, Nat.reduceSub, am_let]
    · simp (disch := omega) only [i_0, i_1, i_2, i_3, i_4, i_5, i_6, i_7, i_8, i_9, i_10, i_11, i_12, i_13, i_14, i_15, i_16, i_17, i_18, i_19, i_20, i_21, i_22, i_23, i_24, i_25, i_26, i_27, i_28, i_29, i_30, i_31, i_32, i_33, i_34, i_35, i_36, i_37, i_38, i_39, i_40, i_41, i_42, i_43, i_45, i_46, i_48, i_50, i_57, i_58, i_59, i_60, i_61, i_62, i_63, i_65, i_91, i_93, i_97, i_99, i_100, i_101, i_102, i_103, i_104, i_105, i_106, i_107, i_108, i_109, i_110, i_111, i_112, i_113, i_114, i_115, i_116, i_117, i_118, i_119, i_120, i_121, i_122, i_171, i_200, i_236, i_237, i_255, i_256, i_900, i_999, i_1000, i_1137, i_2000, i_2001, i_2002, i_2003, i_2004, i_2005, i_2006, i_2007, i_2008, i_3000, i_3001, i_3002, i_3003, i_3004, i_3005, i_3006, i_3007, i_3008, nm_1, nI_a1, nm_2, oI_n, oI_some, nI_eqP, nI_ltP, nI_leP, nI_add, nI_mul, nI_sub, nI_div, n_rd, n_wr, n_wrJ, n_md, Option.bind_some, reduceIte, Nat.reduceEqDiff, Nat.reduceLeDiff, Nat.reduceLT, or_self, true_or, or_true, false_or, or_false, ne_eq, not_true_eq_false, not_false_eq_true, true_and, and_true, false_and, and_false, decide_true, decide_false, Bool.false_eq_true, decide_eq_true_eq, reduceCtorEq, Nat.add_sub_cancel, Nat.reduceAdd, Nat.reduceMul, Nat.reduceSub, am_let, c, oI_eq2 hl', nI_xor]
      by_cases d : l = some (x / 2) <;> simp [d]
  all_goals
    by_cases c : x = 8
    · subst c
      cases l with
      | none => simp (disch := omega) only [i_0, i_1, i_2, i_3, i_4, i_5, i_6, i_7, i_8, i_9, i_10, i_11, i_12, i_13, i_14, i_15, i_16, i_17, i_18, i_19, i_20, i_21, i_22, i_23, i_24, i_25, i_26, i_27, i_28, i_29, i_30, i_31, i_32, i_33, i_34, i_35, i_36, i_37, i_38, i_39, i_40, i_41, i_42, i_43, i_45, i_46, i_48, i_50, i_57, i_58, i_59, i_60, i_61, i_62, i_63, i_65, i_91, i_93, i_97, i_99, i_100, i_101, i_102, i_103, i_104, i_105, i_106, i_107, i_108, i_109, i_110, i_111, i_112, i_113, i_114, i_115, i_116, i_117, i_118, i_119, i_120, i_121, i_122, i_171, i_200, i_236, i_237, i_255, i_256, i_900, i_999, i_1000, i_1137, i_2000, i_2001, i_2002, i_2003, i_2004, i_2005, i_2006, i_2007, i_2008, i_3000, i_3001, i_3002, i_3003, i_3004, i_3005, i_3006, i_3007, i_3008, nm_1, nI_a1, nm_2, oI_n, oI_some, nI_eqP, nI_ltP, nI_leP, nI_add, nI_mul, nI_sub, nI_div, n_rd, n_wr, n_wrJ, n_md, Option.bind_some, reduceIte, Nat.reduceEqDiff, Nat.reduceLeDiff, Nat.reduceLT, or_self, true_or, or_true, false_or, or_false, ne_eq, not_true_eq_false, not_false_eq_true, true_and, and_true, false_and, and_false, decide_true, decide_false, Bool.false_eq_true, decide_eq_true_eq, reduceCtorEq, Nat.add_sub_cancel, Nat.reduceAdd, Nat.reduceMul, Nat.reduceSub, am_let]
      | some g =>
        have := hl g rfl
        simp (disch := omega) only [i_0, i_1, i_2, i_3, i_4, i_5, i_6, i_7, i_8, i_9, i_10, i_11, i_12, i_13, i_14, i_15, i_16, i_17, i_18, i_19, i_20, i_21, i_22, i_23, i_24, i_25, i_26, i_27, i_28, i_29, i_30, i_31, i_32, i_33, i_34, i_35, i_36, i_37, i_38, i_39, i_40, i_41, i_42, i_43, i_45, i_46, i_48, i_50, i_57, i_58, i_59, i_60, i_61, i_62, i_63, i_65, i_91, i_93, i_97, i_99, i_100, i_101, i_102, i_103, i_104, i_105, i_106, i_107, i_108, i_109, i_110, i_111, i_112, i_113, i_114, i_115, i_116, i_117, i_118, i_119, i_120, i_121, i_122, i_171, i_200, i_236, i_237, i_255, i_256, i_900, i_999, i_1000, i_1137, i_2000, i_2001, i_2002, i_2003, i_2004, i_2005, i_2006, i_2007, i_2008, i_3000, i_3001, i_3002, i_3003, i_3004, i_3005, i_3006, i_3007, i_3008, nm_1, nI_a1, nm_2, oI_n, oI_some, nI_eqP, nI_ltP, nI_leP, nI_add, nI_mul, nI_sub, nI_div, n_rd, n_wr, n_wrJ, n_md, Option.bind_some, reduceIte, Nat.reduceEqDiff, Nat.reduceLeDiff, Nat.reduceLT, or_self, true_or, or_true, false_or, or_false, ne_eq, not_true_eq_false, not_false_eq_true, true_and, and_true, false_and, and_false, decide_true, decide_false, Bool.false_eq_true, decide_eq_true_eq, reduceCtorEq, Nat.add_sub_cancel, Nat.reduceAdd, Nat.reduceMul, Nat.reduceSub, am_let, Option.getD_some] <;> exact congrArg (fun x => some (nI x)) (by omega)
    · simp (disch := omega) only [i_0, i_1, i_2, i_3, i_4, i_5, i_6, i_7, i_8, i_9, i_10, i_11, i_12, i_13, i_14, i_15, i_16, i_17, i_18, i_19, i_20, i_21, i_22, i_23, i_24, i_25, i_26, i_27, i_28, i_29, i_30, i_31, i_32, i_33, i_34, i_35, i_36, i_37, i_38, i_39, i_40, i_41, i_42, i_43, i_45, i_46, i_48, i_50, i_57, i_58, i_59, i_60, i_61, i_62, i_63, i_65, i_91, i_93, i_97, i_99, i_100, i_101, i_102, i_103, i_104, i_105, i_106, i_107, i_108, i_109, i_110, i_111, i_112, i_113, i_114, i_115, i_116, i_117, i_118, i_119, i_120, i_121, i_122, i_171, i_200, i_236, i_237, i_255, i_256, i_900, i_999, i_1000, i_1137, i_2000, i_2001, i_2002, i_2003, i_2004, i_2005, i_2006, i_2007, i_2008, i_3000, i_3001, i_3002, i_3003, i_3004, i_3005, i_3006, i_3007, i_3008, nm_1, nI_a1, nm_2, oI_n, oI_some, nI_eqP, nI_ltP, nI_leP, nI_add, nI_mul, nI_sub, nI_div, n_rd, n_wr, n_wrJ, n_md, Option.bind_some, reduceIte, Nat.reduceEqDiff, Nat.reduceLeDiff, Nat.reduceLT, or_self, true_or, or_true, false_or, or_false, ne_eq, not_true_eq_false, not_false_eq_true, true_and, and_true, false_and, and_false, decide_true, decide_false, Bool.false_eq_true, decide_eq_true_eq, reduceCtorEq, Nat.add_sub_cancel, Nat.reduceAdd, Nat.reduceMul, Nat.reduceSub, am_let, c]

theorem hi_eq {r : sR} {p k f x act : Nat} {l : Option Nat} (ha : act ≤ 6) (h0 : act ≠ 0) : hi r p k f x act l = if blk (rG r) x act l then 2 else if (if act < 3 then rWk r p x k f else rSv r p (if x = 8 then l.getD 0 else x / 2) k f) then 0 else 3 := by
  unfold hi blk
  rcases (show act = 1 ∨ act = 2 ∨ act = 3 ∨ act = 4 ∨ act = 5 ∨ act = 6 by omega) with rfl | rfl | rfl | rfl | rfl | rfl
  · simp
  · simp
  · by_cases c : x = 8 <;> simp [c]
  · by_cases c : x = 8 <;> simp [c]
  · by_cases c : x = 8
    · cases l <;> simp [c]
    · simp [c]
  · by_cases c : x = 8
    · cases l <;> simp [c]
    · simp [c]
theorem n_whyAct {h : am_H} {r : sR} {s : sS} {p x act t f : Nat} (V : mV (h.2.1 137) r s) (hp : p < rP r) (hx : vSp (rG r) x) (ha : act ≤ 6) (ht : t < 2 ^ 31) (hf : f < 2) :
    ∃ h', f_Mod_whyAct (nI p) (nI x) (nI act) (nI t) (nI f) h = some (nI (hi r p (t % rW r) f x act (sW s (t % rW r))), h') ∧ am_ex [141, 142] h h' := by
  have hG := V.hG
  have hW := V.hW
  have hP := V.hP
  have hm : t % rW r < rW r := Nat.mod_lt _ (by omega)
  have hl := V.hwk hm
  have hx9 : x < 9 := by rcases hx with c | c <;> omega
  generalize hk : t % rW r = k at *
  generalize hll : sW s k = l at *
  unfold f_Mod_whyAct
  by_cases c0 : act = 0
  · subst c0
    exact ⟨h, rfl, am_ex.rf⟩
  · rw [n_spanIn V ht, hk, hll, Option.bind_some, n_leads V hx hl ha, Option.bind_some, hi_eq ha c0]
    by_cases b : blk (rG r) x act l
    · refine ⟨h, ?_, am_ex.rf⟩
      simp (disch := omega) only [i_0, i_1, i_2, i_3, i_4, i_5, i_6, i_7, i_8, i_9, i_10, i_11, i_12, i_13, i_14, i_15, i_16, i_17, i_18, i_19, i_20, i_21, i_22, i_23, i_24, i_25, i_26, i_27, i_28, i_29, i_30, i_31, i_32, i_33, i_34, i_35, i_36, i_37, i_38, i_39, i_40, i_41, i_42, i_43, i_45, i_46, i_48, i_50, i_57, i_58, i_59, i_60, i_61, i_62, i_63, i_65, i_91, i_93, i_97, i_99, i_100, i_101, i_102, i_103, i_104, i_105, i_106, i_107, i_108, i_109, i_110, i_111, i_112, i_113, i_114, i_115, i_116, i_117, i_118, i_119, i_120, i_121, i_122, i_171, i_200, i_236, i_237, i_255, i_256, i_900, i_999, i_1000, i_1137, i_2000, i_2001, i_2002, i_2003, i_2004, i_2005, i_2006, i_2007, i_2008, i_3000, i_3001, i_3002, i_3003, i_3004, i_3005, i_3006, i_3007, i_3008, nm_1, nI_a1, nm_2, oI_n, oI_some, nI_eqP, nI_ltP, nI_leP, nI_add, nI_mul, nI_sub, nI_div, n_rd, n_wr, n_wrJ, n_md, Option.bind_some, reduceIte, Nat.reduceEqDiff, Nat.reduceLeDiff, Nat.reduceLT, or_self, true_or, or_true, false_or, or_false, ne_eq, not_true_eq_false, not_false_eq_true, true_and, and_true, false_and, and_false, decide_true, decide_false, Bool.false_eq_true, decide_eq_true_eq, reduceCtorEq, Nat.add_sub_cancel, Nat.reduceAdd, Nat.reduceMul, Nat.reduceSub, am_let, c0, b]
    · have hmv : ¬ nI (mv x act l) = -1 := by
        refine nI_nm1 ?_
        have : mv x act l ≤ 20 := by
          have hx1 : ∀ x, x < 9 → x ^^^ 1 ≤ 9 := by decide
          have := hx1 x hx9
          have hg : l.getD 0 ≤ 4 := by
            cases l with
            | none => simp
            | some g => have := hl g rfl; simp; omega
          unfold mv
          repeat' split
          all_goals omega
        omega
      have hmv' : ¬ nI (mv x act l) = -nI 1 := hmv
      simp (disch := omega) only [i_0, i_1, i_2, i_3, i_4, i_5, i_6, i_7, i_8, i_9, i_10, i_11, i_12, i_13, i_14, i_15, i_16, i_17, i_18, i_19, i_20, i_21, i_22, i_23, i_24, i_25, i_26, i_27, i_28, i_29, i_30, i_31, i_32, i_33, i_34, i_35, i_36, i_37, i_38, i_39, i_40, i_41, i_42, i_43, i_45, i_46, i_48, i_50, i_57, i_58, i_59, i_60, i_61, i_62, i_63, i_65, i_91, i_93, i_97, i_99, i_100, i_101, i_102, i_103, i_104, i_105, i_106, i_107, i_108, i_109, i_110, i_111, i_112, i_113, i_114, i_115, i_116, i_117, i_118, i_119, i_120, i_121, i_122, i_171, i_200, i_236, i_237, i_255, i_256, i_900, i_999, i_1000, i_1137, i_2000, i_2001, i_2002, i_2003, i_2004, i_2005, i_2006, i_2007, i_2008, i_3000, i_3001, i_3002, i_3003, i_3004, i_3005, i_3006, i_3007, i_3008, nm_1, nI_a1, nm_2, oI_n, oI_some, nI_eqP, nI_ltP, nI_leP, nI_add, nI_mul, nI_sub, nI_div, n_rd, n_wr, n_wrJ, n_md, Option.bind_some, reduceIte, Nat.reduceEqDiff, Nat.reduceLeDiff, Nat.reduceLT, or_self, true_or, or_true, false_or, or_false, ne_eq, not_true_eq_false, not_false_eq_true, true_and, and_true, false_and, and_false, decide_true, decide_false, Bool.false_eq_true, decide_eq_true_eq, reduceCtorEq, Nat.add_sub_cancel, Nat.reduceAdd, Nat.reduceMul, Nat.reduceSub, am_let, c0, b, hmv', V.w, hk]
      have hy : (if x = 8 then oI l else nI (x / 2)) = nI (if x = 8 then l.getD 0 else x / 2) := by
        by_cases c : x = 8
        · rw [if_pos c, if_pos c]
          cases l with
          | none =>
            exfalso
            apply b
            unfold blk
            subst c
            rcases (show act = 1 ∨ act = 2 ∨ act = 3 ∨ act = 4 ∨ act = 5 ∨ act = 6 by omega) with rfl | rfl | rfl | rfl | rfl | rfl <;> simp
          | some g => rfl
        · rw [if_neg c, if_neg c]
      rw [hy]
      have hb2 : x - x / 2 * 2 = x % 2 := by omega
      by_cases c3 : 3 ≤ act
      · have hgg : (if x = 8 then l.getD 0 else x / 2) < rG r := by
          by_cases c : x = 8
          · rw [if_pos c]
            cases l with
            | none => simp; omega
            | some g => exact hl g rfl
          · rw [if_neg c]
            rcases hx with q | q
            · exact absurd q c
            · omega
        obtain ⟨h', a1, a2⟩ := n_lets (gap := if x = 8 then l.getD 0 else x / 2) (k := k) (side := x % 2) rfl (show (1 : Nat) < 2 by decide) (show p < 5 by omega) hf V.2.2.1.2.2.2.2.2.2.1.2
        refine ⟨h', ?_, a2⟩
        rw [if_pos c3, hb2]
        rw [a1, Option.bind_some, V.2.2.1.2.2.2.2.2.2.2.2 p _ k f _ hp hgg hm hf, if_neg (show ¬ act < 3 by omega)]
        generalize rSv r p (if x = 8 then l.getD 0 else x / 2) k f = z
        cases z <;> rfl
      · have hx8 : ¬ x = 8 := by
          intro c
          apply b
          unfold blk
          subst c
          rcases (show act = 1 ∨ act = 2 by omega) with rfl | rfl <;> simp
        have hx2 : x < 2 * rG r := by
          rcases hx with q | q
          · exact absurd q hx8
          · exact q
        obtain ⟨h', a1, a2⟩ := n_lets (gap := x / 2) (k := k) (side := x % 2) rfl (show (0 : Nat) < 2 by decide) (show p < 5 by omega) hf V.2.2.1.2.2.2.2.2.2.1.1
        refine ⟨h', ?_, a2⟩
        rw [if_neg c3, hb2, if_neg hx8]
        rw [a1, Option.bind_some, V.2.2.1.2.2.2.2.2.2.2.1 p x k f hp hx2 hm hf, if_pos (show act < 3 by omega)]
        generalize rWk r p x k f = z
        cases z <;> rfl
