-- deps: 31.law 32.nat 33.bit 34.spec 35.riv 36.let 37.mod 38.mod 39.it
/-! ===== the class: the hours to come ===== -/
def tV (h : am_H) (r : sR) (s : sS) : Prop := vR r ∧ vS 100000 r s ∧ tR 1 r h ∧ tS 10 r s h
/-- a row of a week -/
def tW (h : am_H) (q : Nat) (r : sR) (wk : Nat → Option Nat) : Prop := vW r wk ∧ ∀ k, k < rW r → h.2.1 q k = oI (wk k)
theorem tV.hG {h : am_H} {r : sR} {s : sS} (V : tV h r s) : 2 ≤ rG r ∧ rG r ≤ 4 := V.1.1
theorem tV.hW {h : am_H} {r : sR} {s : sS} (V : tV h r s) : 1 ≤ rW r ∧ rW r ≤ 6 := V.1.2.1
theorem tV.hP {h : am_H} {r : sR} {s : sS} (V : tV h r s) : rP r ≤ 5 := V.1.2.2.1
theorem tV.hH {h : am_H} {r : sR} {s : sS} (V : tV h r s) : sH s ≤ 100000 := V.2.1.1
theorem tV.hF {h : am_H} {r : sR} {s : sS} (V : tV h r s) : sF s ≤ 99 := V.2.1.2.1
theorem tV.hD {h : am_H} {r : sR} {s : sS} (V : tV h r s) : sD s < 32 := V.2.1.2.2.1
theorem tV.hsp {h : am_H} {r : sR} {s : sS} (V : tV h r s) {p : Nat} (hp : p < rP r) : vSp (rG r) (sP s p) := (V.2.1.2.2.2.2 p hp).1
theorem tV.g {h : am_H} {r : sR} {s : sS} (V : tV h r s) : h.2.1 1 0 = nI (rG r) := V.2.2.1.1
theorem tV.w {h : am_H} {r : sR} {s : sS} (V : tV h r s) : h.2.1 1 1 = nI (rW r) := V.2.2.1.2.1
theorem tV.p {h : am_H} {r : sR} {s : sS} (V : tV h r s) : h.2.1 1 2 = nI (rP r) := V.2.2.1.2.2.1
theorem tV.f {h : am_H} {r : sR} {s : sS} (V : tV h r s) : h.2.1 1 3 = nI (rF r) := V.2.2.1.2.2.2.1
theorem tV.ho {h : am_H} {r : sR} {s : sS} (V : tV h r s) : h.2.1 10 0 = nI (sH s) := V.2.2.2.1
theorem tV.fo {h : am_H} {r : sR} {s : sS} (V : tV h r s) : h.2.1 10 1 = nI (sF s) := V.2.2.2.2.1
theorem tV.dn {h : am_H} {r : sR} {s : sS} (V : tV h r s) : h.2.1 10 2 = nI (sD s) := V.2.2.2.2.2.1
theorem tV.wk {h : am_H} {r : sR} {s : sS} (V : tV h r s) {k : Nat} (hk : k < rW r) : h.2.1 11 k = oI (sW s k) := V.2.2.2.2.2.2.1 k hk
theorem tV.sp {h : am_H} {r : sR} {s : sS} (V : tV h r s) {p : Nat} (hp : p < rP r) : h.2.1 12 p = nI (sP s p) := (V.2.2.2.2.2.2.2 p hp).1
theorem tV.tl {h : am_H} {r : sR} {s : sS} (V : tV h r s) {p : Nat} (hp : p < rP r) : h.2.1 13 p = nI (sT s p) := (V.2.2.2.2.2.2.2 p hp).2
theorem tV.ld {h : am_H} {r : sR} {s : sS} (V : tV h r s) {p : Nat} (hp : p < rP r) : h.2.1 4 p = nI (rLoad r p) := (V.2.2.1.2.2.2.2.2.1 p hp).1
theorem tV.to {h : am_H} {r : sR} {s : sS} (V : tV h r s) {p : Nat} (hp : p < rP r) : h.2.1 5 p = oI (rTo r p) := (V.2.2.1.2.2.2.2.2.1 p hp).2.1
theorem tV.by {h : am_H} {r : sR} {s : sS} (V : tV h r s) {p : Nat} (hp : p < rP r) : h.2.1 6 p = oI (rBy r p) := (V.2.2.1.2.2.2.2.2.1 p hp).2.2
theorem tV.vw {h : am_H} {r : sR} {s : sS} (V : tV h r s) : vW r (sW s) := V.2.1.2.2.2.1
theorem tV.tW {h : am_H} {r : sR} {s : sS} (V : tV h r s) : tW h 11 r (sW s) := ⟨V.vw, fun _ hk => V.wk hk⟩
theorem oI_inj {a b : Option Nat} (ha : ∀ g, a = some g → g < 2 ^ 31) (hb : ∀ g, b = some g → g < 2 ^ 31) (h : oI a = oI b) : a = b := by
  cases b with
  | none => rw [oI_none, oI_m1 ha] at h; exact h
  | some g => rw [oI_some, oI_eq ha (hb g rfl)] at h; exact h
theorem n_hoursFrom {h : am_H} {r : sR} {s : sS} {p x g q fr m : Nat} {wk : Nat → Option Nat} (V : tV h r s) (T : tW h q r wk) (hp : p < rP r) (hx : vSet (rG r) x) (hg : g < 9) (hfr : fr ≤ 100) (hm : m ≤ 100) :
    f_Ahead_hoursFrom (nI p) (nI x) (nI g) q 6 (nI fr) (nI m) h = some (oI (ff (fun n => (it r s wk p fr x n).testBit g) 0 (m + 1))) := by
  have hG := V.hG
  have hW := V.hW
  have hH := V.hH
  have hF := V.hF
  have hset : ∀ n, it r s wk p fr x n < 512 := fun n => (it_v V.1 T.1 hx n).lt hG.2
  generalize hres : ff (fun n => (it r s wk p fr x n).testBit g) 0 (m + 1) = res
  have L := lp (fun n (a : Int32 × Int32 × Int32 × Int32) => f_Ahead_hoursFrom_L30 (nI p) (nI x) (nI g) q 6 (nI fr) (nI m) n a.1 (nI (1 <<< g)) a.2.1 a.2.2.1 a.2.2.2 h)
    (fun k a => ∃ t st, k + t = m + 1 ∧ a = (nI (it r s wk p fr x t), nI ((sH s + fr + t) % rW r), nI st, nI t) ∧ res = ff (fun n => (it r s wk p fr x n).testBit g) t k ∧ st < rW r ∧ st ≤ t ∧ ∀ i, t - st ≤ i → i < t → it r s wk p fr x (i + 1) = it r s wk p fr x i ∧ fg s (fr + i) = 0)
    (fun b => b = oI res)
    (fun n k a hI => by
      obtain ⟨t, st, h1, rfl, h3, h4, h5, h6⟩ := hI
      simp only
      rw [f_Ahead_hoursFrom_L30]
      have hb := hset t
      simp (disch := omega) only [i_0, i_1, i_2, i_3, i_4, i_5, i_6, i_7, i_8, i_9, i_10, i_11, i_12, i_13, i_14, i_15, i_16, i_17, i_18, i_19, i_20, i_21, i_22, i_23, i_24, i_25, i_26, i_27, i_28, i_29, i_30, i_31, i_32, i_33, i_34, i_35, i_36, i_37, i_38, i_39, i_40, i_41, i_42, i_43, i_45, i_46, i_48, i_50, i_57, i_58, i_59, i_60, i_61, i_62, i_63, i_65, i_91, i_93, i_97, i_99, i_100, i_101, i_102, i_103, i_104, i_105, i_106, i_107, i_108, i_109, i_110, i_111, i_112, i_113, i_114, i_115, i_116, i_117, i_118, i_119, i_120, i_121, i_122, i_171, i_200, i_236, i_237, i_255, i_256, i_900, i_999, i_1000, i_1137, i_2000, i_2001, i_2002, i_2003, i_2004, i_2005, i_2006, i_2007, i_2008, i_3000, i_3001, i_3002, i_3003, i_3004, i_3005, i_3006, i_3007, i_3008, nm_1, nI_a1, nm_2, oI_n, oI_some, nI_eqP, nI_ltP, nI_leP, nI_add, nI_mul, nI_sub, nI_div, n_rd, n_wr, n_wrJ, n_md, Option.bind_some, reduceIte, Nat.reduceEqDiff, Nat.reduceLeDiff, Nat.reduceLT, or_self, true_or, or_true, false_or, or_false, ne_eq, not_true_eq_false, not_false_eq_true, true_and, and_true, false_and, and_false, decide_true, decide_false, Bool.false_eq_true, decide_eq_true_eq, reduceCtorEq, Nat.add_sub_cancel, Nat.reduceAdd, Nat.reduceMul, Nat.reduceSub, am_let]
      by_cases c : m < t
      · left
        rw [if_pos c]
        have : k = 0 := by omega
        subst this
        refine ⟨_, rfl, ?_⟩
        rw [h3]
        rfl
      · rw [if_neg c]
        obtain ⟨k, rfl⟩ : ∃ k', k = k' + 1 := ⟨k - 1, by omega⟩
        rw [ff] at h3
        simp (disch := omega) only [i_0, i_1, i_2, i_3, i_4, i_5, i_6, i_7, i_8, i_9, i_10, i_11, i_12, i_13, i_14, i_15, i_16, i_17, i_18, i_19, i_20, i_21, i_22, i_23, i_24, i_25, i_26, i_27, i_28, i_29, i_30, i_31, i_32, i_33, i_34, i_35, i_36, i_37, i_38, i_39, i_40, i_41, i_42, i_43, i_45, i_46, i_48, i_50, i_57, i_58, i_59, i_60, i_61, i_62, i_63, i_65, i_91, i_93, i_97, i_99, i_100, i_101, i_102, i_103, i_104, i_105, i_106, i_107, i_108, i_109, i_110, i_111, i_112, i_113, i_114, i_115, i_116, i_117, i_118, i_119, i_120, i_121, i_122, i_171, i_200, i_236, i_237, i_255, i_256, i_900, i_999, i_1000, i_1137, i_2000, i_2001, i_2002, i_2003, i_2004, i_2005, i_2006, i_2007, i_2008, i_3000, i_3001, i_3002, i_3003, i_3004, i_3005, i_3006, i_3007, i_3008, nm_1, nI_a1, nm_2, oI_n, oI_some, nI_eqP, nI_ltP, nI_leP, nI_add, nI_mul, nI_sub, nI_div, n_rd, n_wr, n_wrJ, n_md, Option.bind_some, reduceIte, Nat.reduceEqDiff, Nat.reduceLeDiff, Nat.reduceLT, or_self, true_or, or_true, false_or, or_false, ne_eq, not_true_eq_false, not_false_eq_true, true_and, and_true, false_and, and_false, decide_true, decide_false, Bool.false_eq_true, decide_eq_true_eq, reduceCtorEq, Nat.add_sub_cancel, Nat.reduceAdd, Nat.reduceMul, Nat.reduceSub, am_let, nI_or, nI_and, nI_shl, nI_shr, msk31, and_eq0, and_pow]
        have hmod : (sH s + fr + t) % rW r < rW r := Nat.mod_lt _ (by omega)
        by_cases d : (it r s wk p fr x t).testBit g
        · left
          rw [if_pos d] at h3
          refine ⟨_, if_neg (by simp [d]), ?_⟩
          rw [h3]
          rfl
        · rw [if_neg d] at h3
          simp only [Bool.not_eq_true] at d
          rw [if_pos d]
          have hfg : (if h.2.1 10 1 ≤ nI (fr + t) then nI 0 else nI 1) = nI (fg s (fr + t)) := by
            unfold fg
            simp (disch := omega) only [i_0, i_1, i_2, i_3, i_4, i_5, i_6, i_7, i_8, i_9, i_10, i_11, i_12, i_13, i_14, i_15, i_16, i_17, i_18, i_19, i_20, i_21, i_22, i_23, i_24, i_25, i_26, i_27, i_28, i_29, i_30, i_31, i_32, i_33, i_34, i_35, i_36, i_37, i_38, i_39, i_40, i_41, i_42, i_43, i_45, i_46, i_48, i_50, i_57, i_58, i_59, i_60, i_61, i_62, i_63, i_65, i_91, i_93, i_97, i_99, i_100, i_101, i_102, i_103, i_104, i_105, i_106, i_107, i_108, i_109, i_110, i_111, i_112, i_113, i_114, i_115, i_116, i_117, i_118, i_119, i_120, i_121, i_122, i_171, i_200, i_236, i_237, i_255, i_256, i_900, i_999, i_1000, i_1137, i_2000, i_2001, i_2002, i_2003, i_2004, i_2005, i_2006, i_2007, i_2008, i_3000, i_3001, i_3002, i_3003, i_3004, i_3005, i_3006, i_3007, i_3008, nm_1, nI_a1, nm_2, oI_n, oI_some, nI_eqP, nI_ltP, nI_leP, nI_add, nI_mul, nI_sub, nI_div, n_rd, n_wr, n_wrJ, n_md, Option.bind_some, reduceIte, Nat.reduceEqDiff, Nat.reduceLeDiff, Nat.reduceLT, or_self, true_or, or_true, false_or, or_false, ne_eq, not_true_eq_false, not_false_eq_true, true_and, and_true, false_and, and_false, decide_true, decide_false, Bool.false_eq_true, decide_eq_true_eq, reduceCtorEq, Nat.add_sub_cancel, Nat.reduceAdd, Nat.reduceMul, Nat.reduceSub, am_let, V.fo]
            by_cases c1 : fr + t < sF s
            · rw [if_pos c1, if_neg (by omega)]
            · rw [if_neg c1, if_pos (by omega)]
          rw [hfg, n_row (fg_lt _ _), Option.bind_some, n_rd (by omega) (by decide), Option.bind_some, T.2 _ hmod, n_spread V.1 V.2.2.1 hp hmod (fg_lt _ _) hb (T.1 _ hmod), Option.bind_some]
          have hst : go r p ((sH s + fr + t) % rW r) (fg s (fr + t)) (wk ((sH s + fr + t) % rW r)) (it r s wk p fr x t) = it r s wk p fr x (t + 1) := by
            rw [Nat.add_assoc]
            rfl
          rw [hst]
          have hb2 := hset (t + 1)
          simp (disch := omega) only [i_0, i_1, i_2, i_3, i_4, i_5, i_6, i_7, i_8, i_9, i_10, i_11, i_12, i_13, i_14, i_15, i_16, i_17, i_18, i_19, i_20, i_21, i_22, i_23, i_24, i_25, i_26, i_27, i_28, i_29, i_30, i_31, i_32, i_33, i_34, i_35, i_36, i_37, i_38, i_39, i_40, i_41, i_42, i_43, i_45, i_46, i_48, i_50, i_57, i_58, i_59, i_60, i_61, i_62, i_63, i_65, i_91, i_93, i_97, i_99, i_100, i_101, i_102, i_103, i_104, i_105, i_106, i_107, i_108, i_109, i_110, i_111, i_112, i_113, i_114, i_115, i_116, i_117, i_118, i_119, i_120, i_121, i_122, i_171, i_200, i_236, i_237, i_255, i_256, i_900, i_999, i_1000, i_1137, i_2000, i_2001, i_2002, i_2003, i_2004, i_2005, i_2006, i_2007, i_2008, i_3000, i_3001, i_3002, i_3003, i_3004, i_3005, i_3006, i_3007, i_3008, nm_1, nI_a1, nm_2, oI_n, oI_some, nI_eqP, nI_ltP, nI_leP, nI_add, nI_mul, nI_sub, nI_div, n_rd, n_wr, n_wrJ, n_md, Option.bind_some, reduceIte, Nat.reduceEqDiff, Nat.reduceLeDiff, Nat.reduceLT, or_self, true_or, or_true, false_or, or_false, ne_eq, not_true_eq_false, not_false_eq_true, true_and, and_true, false_and, and_false, decide_true, decide_false, Bool.false_eq_true, decide_eq_true_eq, reduceCtorEq, Nat.add_sub_cancel, Nat.reduceAdd, Nat.reduceMul, Nat.reduceSub, am_let, V.w]
          have hfl := fg_lt s (fr + t)
          have hy : (if it r s wk p fr x (t + 1) = it r s wk p fr x t then if nI (fg s (fr + t)) = nI 0 then nI (st + 1) else nI 0 else nI 0) = nI (if it r s wk p fr x (t + 1) = it r s wk p fr x t ∧ fg s (fr + t) = 0 then st + 1 else 0) := by
            simp (disch := omega) only [i_0, i_1, i_2, i_3, i_4, i_5, i_6, i_7, i_8, i_9, i_10, i_11, i_12, i_13, i_14, i_15, i_16, i_17, i_18, i_19, i_20, i_21, i_22, i_23, i_24, i_25, i_26, i_27, i_28, i_29, i_30, i_31, i_32, i_33, i_34, i_35, i_36, i_37, i_38, i_39, i_40, i_41, i_42, i_43, i_45, i_46, i_48, i_50, i_57, i_58, i_59, i_60, i_61, i_62, i_63, i_65, i_91, i_93, i_97, i_99, i_100, i_101, i_102, i_103, i_104, i_105, i_106, i_107, i_108, i_109, i_110, i_111, i_112, i_113, i_114, i_115, i_116, i_117, i_118, i_119, i_120, i_121, i_122, i_171, i_200, i_236, i_237, i_255, i_256, i_900, i_999, i_1000, i_1137, i_2000, i_2001, i_2002, i_2003, i_2004, i_2005, i_2006, i_2007, i_2008, i_3000, i_3001, i_3002, i_3003, i_3004, i_3005, i_3006, i_3007, i_3008, nm_1, nI_a1, nm_2, oI_n, oI_some, nI_eqP, nI_ltP, nI_leP, nI_add, nI_mul, nI_sub, nI_div, n_rd, n_wr, n_wrJ, n_md, Option.bind_some, reduceIte, Nat.reduceEqDiff, Nat.reduceLeDiff, Nat.reduceLT, or_self, true_or, or_true, false_or, or_false, ne_eq, not_true_eq_false, not_false_eq_true, true_and, and_true, false_and, and_false, decide_true, decide_false, Bool.false_eq_true, decide_eq_true_eq, reduceCtorEq, Nat.add_sub_cancel, Nat.reduceAdd, Nat.reduceMul, Nat.reduceSub, am_let]
            by_cases e1 : it r s wk p fr x (t + 1) = it r s wk p fr x t
            · by_cases e2 : fg s (fr + t) = 0
              · rw [if_pos e1, if_pos e2, if_pos ⟨e1, e2⟩]
              · rw [if_pos e1, if_neg e2, if_neg (fun z => e2 z.2)]
            · rw [if_neg e1, if_neg (fun z => e1 z.1)]
          rw [hy]
          generalize hst2 : (if it r s wk p fr x (t + 1) = it r s wk p fr x t ∧ fg s (fr + t) = 0 then st + 1 else 0) = st2
          have hst2b : st2 ≤ st + 1 := by rw [← hst2]; split <;> omega
          have h62 : ∀ i, t + 1 - st2 ≤ i → i < t + 1 → it r s wk p fr x (i + 1) = it r s wk p fr x i ∧ fg s (fr + i) = 0 := by
            intro i hi1 hi2
            by_cases e : it r s wk p fr x (t + 1) = it r s wk p fr x t ∧ fg s (fr + t) = 0
            · rw [if_pos e] at hst2
              by_cases it1 : i = t
              · subst it1; exact e
              · exact h6 i (by omega) (by omega)
            · rw [if_neg e] at hst2
              omega
          simp (disch := omega) only [i_0, i_1, i_2, i_3, i_4, i_5, i_6, i_7, i_8, i_9, i_10, i_11, i_12, i_13, i_14, i_15, i_16, i_17, i_18, i_19, i_20, i_21, i_22, i_23, i_24, i_25, i_26, i_27, i_28, i_29, i_30, i_31, i_32, i_33, i_34, i_35, i_36, i_37, i_38, i_39, i_40, i_41, i_42, i_43, i_45, i_46, i_48, i_50, i_57, i_58, i_59, i_60, i_61, i_62, i_63, i_65, i_91, i_93, i_97, i_99, i_100, i_101, i_102, i_103, i_104, i_105, i_106, i_107, i_108, i_109, i_110, i_111, i_112, i_113, i_114, i_115, i_116, i_117, i_118, i_119, i_120, i_121, i_122, i_171, i_200, i_236, i_237, i_255, i_256, i_900, i_999, i_1000, i_1137, i_2000, i_2001, i_2002, i_2003, i_2004, i_2005, i_2006, i_2007, i_2008, i_3000, i_3001, i_3002, i_3003, i_3004, i_3005, i_3006, i_3007, i_3008, nm_1, nI_a1, nm_2, oI_n, oI_some, nI_eqP, nI_ltP, nI_leP, nI_add, nI_mul, nI_sub, nI_div, n_rd, n_wr, n_wrJ, n_md, Option.bind_some, reduceIte, Nat.reduceEqDiff, Nat.reduceLeDiff, Nat.reduceLT, or_self, true_or, or_true, false_or, or_false, ne_eq, not_true_eq_false, not_false_eq_true, true_and, and_true, false_and, and_false, decide_true, decide_false, Bool.false_eq_true, decide_eq_true_eq, reduceCtorEq, Nat.add_sub_cancel, Nat.reduceAdd, Nat.reduceMul, Nat.reduceSub, am_let]
          by_cases e : st2 < rW r
          · right
            rw [if_pos e]
            have hcase : (if (sH s + fr + t) % rW r + 1 < rW r then f_Ahead_hoursFrom_L30 (nI p) (nI x) (nI g) q 6 (nI fr) (nI m) n (nI (it r s wk p fr x (t + 1))) (nI (1 <<< g)) (nI ((sH s + fr + t) % rW r + 1)) (nI st2) (nI (t + 1)) h else f_Ahead_hoursFrom_L30 (nI p) (nI x) (nI g) q 6 (nI fr) (nI m) n (nI (it r s wk p fr x (t + 1))) (nI (1 <<< g)) (nI 0) (nI st2) (nI (t + 1)) h) = f_Ahead_hoursFrom_L30 (nI p) (nI x) (nI g) q 6 (nI fr) (nI m) n (nI (it r s wk p fr x (t + 1))) (nI (1 <<< g)) (nI ((sH s + fr + (t + 1)) % rW r)) (nI st2) (nI (t + 1)) h := by
              by_cases z : (sH s + fr + t) % rW r + 1 < rW r
              · rw [if_pos z]
                have : (sH s + fr + (t + 1)) % rW r = (sH s + fr + t) % rW r + 1 := by
                  rw [← Nat.add_assoc, Nat.add_mod]
                  by_cases w1 : rW r = 1
                  · omega
                  · rw [Nat.mod_eq_of_lt (show 1 < rW r by omega), Nat.mod_eq_of_lt z]
                rw [this]
              · rw [if_neg z]
                have : (sH s + fr + (t + 1)) % rW r = 0 := by
                  rw [← Nat.add_assoc, Nat.add_mod]
                  by_cases w1 : rW r = 1
                  · rw [w1]; exact Nat.mod_one _
                  · rw [Nat.mod_eq_of_lt (show 1 < rW r by omega), show (sH s + fr + t) % rW r + 1 = rW r by omega, Nat.mod_self]
                rw [this]
            rw [hcase]
            exact ⟨k, (_, _, _, _), by omega, rfl, t + 1, st2, by omega, rfl, h3, e, by omega, h62⟩
          · left
            rw [if_neg e]
            refine ⟨_, rfl, ?_⟩
            have hn : res = none := by
              rw [h3]
              have hcon := it_still (r := r) (s := s) (wk := wk) (p := p) (fr := fr) (x := x) (a := t + 1 - rW r) hW.1 (fun i a b => h62 i (by omega) (by omega))
              have hc2 : ∀ i, t + 1 - rW r ≤ i → it r s wk p fr x i = it r s wk p fr x (t + 1 - rW r) := fun i hi => by
                have := hcon (i - (t + 1 - rW r))
                rwa [show t + 1 - rW r + (i - (t + 1 - rW r)) = i by omega] at this
              refine ff_none' (fun i a b => ?_)
              show (it r s wk p fr x i).testBit g = false
              rw [hc2 i (by omega), ← hc2 t (by omega)]
              exact d
            rw [hn]
            rfl)
  obtain ⟨b, e1, e2⟩ := L am_fu (m + 1) (nI x, nI ((sH s + fr) % rW r), nI 0, nI 0) (by unfold am_fu; omega) ⟨0, 0, rfl, rfl, hres.symm, by omega, Nat.le_refl _, fun i a b => by omega⟩
  unfold f_Ahead_hoursFrom
  simp (disch := omega) only [i_0, i_1, i_2, i_3, i_4, i_5, i_6, i_7, i_8, i_9, i_10, i_11, i_12, i_13, i_14, i_15, i_16, i_17, i_18, i_19, i_20, i_21, i_22, i_23, i_24, i_25, i_26, i_27, i_28, i_29, i_30, i_31, i_32, i_33, i_34, i_35, i_36, i_37, i_38, i_39, i_40, i_41, i_42, i_43, i_45, i_46, i_48, i_50, i_57, i_58, i_59, i_60, i_61, i_62, i_63, i_65, i_91, i_93, i_97, i_99, i_100, i_101, i_102, i_103, i_104, i_105, i_106, i_107, i_108, i_109, i_110, i_111, i_112, i_113, i_114, i_115, i_116, i_117, i_118, i_119, i_120, i_121, i_122, i_171, i_200, i_236, i_237, i_255, i_256, i_900, i_999, i_1000, i_1137, i_2000, i_2001, i_2002, i_2003, i_2004, i_2005, i_2006, i_2007, i_2008, i_3000, i_3001, i_3002, i_3003, i_3004, i_3005, i_3006, i_3007, i_3008, nm_1, nI_a1, nm_2, oI_n, oI_some, nI_eqP, nI_ltP, nI_leP, nI_add, nI_mul, nI_sub, nI_div, n_rd, n_wr, n_wrJ, n_md, Option.bind_some, reduceIte, Nat.reduceEqDiff, Nat.reduceLeDiff, Nat.reduceLT, or_self, true_or, or_true, false_or, or_false, ne_eq, not_true_eq_false, not_false_eq_true, true_and, and_true, false_and, and_false, decide_true, decide_false, Bool.false_eq_true, decide_eq_true_eq, reduceCtorEq, Nat.add_sub_cancel, Nat.reduceAdd, Nat.reduceMul, Nat.reduceSub, am_let, V.ho]
  rw [n_hourOfWeek V.1 V.2.2.1 (by omega), Option.bind_some]
  simp (disch := omega) only [i_0, i_1, i_2, i_3, i_4, i_5, i_6, i_7, i_8, i_9, i_10, i_11, i_12, i_13, i_14, i_15, i_16, i_17, i_18, i_19, i_20, i_21, i_22, i_23, i_24, i_25, i_26, i_27, i_28, i_29, i_30, i_31, i_32, i_33, i_34, i_35, i_36, i_37, i_38, i_39, i_40, i_41, i_42, i_43, i_45, i_46, i_48, i_50, i_57, i_58, i_59, i_60, i_61, i_62, i_63, i_65, i_91, i_93, i_97, i_99, i_100, i_101, i_102, i_103, i_104, i_105, i_106, i_107, i_108, i_109, i_110, i_111, i_112, i_113, i_114, i_115, i_116, i_117, i_118, i_119, i_120, i_121, i_122, i_171, i_200, i_236, i_237, i_255, i_256, i_900, i_999, i_1000, i_1137, i_2000, i_2001, i_2002, i_2003, i_2004, i_2005, i_2006, i_2007, i_2008, i_3000, i_3001, i_3002, i_3003, i_3004, i_3005, i_3006, i_3007, i_3008, nm_1, nI_a1, nm_2, oI_n, oI_some, nI_eqP, nI_ltP, nI_leP, nI_add, nI_mul, nI_sub, nI_div, n_rd, n_wr, n_wrJ, n_md, Option.bind_some, reduceIte, Nat.reduceEqDiff, Nat.reduceLeDiff, Nat.reduceLT, or_self, true_or, or_true, false_or, or_false, ne_eq, not_true_eq_false, not_false_eq_true, true_and, and_true, false_and, and_false, decide_true, decide_false, Bool.false_eq_true, decide_eq_true_eq, reduceCtorEq, Nat.add_sub_cancel, Nat.reduceAdd, Nat.reduceMul, Nat.reduceSub, am_let, nI_or, nI_and, nI_shl, nI_shr, msk31, and_eq0]
  subst e2
  exact e1
theorem n_hoursFrom' {h : am_H} {r : sR} {s : sS} {p x g q fr : Nat} {y : Int32} (V : tV h r s) (hfr : fr ≤ 100) (hy : y < 0) : f_Ahead_hoursFrom (nI p) (nI x) (nI g) q 6 (nI fr) y h = some (oI none) := by
  have hH := V.hH
  unfold f_Ahead_hoursFrom
  simp (disch := omega) only [i_0, i_1, i_2, i_3, i_4, i_5, i_6, i_7, i_8, i_9, i_10, i_11, i_12, i_13, i_14, i_15, i_16, i_17, i_18, i_19, i_20, i_21, i_22, i_23, i_24, i_25, i_26, i_27, i_28, i_29, i_30, i_31, i_32, i_33, i_34, i_35, i_36, i_37, i_38, i_39, i_40, i_41, i_42, i_43, i_45, i_46, i_48, i_50, i_57, i_58, i_59, i_60, i_61, i_62, i_63, i_65, i_91, i_93, i_97, i_99, i_100, i_101, i_102, i_103, i_104, i_105, i_106, i_107, i_108, i_109, i_110, i_111, i_112, i_113, i_114, i_115, i_116, i_117, i_118, i_119, i_120, i_121, i_122, i_171, i_200, i_236, i_237, i_255, i_256, i_900, i_999, i_1000, i_1137, i_2000, i_2001, i_2002, i_2003, i_2004, i_2005, i_2006, i_2007, i_2008, i_3000, i_3001, i_3002, i_3003, i_3004, i_3005, i_3006, i_3007, i_3008, nm_1, nI_a1, nm_2, oI_n, oI_some, nI_eqP, nI_ltP, nI_leP, nI_add, nI_mul, nI_sub, nI_div, n_rd, n_wr, n_wrJ, n_md, Option.bind_some, reduceIte, Nat.reduceEqDiff, Nat.reduceLeDiff, Nat.reduceLT, or_self, true_or, or_true, false_or, or_false, ne_eq, not_true_eq_false, not_false_eq_true, true_and, and_true, false_and, and_false, decide_true, decide_false, Bool.false_eq_true, decide_eq_true_eq, reduceCtorEq, Nat.add_sub_cancel, Nat.reduceAdd, Nat.reduceMul, Nat.reduceSub, am_let, V.ho]
  rw [n_hourOfWeek V.1 V.2.2.1 (by omega), Option.bind_some]
  show f_Ahead_hoursFrom_L30 (nI p) (nI x) (nI g) q 6 (nI fr) y (4999 + 1) _ _ _ _ _ h = _
  rw [f_Ahead_hoursFrom_L30, if_pos (show y < nI 0 from hy)]
  rfl
