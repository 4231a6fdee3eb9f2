-- deps: 31.law 32.nat 33.bit 34.spec
/-! ===== the class: its river and its state ===== -/
def tR (o : Nat) (r : sR) (h : am_H) : Prop :=
  h.2.1 o 0 = nI (rG r) ∧ h.2.1 o 1 = nI (rW r) ∧ h.2.1 o 2 = nI (rP r) ∧ h.2.1 o 3 = nI (rF r) ∧ h.2.1 o 5 = nI (rL r) ∧
  (∀ p, p < rP r → h.2.1 (o + 3) p = nI (rLoad r p) ∧ h.2.1 (o + 4) p = oI (rTo r p) ∧ h.2.1 (o + 5) p = oI (rBy r p)) ∧
  (∀ p k f, p < rP r → k < rW r → f < 2 → h.2.1 (o + 6) (12 * p + 2 * k + f) = nI (gU r p k f) ∧ h.2.1 (o + 7) (12 * p + 2 * k + f) = nI (gD r p k f) ∧ h.2.1 (o + 8) (12 * p + 2 * k + f) = nI (gS r p k f))
def tS (o : Nat) (r : sR) (s : sS) (h : am_H) : Prop :=
  h.2.1 o 0 = nI (sH s) ∧ h.2.1 o 1 = nI (sF s) ∧ h.2.1 o 2 = nI (sD s) ∧ (∀ k, k < rW r → h.2.1 (o + 1) k = oI (sW s k)) ∧
  (∀ p, p < rP r → h.2.1 (o + 2) p = nI (sP s p) ∧ h.2.1 (o + 3) p = nI (sT s p))
theorem n_hourOfWeek {o : Nat} {r : sR} {h : am_H} {t : Nat} (hr : vR r) (T : tR o r h) (ht : t < 2 ^ 31) : f_River_hourOfWeek o (nI t) h = some (nI (t % rW r)) := by
  have hW := hr.2.1
  unfold f_River_hourOfWeek
  rw [T.2.1, if_neg (show ¬ nI (rW r) < (1 : Int32) from nI_nlt (b := 1) hW.1 (by omega)), if_pos (nI_pos' ht), n_md ht (by omega) (by omega), Option.bind_some]
theorem n_row {p k f : Nat} {h : am_H} (hf : f < 2) : f_River_row (nI p) (nI k) (nI f) h = some (nI (12 * p + 2 * k + f)) := by
  unfold f_River_row
  have e : ((nI p * (6 : Int32)) + nI k) * (2 : Int32) = nI ((p * 6 + k) * 2) := by rw [nI_lm, nI_add, nI_lm]
  rw [e]
  rcases (show f = 0 ∨ f = 1 by omega) with rfl | rfl
  · rw [if_pos (show nI 0 = 0 from rfl)]
    show some (nI ((p * 6 + k) * 2) + nI 0) = _
    rw [nI_add]
    congr 2
    omega
  · rw [if_neg (show ¬ nI 1 = 0 by decide), nI_la]
    congr 2
    omega
theorem n_hasPerson {o : Nat} {r : sR} {h : am_H} {p : Nat} (hr : vR r) (T : tR o r h) (hp : p < rP r) : f_River_hasPerson o (nI p) h = some true := by
  have := hr.2.2.1
  unfold f_River_hasPerson
  rw [T.2.2.1, if_neg (nI_pos (by omega)), if_neg (nI_ge hp (by omega))]
theorem n_hasPerson' {o : Nat} {r : sR} {h : am_H} {x : Int32} (T : tR o r h) (hx : x < 0 ∨ nI (rP r) ≤ x) : f_River_hasPerson o x h = some false := by
  unfold f_River_hasPerson
  rw [T.2.2.1]
  rcases hx with c | c
  · rw [if_pos c]
  · by_cases d : x < 0
    · rw [if_pos d]
    · rw [if_neg d, if_pos c]
theorem n_joined {o : Nat} {r : sR} {h : am_H} {p k f s : Nat} {l : Option Nat} (hr : vR r) (T : tR o r h) (hp : p < rP r) (hk : k < rW r) (hf : f < 2) (hs : s < 512) (hl : ∀ g, l = some g → g < rG r) :
    f_River_joined o (nI (12 * p + 2 * k + f)) (nI s) (oI l) h = some (nI (jn (gS r p k f) s l)) := by
  have hP := hr.2.2.1
  have hW := hr.2.1
  have hG := hr.1
  unfold f_River_joined
  cases l with
  | none => rw [oI_none, if_pos rfl]; rfl
  | some g =>
    have hg := hl g rfl
    have hS := gS_lt hG.2 p k f
    rw [oI_some, if_neg (nI_nm1 (by omega)), n_rd (by omega) (by decide), Option.bind_some, (T.2.2.2.2.2.2 p k f hp hk hf).2.2, nI_msk (by omega), nI_shr (by omega) (by omega)]
    have e : nI (gS r p k f >>> g) &&& (1 : Int32) = nI (gS r p k f >>> g &&& 1) := nI_and _ 1
    rw [e, bit_and1]
    show _ = some (nI (if (gS r p k f).testBit g then _ else 0))
    by_cases c : (gS r p k f).testBit g
    · rw [if_pos c, if_pos c, if_neg (show ¬ nI 1 = 0 by decide), lm_nI, nI_msk (by omega)]
      have e3 : (256 : Int32) ||| ((3 : Int32) <<< nI (2 * g)) = nI (256 ||| (3 <<< (2 * g))) := by
        have : (3 : Int32) <<< nI (2 * g) = nI (3 <<< (2 * g)) := nI_shl (a := 3) (by omega)
        rw [this]
        exact nI_or 256 _
      show (if nI s &&& ((256 : Int32) ||| ((3 : Int32) <<< nI (2 * g))) = 0 then some 0 else some ((256 : Int32) ||| ((3 : Int32) <<< nI (2 * g)))) = _
      rw [e3]
      simp only [nI_and0 (show s < 2 ^ 31 by omega)]
      by_cases d : s &&& (256 ||| 3 <<< (2 * g)) = 0
      · rw [if_pos d, if_pos d]; rfl
      · rw [if_neg d, if_neg d]
    · rw [if_neg c, if_neg c, if_pos (show nI 0 = 0 from rfl)]; rfl
theorem sh2l (a : Nat) : nI a <<< ((2 : Int32) &&& 31) = nI (a <<< 2) := nI_shl (a := a) (k := 2) (by omega)
theorem sh2r {a : Nat} (ha : a < 2 ^ 31) : nI a >>> ((2 : Int32) &&& 31) = nI (a >>> 2) := nI_shr (a := a) (k := 2) ha (by omega)
theorem and_lt {a b n : Nat} (h : a < n) : a &&& b < n := Nat.lt_of_le_of_lt Nat.and_le_left h
theorem n_spread {o : Nat} {r : sR} {h : am_H} {p k f s : Nat} {l : Option Nat} (hr : vR r) (T : tR o r h) (hp : p < rP r) (hk : k < rW r) (hf : f < 2) (hs : s < 512) (hl : ∀ g, l = some g → g < rG r) :
    f_River_spread o (nI (12 * p + 2 * k + f)) (nI s) (oI l) h = some (nI (go r p k f l s)) := by
  have hP := hr.2.2.1
  have hW := hr.2.1
  have e := T.2.2.2.2.2.2 p k f hp hk hf
  unfold f_River_spread
  rw [n_rd (by omega) (by decide), Option.bind_some, n_rd (by omega) (by decide), Option.bind_some, n_joined hr T hp hk hf hs hl, Option.bind_some, e.1, e.2.1, nI_and, nI_and, sh2l, sh2r (and_lt (by omega)), nI_or, nI_or, nI_or]
  rfl
/-- from where one can be in a set an hour later -/
def ga (r : sR) (p k f : Nat) (l : Option Nat) (s : Nat) : Nat := ((s ||| ((s >>> 2) &&& gU r p k f)) ||| ((s <<< 2) &&& gD r p k f)) ||| jn (gS r p k f) s l
theorem n_gather {o : Nat} {r : sR} {h : am_H} {p k f s : Nat} {l : Option Nat} (hr : vR r) (T : tR o r h) (hp : p < rP r) (hk : k < rW r) (hf : f < 2) (hs : s < 512) (hl : ∀ g, l = some g → g < rG r) :
    f_River_gather o (nI (12 * p + 2 * k + f)) (nI s) (oI l) h = some (nI (ga r p k f l s)) := by
  have hP := hr.2.2.1
  have hW := hr.2.1
  have e := T.2.2.2.2.2.2 p k f hp hk hf
  unfold f_River_gather
  rw [n_rd (by omega) (by decide), Option.bind_some, n_rd (by omega) (by decide), Option.bind_some, n_joined hr T hp hk hf hs hl, Option.bind_some, e.1, e.2.1, sh2l, sh2r (by omega), nI_and, nI_and, nI_or, nI_or, nI_or]
  rfl
/-- why an act can't be done -/
def hi (r : sR) (p k f s act : Nat) (l : Option Nat) : Nat :=
  if act = 0 then 0
  else if act = 1 then (if s = 8 ∨ rG r ≤ s / 2 + 1 then 2 else if rWk r p s k f then 0 else 3)
  else if act = 2 then (if s = 8 ∨ s < 2 then 2 else if rWk r p s k f then 0 else 3)
  else if act = 3 ∨ act = 4 then (if s = 8 ∨ l ≠ some (s / 2) then 2 else if rSv r p (s / 2) k f then 0 else 3)
  else if act = 5 ∨ act = 6 then (if s ≠ 8 then 2 else match l with
    | none => 2
    | some g => if rSv r p g k f then 0 else 3)
  else 1
def mv (s act : Nat) (l : Option Nat) : Nat :=
  if act = 1 then s + 2 else if act = 2 then s - 2 else if act = 3 then s ^^^ 1 else if act = 4 then 8 else if act = 5 then 2 * l.getD 0 else if act = 6 then 2 * l.getD 0 + 1 else s
theorem oI_eq {l : Option Nat} {k : Nat} (hl : ∀ g, l = some g → g < 2 ^ 31) (hk : k < 2 ^ 31) : (oI l = nI k) = (l = some k) := by
  cases l with
  | none => rw [oI_none]; exact propext ⟨fun c => absurd c (m1_nI hk), fun c => by cases c⟩
  | some g => rw [oI_some, nI_eqP (hl g rfl) hk]; simp
theorem oI_eq2 {l : Option Nat} {k : Nat} (hl : ∀ g, l = some g → g < 2 ^ 31) (hk : k < 2 ^ 31) : (nI k = oI l) = (l = some k) := (propext eq_comm).trans (oI_eq hl hk)
theorem oI_m1 {l : Option Nat} (hl : ∀ g, l = some g → g < 2 ^ 31) : (oI l = -1) = (l = none) := by
  cases l with
  | none => rw [oI_none]; simp
  | some g => rw [oI_some]; exact propext ⟨fun c => absurd c (nI_nm1 (hl g rfl)), fun c => by cases c⟩

theorem oI_n1 {l : Option Nat} (hl : ∀ g, l = some g → g < 2 ^ 31) : (oI l = -nI 1) = (l = none) := oI_m1 hl
theorem n_hind {o : Nat} {r : sR} {h : am_H} {p k f s act : Nat} {l : Option Nat} (hr : vR r) (T : tR o r h) (hp : p < rP r) (hk : k < rW r) (hf : f < 2) (hs : vSp (rG r) s) (hl : ∀ g, l = some g → g < rG r) (ha : act ≤ 6) :
    f_River_hindrance o (nI (12 * p + 2 * k + f)) (nI s) (nI act) (oI l) h = some (nI (hi r p k f s act l)) := by
  have hP := hr.2.2.1
  have hW := hr.2.1
  have hG := hr.1
  have e := T.2.2.2.2.2.2 p k f hp hk hf
  have hs9 : s < 9 := by rcases hs with c | c <;> omega
  have hU := gU_lt hG.2 p k f
  have hD := gD_lt hG.2 p k f
  have hS := gS_lt hG.2 p k f
  have hl' : ∀ g, l = some g → g < 2 ^ 31 := fun g q => by have := hl g q; omega
  unfold f_River_hindrance hi
  have sv : ∀ g, g < rG r → (gS r p k f).testBit g = rSv r p g k f := fun g hg => by
    unfold gS; rw [bts_t]; simp [hg]
  rcases (show act = 0 ∨ act = 1 ∨ act = 2 ∨ act = 3 ∨ act = 4 ∨ act = 5 ∨ act = 6 by omega) with rfl | rfl | rfl | rfl | rfl | rfl | rfl
  · rfl
  · simp (disch := omega) only [i_0, i_1, i_2, i_3, i_4, i_5, i_6, i_7, i_8, i_9, i_10, i_11, i_12, i_13, i_14, i_15, i_16, i_17, i_18, i_19, i_20, i_21, i_22, i_23, i_24, i_25, i_26, i_27, i_28, i_29, i_30, i_31, i_32, i_33, i_34, i_35, i_36, i_37, i_38, i_39, i_40, i_41, i_42, i_43, i_45, i_46, i_48, i_50, i_57, i_58, i_59, i_60, i_61, i_62, i_63, i_65, i_91, i_93, i_97, i_99, i_100, i_101, i_102, i_103, i_104, i_105, i_106, i_107, i_108, i_109, i_110, i_111, i_112, i_113, i_114, i_115, i_116, i_117, i_118, i_119, i_120, i_121, i_122, i_171, i_200, i_236, i_237, i_255, i_256, i_900, i_999, i_1000, i_1137, i_2000, i_2001, i_2002, i_2003, i_2004, i_2005, i_2006, i_2007, i_2008, i_3000, i_3001, i_3002, i_3003, i_3004, i_3005, i_3006, i_3007, i_3008, nm_1, nI_a1, nm_2, oI_n, oI_some, nI_eqP, nI_ltP, nI_leP, nI_add, nI_mul, nI_sub, nI_div, n_rd, n_wr, n_wrJ, n_md, Option.bind_some, reduceIte, Nat.reduceEqDiff, Nat.reduceLeDiff, Nat.reduceLT, or_self, true_or, or_true, false_or, or_false, ne_eq, not_true_eq_false, not_false_eq_true, true_and, and_true, false_and, and_false, decide_true, decide_false, Bool.false_eq_true, decide_eq_true_eq, reduceCtorEq, Nat.add_sub_cancel, Nat.reduceAdd, Nat.reduceMul, Nat.reduceSub, am_let, T.1]
    by_cases c : s = 8
    · rw [if_pos c, if_pos (.inl c)] <;> rfl
    · rw [if_neg c]
      by_cases d : s / 2 + 1 < rG r
      · rw [if_pos d, if_neg (by omega), e.1, n_hasBit (by omega) (by omega), Option.bind_some]
        have q : (gU r p k f).testBit s = rWk r p s k f := by
          unfold gU; rw [bts_t]; simp [d, show s < 2 * rG r by omega]
        rw [q]
        split <;> rfl
      · rw [if_neg d, if_pos (by omega)] <;> rfl
  · simp (disch := omega) only [i_0, i_1, i_2, i_3, i_4, i_5, i_6, i_7, i_8, i_9, i_10, i_11, i_12, i_13, i_14, i_15, i_16, i_17, i_18, i_19, i_20, i_21, i_22, i_23, i_24, i_25, i_26, i_27, i_28, i_29, i_30, i_31, i_32, i_33, i_34, i_35, i_36, i_37, i_38, i_39, i_40, i_41, i_42, i_43, i_45, i_46, i_48, i_50, i_57, i_58, i_59, i_60, i_61, i_62, i_63, i_65, i_91, i_93, i_97, i_99, i_100, i_101, i_102, i_103, i_104, i_105, i_106, i_107, i_108, i_109, i_110, i_111, i_112, i_113, i_114, i_115, i_116, i_117, i_118, i_119, i_120, i_121, i_122, i_171, i_200, i_236, i_237, i_255, i_256, i_900, i_999, i_1000, i_1137, i_2000, i_2001, i_2002, i_2003, i_2004, i_2005, i_2006, i_2007, i_2008, i_3000, i_3001, i_3002, i_3003, i_3004, i_3005, i_3006, i_3007, i_3008, nm_1, nI_a1, nm_2, oI_n, oI_some, nI_eqP, nI_ltP, nI_leP, nI_add, nI_mul, nI_sub, nI_div, n_rd, n_wr, n_wrJ, n_md, Option.bind_some, reduceIte, Nat.reduceEqDiff, Nat.reduceLeDiff, Nat.reduceLT, or_self, true_or, or_true, false_or, or_false, ne_eq, not_true_eq_false, not_false_eq_true, true_and, and_true, false_and, and_false, decide_true, decide_false, Bool.false_eq_true, decide_eq_true_eq, reduceCtorEq, Nat.add_sub_cancel, Nat.reduceAdd, Nat.reduceMul, Nat.reduceSub, am_let]
    by_cases c : s = 8
    · rw [if_pos c, if_pos (.inl c)] <;> rfl
    · rw [if_neg c]
      by_cases d : 2 ≤ s
      · rw [if_pos d, if_neg (by omega), e.2.1, n_hasBit (by omega) (by omega), Option.bind_some]
        have q : (gD r p k f).testBit s = rWk r p s k f := by
          unfold gD; rw [bts_t]
          rcases hs with e1 | e1
          · exact absurd e1 c
          · simp [d, e1]
        rw [q]
        split <;> rfl
      · rw [if_neg d, if_pos (by omega)] <;> rfl
  · simp (disch := omega) only [i_0, i_1, i_2, i_3, i_4, i_5, i_6, i_7, i_8, i_9, i_10, i_11, i_12, i_13, i_14, i_15, i_16, i_17, i_18, i_19, i_20, i_21, i_22, i_23, i_24, i_25, i_26, i_27, i_28, i_29, i_30, i_31, i_32, i_33, i_34, i_35, i_36, i_37, i_38, i_39, i_40, i_41, i_42, i_43, i_45, i_46, i_48, i_50, i_57, i_58, i_59, i_60, i_61, i_62, i_63, i_65, i_91, i_93, i_97, i_99, i_100, i_101, i_102, i_103, i_104, i_105, i_106, i_107, i_108, i_109, i_110, i_111, i_112, i_113, i_114, i_115, i_116, i_117, i_118, i_119, i_120, i_121, i_122, i_171, i_200, i_236, i_237, i_255, i_256, i_900, i_999, i_1000, i_1137, i_2000, i_2001, i_2002, i_2003, i_2004, i_2005, i_2006, i_2007, i_2008, i_3000, i_3001, i_3002, i_3003, i_3004, i_3005, i_3006, i_3007, i_3008, nm_1, nI_a1, nm_2, oI_n, oI_some, nI_eqP, nI_ltP, nI_leP, nI_add, nI_mul, nI_sub, nI_div, n_rd, n_wr, n_wrJ, n_md, Option.bind_some, reduceIte, Nat.reduceEqDiff, Nat.reduceLeDiff, Nat.reduceLT, or_self, true_or, or_true, false_or, or_false, ne_eq, not_true_eq_false, not_false_eq_true, true_and, and_true, false_and, and_false, decide_true, decide_false, Bool.false_eq_true, decide_eq_true_eq, reduceCtorEq, Nat.add_sub_cancel, Nat.reduceAdd, Nat.reduceMul, Nat.reduceSub, am_let, oI_eq hl']
    by_cases c : s = 8
    · rw [if_pos c, if_pos (.inl c)] <;> rfl
    · rw [if_neg c]
      by_cases d : l = some (s / 2)
      · have hg := hl _ d
        rw [if_pos d, if_neg (by simp [c, d]), e.2.2, d, oI_some, n_hasBit (by omega) (by omega), Option.bind_some, sv _ hg]
        split <;> rfl
      · rw [if_neg d, if_pos (.inr d)] <;> rfl
  · simp (disch := omega) only [i_0, i_1, i_2, i_3, i_4, i_5, i_6, i_7, i_8, i_9, i_10, i_11, i_12, i_13, i_14, i_15, i_16, i_17, i_18, i_19, i_20, i_21, i_22, i_23, i_24, i_25, i_26, i_27, i_28, i_29, i_30, i_31, i_32, i_33, i_34, i_35, i_36, i_37, i_38, i_39, i_40, i_41, i_42, i_43, i_45, i_46, i_48, i_50, i_57, i_58, i_59, i_60, i_61, i_62, i_63, i_65, i_91, i_93, i_97, i_99, i_100, i_101, i_102, i_103, i_104, i_105, i_106, i_107, i_108, i_109, i_110, i_111, i_112, i_113, i_114, i_115, i_116, i_117, i_118, i_119, i_120, i_121, i_122, i_171, i_200, i_236, i_237, i_255, i_256, i_900, i_999, i_1000, i_1137, i_2000, i_2001, i_2002, i_2003, i_2004, i_2005, i_2006, i_2007, i_2008, i_3000, i_3001, i_3002, i_3003, i_3004, i_3005, i_3006, i_3007, i_3008, nm_1, nI_a1, nm_2, oI_n, oI_some, nI_eqP, nI_ltP, nI_leP, nI_add, nI_mul, nI_sub, nI_div, n_rd, n_wr, n_wrJ, n_md, Option.bind_some, reduceIte, Nat.reduceEqDiff, Nat.reduceLeDiff, Nat.reduceLT, or_self, true_or, or_true, false_or, or_false, ne_eq, not_true_eq_false, not_false_eq_true, true_and, and_true, false_and, and_false, decide_true, decide_false, Bool.false_eq_true, decide_eq_true_eq, reduceCtorEq, Nat.add_sub_cancel, Nat.reduceAdd, Nat.reduceMul, Nat.reduceSub, am_let, oI_eq hl']
    by_cases c : s = 8
    · rw [if_pos c, if_pos (.inl c)] <;> rfl
    · rw [if_neg c]
      by_cases d : l = some (s / 2)
      · have hg := hl _ d
        rw [if_pos d, if_neg (by simp [c, d]), e.2.2, d, oI_some, n_hasBit (by omega) (by omega), Option.bind_some, sv _ hg]
        split <;> rfl
      · rw [if_neg d, if_pos (.inr d)] <;> rfl
  all_goals
    cases l with
    | none =>
      by_cases c : s = 8
      · simp (disch := omega) only [i_0, i_1, i_2, i_3, i_4, i_5, i_6, i_7, i_8, i_9, i_10, i_11, i_12, i_13, i_14, i_15, i_16, i_17, i_18, i_19, i_20, i_21, i_22, i_23, i_24, i_25, i_26, i_27, i_28, i_29, i_30, i_31, i_32, i_33, i_34, i_35, i_36, i_37, i_38, i_39, i_40, i_41, i_42, i_43, i_45, i_46, i_48, i_50, i_57, i_58, i_59, i_60, i_61, i_62, i_63, i_65, i_91, i_93, i_97, i_99, i_100, i_101, i_102, i_103, i_104, i_105, i_106, i_107, i_108, i_109, i_110, i_111, i_112, i_113, i_114, i_115, i_116, i_117, i_118, i_119, i_120, i_121, i_122, i_171, i_200, i_236, i_237, i_255, i_256, i_900, i_999, i_1000, i_1137, i_2000, i_2001, i_2002, i_2003, i_2004, i_2005, i_2006, i_2007, i_2008, i_3000, i_3001, i_3002, i_3003, i_3004, i_3005, i_3006, i_3007, i_3008, nm_1, nI_a1, nm_2, oI_n, oI_some, nI_eqP, nI_ltP, nI_leP, nI_add, nI_mul, nI_sub, nI_div, n_rd, n_wr, n_wrJ, n_md, Option.bind_some, reduceIte, Nat.reduceEqDiff, Nat.reduceLeDiff, Nat.reduceLT, or_self, true_or, or_true, false_or, or_false, ne_eq, not_true_eq_false, not_false_eq_true, true_and, and_true, false_and, and_false, decide_true, decide_false, Bool.false_eq_true, decide_eq_true_eq, reduceCtorEq, Nat.add_sub_cancel, Nat.reduceAdd, Nat.reduceMul, Nat.reduceSub, am_let, c]
      · simp (disch := omega) only [i_0, i_1, i_2, i_3, i_4, i_5, i_6, i_7, i_8, i_9, i_10, i_11, i_12, i_13, i_14, i_15, i_16, i_17, i_18, i_19, i_20, i_21, i_22, i_23, i_24, i_25, i_26, i_27, i_28, i_29, i_30, i_31, i_32, i_33, i_34, i_35, i_36, i_37, i_38, i_39, i_40, i_41, i_42, i_43, i_45, i_46, i_48, i_50, i_57, i_58, i_59, i_60, i_61, i_62, i_63, i_65, i_91, i_93, i_97, i_99, i_100, i_101, i_102, i_103, i_104, i_105, i_106, i_107, i_108, i_109, i_110, i_111, i_112, i_113, i_114, i_115, i_116, i_117, i_118, i_119, i_120, i_121, i_122, i_171, i_200, i_236, i_237, i_255, i_256, i_900, i_999, i_1000, i_1137, i_2000, i_2001, i_2002, i_2003, i_2004, i_2005, i_2006, i_2007, i_2008, i_3000, i_3001, i_3002, i_3003, i_3004, i_3005, i_3006, i_3007, i_3008, nm_1, nI_a1, nm_2, oI_n, oI_some, nI_eqP, nI_ltP, nI_leP, nI_add, nI_mul, nI_sub, nI_div, n_rd, n_wr, n_wrJ, n_md, Option.bind_some, reduceIte, Nat.reduceEqDiff, Nat.reduceLeDiff, Nat.reduceLT, or_self, true_or, or_true, false_or, or_false, ne_eq, not_true_eq_false, not_false_eq_true, true_and, and_true, false_and, and_false, decide_true, decide_false, Bool.false_eq_true, decide_eq_true_eq, reduceCtorEq, Nat.add_sub_cancel, Nat.reduceAdd, Nat.reduceMul, Nat.reduceSub, am_let, c]
    | some g =>
      have hg := hl g rfl
      by_cases c : s = 8
      · simp (disch := omega) only [i_0, i_1, i_2, i_3, i_4, i_5, i_6, i_7, i_8, i_9, i_10, i_11, i_12, i_13, i_14, i_15, i_16, i_17, i_18, i_19, i_20, i_21, i_22, i_23, i_24, i_25, i_26, i_27, i_28, i_29, i_30, i_31, i_32, i_33, i_34, i_35, i_36, i_37, i_38, i_39, i_40, i_41, i_42, i_43, i_45, i_46, i_48, i_50, i_57, i_58, i_59, i_60, i_61, i_62, i_63, i_65, i_91, i_93, i_97, i_99, i_100, i_101, i_102, i_103, i_104, i_105, i_106, i_107, i_108, i_109, i_110, i_111, i_112, i_113, i_114, i_115, i_116, i_117, i_118, i_119, i_120, i_121, i_122, i_171, i_200, i_236, i_237, i_255, i_256, i_900, i_999, i_1000, i_1137, i_2000, i_2001, i_2002, i_2003, i_2004, i_2005, i_2006, i_2007, i_2008, i_3000, i_3001, i_3002, i_3003, i_3004, i_3005, i_3006, i_3007, i_3008, nm_1, nI_a1, nm_2, oI_n, oI_some, nI_eqP, nI_ltP, nI_leP, nI_add, nI_mul, nI_sub, nI_div, n_rd, n_wr, n_wrJ, n_md, Option.bind_some, reduceIte, Nat.reduceEqDiff, Nat.reduceLeDiff, Nat.reduceLT, or_self, true_or, or_true, false_or, or_false, ne_eq, not_true_eq_false, not_false_eq_true, true_and, and_true, false_and, and_false, decide_true, decide_false, Bool.false_eq_true, decide_eq_true_eq, reduceCtorEq, Nat.add_sub_cancel, Nat.reduceAdd, Nat.reduceMul, Nat.reduceSub, am_let, c, e.2.2]
        rw [n_hasBit (by omega) (by omega), Option.bind_some, sv _ hg]
        split <;> rfl
      · simp (disch := omega) only [i_0, i_1, i_2, i_3, i_4, i_5, i_6, i_7, i_8, i_9, i_10, i_11, i_12, i_13, i_14, i_15, i_16, i_17, i_18, i_19, i_20, i_21, i_22, i_23, i_24, i_25, i_26, i_27, i_28, i_29, i_30, i_31, i_32, i_33, i_34, i_35, i_36, i_37, i_38, i_39, i_40, i_41, i_42, i_43, i_45, i_46, i_48, i_50, i_57, i_58, i_59, i_60, i_61, i_62, i_63, i_65, i_91, i_93, i_97, i_99, i_100, i_101, i_102, i_103, i_104, i_105, i_106, i_107, i_108, i_109, i_110, i_111, i_112, i_113, i_114, i_115, i_116, i_117, i_118, i_119, i_120, i_121, i_122, i_171, i_200, i_236, i_237, i_255, i_256, i_900, i_999, i_1000, i_1137, i_2000, i_2001, i_2002, i_2003, i_2004, i_2005, i_2006, i_2007, i_2008, i_3000, i_3001, i_3002, i_3003, i_3004, i_3005, i_3006, i_3007, i_3008, nm_1, nI_a1, nm_2, oI_n, oI_some, nI_eqP, nI_ltP, nI_leP, nI_add, nI_mul, nI_sub, nI_div, n_rd, n_wr, n_wrJ, n_md, Option.bind_some, reduceIte, Nat.reduceEqDiff, Nat.reduceLeDiff, Nat.reduceLT, or_self, true_or, or_true, false_or, or_false, ne_eq, not_true_eq_false, not_false_eq_true, true_and, and_true, false_and, and_false, decide_true, decide_false, Bool.false_eq_true, decide_eq_true_eq, reduceCtorEq, Nat.add_sub_cancel, Nat.reduceAdd, Nat.reduceMul, Nat.reduceSub, am_let, c]
theorem n_hind1 {o : Nat} {h : am_H} {a b x y : Int32} (hx : x < 0 ∨ nI 7 ≤ x) : f_River_hindrance o a b x y h = some 1 := by
  have q : ∀ k, k < 7 → ¬ x = nI k := fun k hk e => by
    subst e
    rcases hx with c | c
    · exact nI_pos (by omega) c
    · exact nI_ge hk (by decide) c
  unfold f_River_hindrance
  rw [if_neg (show ¬ x = 0 from q 0 (by decide)), if_neg (show ¬ x = 1 from q 1 (by decide)), if_neg (show ¬ x = 2 from q 2 (by decide)), if_neg (show ¬ x = 3 from q 3 (by decide)), if_neg (show ¬ x = 4 from q 4 (by decide)), if_neg (show ¬ x = 5 from q 5 (by decide)), if_neg (show ¬ x = 6 from q 6 (by decide))]
theorem n_moved {G s act : Nat} {l : Option Nat} {h : am_H} (hs : s < 9) (ha : act ≤ 6) (h2 : act = 2 → 2 ≤ s) (h5 : act = 5 ∨ act = 6 → l ≠ none) :
    f_River_moved (nI s) (nI act) (oI l) h = some (nI (mv s act l)) := by
  unfold f_River_moved mv
  rcases (show act = 0 ∨ act = 1 ∨ act = 2 ∨ act = 3 ∨ act = 4 ∨ act = 5 ∨ act = 6 by omega) with rfl | rfl | rfl | rfl | rfl | rfl | rfl
  · rfl
  · simp (disch := omega) only [i_0, i_1, i_2, i_3, i_4, i_5, i_6, i_7, i_8, i_9, i_10, i_11, i_12, i_13, i_14, i_15, i_16, i_17, i_18, i_19, i_20, i_21, i_22, i_23, i_24, i_25, i_26, i_27, i_28, i_29, i_30, i_31, i_32, i_33, i_34, i_35, i_36, i_37, i_38, i_39, i_40, i_41, i_42, i_43, i_45, i_46, i_48, i_50, i_57, i_58, i_59, i_60, i_61, i_62, i_63, i_65, i_91, i_93, i_97, i_99, i_100, i_101, i_102, i_103, i_104, i_105, i_106, i_107, i_108, i_109, i_110, i_111, i_112, i_113, i_114, i_115, i_116, i_117, i_118, i_119, i_120, i_121, i_122, i_171, i_200, i_236, i_237, i_255, i_256, i_900, i_999, i_1000, i_1137, i_2000, i_2001, i_2002, i_2003, i_2004, i_2005, i_2006, i_2007, i_2008, i_3000, i_3001, i_3002, i_3003, i_3004, i_3005, i_3006, i_3007, i_3008, nm_1, nI_a1, nm_2, oI_n, oI_some, nI_eqP, nI_ltP, nI_leP, nI_add, nI_mul, nI_sub, nI_div, n_rd, n_wr, n_wrJ, n_md, Option.bind_some, reduceIte, Nat.reduceEqDiff, Nat.reduceLeDiff, Nat.reduceLT, or_self, true_or, or_true, false_or, or_false, ne_eq, not_true_eq_false, not_false_eq_true, true_and, and_true, false_and, and_false, decide_true, decide_false, Bool.false_eq_true, decide_eq_true_eq, reduceCtorEq, Nat.add_sub_cancel, Nat.reduceAdd, Nat.reduceMul, Nat.reduceSub, am_let]
  · have := h2 rfl
    simp (disch := omega) only [i_0, i_1, i_2, i_3, i_4, i_5, i_6, i_7, i_8, i_9, i_10, i_11, i_12, i_13, i_14, i_15, i_16, i_17, i_18, i_19, i_20, i_21, i_22, i_23, i_24, i_25, i_26, i_27, i_28, i_29, i_30, i_31, i_32, i_33, i_34, i_35, i_36, i_37, i_38, i_39, i_40, i_41, i_42, i_43, i_45, i_46, i_48, i_50, i_57, i_58, i_59, i_60, i_61, i_62, i_63, i_65, i_91, i_93, i_97, i_99, i_100, i_101, i_102, i_103, i_104, i_105, i_106, i_107, i_108, i_109, i_110, i_111, i_112, i_113, i_114, i_115, i_116, i_117, i_118, i_119, i_120, i_121, i_122, i_171, i_200, i_236, i_237, i_255, i_256, i_900, i_999, i_1000, i_1137, i_2000, i_2001, i_2002, i_2003, i_2004, i_2005, i_2006, i_2007, i_2008, i_3000, i_3001, i_3002, i_3003, i_3004, i_3005, i_3006, i_3007, i_3008, nm_1, nI_a1, nm_2, oI_n, oI_some, nI_eqP, nI_ltP, nI_leP, nI_add, nI_mul, nI_sub, nI_div, n_rd, n_wr, n_wrJ, n_md, Option.bind_some, reduceIte, Nat.reduceEqDiff, Nat.reduceLeDiff, Nat.reduceLT, or_self, true_or, or_true, false_or, or_false, ne_eq, not_true_eq_false, not_false_eq_true, true_and, and_true, false_and, and_false, decide_true, decide_false, Bool.false_eq_true, decide_eq_true_eq, reduceCtorEq, Nat.add_sub_cancel, Nat.reduceAdd, Nat.reduceMul, Nat.reduceSub, am_let]
  · simp (disch := omega) only [i_0, i_1, i_2, i_3, i_4, i_5, i_6, i_7, i_8, i_9, i_10, i_11, i_12, i_13, i_14, i_15, i_16, i_17, i_18, i_19, i_20, i_21, i_22, i_23, i_24, i_25, i_26, i_27, i_28, i_29, i_30, i_31, i_32, i_33, i_34, i_35, i_36, i_37, i_38, i_39, i_40, i_41, i_42, i_43, i_45, i_46, i_48, i_50, i_57, i_58, i_59, i_60, i_61, i_62, i_63, i_65, i_91, i_93, i_97, i_99, i_100, i_101, i_102, i_103, i_104, i_105, i_106, i_107, i_108, i_109, i_110, i_111, i_112, i_113, i_114, i_115, i_116, i_117, i_118, i_119, i_120, i_121, i_122, i_171, i_200, i_236, i_237, i_255, i_256, i_900, i_999, i_1000, i_1137, i_2000, i_2001, i_2002, i_2003, i_2004, i_2005, i_2006, i_2007, i_2008, i_3000, i_3001, i_3002, i_3003, i_3004, i_3005, i_3006, i_3007, i_3008, nm_1, nI_a1, nm_2, oI_n, oI_some, nI_eqP, nI_ltP, nI_leP, nI_add, nI_mul, nI_sub, nI_div, n_rd, n_wr, n_wrJ, n_md, Option.bind_some, reduceIte, Nat.reduceEqDiff, Nat.reduceLeDiff, Nat.reduceLT, or_self, true_or, or_true, false_or, or_false, ne_eq, not_true_eq_false, not_false_eq_true, true_and, and_true, false_and, and_false, decide_true, decide_false, Bool.false_eq_true, decide_eq_true_eq, reduceCtorEq, Nat.add_sub_cancel, Nat.reduceAdd, Nat.reduceMul, Nat.reduceSub, am_let]
    exact congrArg some (nI_xor s 1)
  · rfl
  · simp (disch := omega) only [i_0, i_1, i_2, i_3, i_4, i_5, i_6, i_7, i_8, i_9, i_10, i_11, i_12, i_13, i_14, i_15, i_16, i_17, i_18, i_19, i_20, i_21, i_22, i_23, i_24, i_25, i_26, i_27, i_28, i_29, i_30, i_31, i_32, i_33, i_34, i_35, i_36, i_37, i_38, i_39, i_40, i_41, i_42, i_43, i_45, i_46, i_48, i_50, i_57, i_58, i_59, i_60, i_61, i_62, i_63, i_65, i_91, i_93, i_97, i_99, i_100, i_101, i_102, i_103, i_104, i_105, i_106, i_107, i_108, i_109, i_110, i_111, i_112, i_113, i_114, i_115, i_116, i_117, i_118, i_119, i_120, i_121, i_122, i_171, i_200, i_236, i_237, i_255, i_256, i_900, i_999, i_1000, i_1137, i_2000, i_2001, i_2002, i_2003, i_2004, i_2005, i_2006, i_2007, i_2008, i_3000, i_3001, i_3002, i_3003, i_3004, i_3005, i_3006, i_3007, i_3008, nm_1, nI_a1, nm_2, oI_n, oI_some, nI_eqP, nI_ltP, nI_leP, nI_add, nI_mul, nI_sub, nI_div, n_rd, n_wr, n_wrJ, n_md, Option.bind_some, reduceIte, Nat.reduceEqDiff, Nat.reduceLeDiff, Nat.reduceLT, or_self, true_or, or_true, false_or, or_false, ne_eq, not_true_eq_false, not_false_eq_true, true_and, and_true, false_and, and_false, decide_true, decide_false, Bool.false_eq_true, decide_eq_true_eq, reduceCtorEq, Nat.add_sub_cancel, Nat.reduceAdd, Nat.reduceMul, Nat.reduceSub, am_let]
    cases l with
    | none => exact absurd rfl (h5 (.inl rfl))
    | some g => rw [oI_some, nI_mul]; rfl
  · simp (disch := omega) only [i_0, i_1, i_2, i_3, i_4, i_5, i_6, i_7, i_8, i_9, i_10, i_11, i_12, i_13, i_14, i_15, i_16, i_17, i_18, i_19, i_20, i_21, i_22, i_23, i_24, i_25, i_26, i_27, i_28, i_29, i_30, i_31, i_32, i_33, i_34, i_35, i_36, i_37, i_38, i_39, i_40, i_41, i_42, i_43, i_45, i_46, i_48, i_50, i_57, i_58, i_59, i_60, i_61, i_62, i_63, i_65, i_91, i_93, i_97, i_99, i_100, i_101, i_102, i_103, i_104, i_105, i_106, i_107, i_108, i_109, i_110, i_111, i_112, i_113, i_114, i_115, i_116, i_117, i_118, i_119, i_120, i_121, i_122, i_171, i_200, i_236, i_237, i_255, i_256, i_900, i_999, i_1000, i_1137, i_2000, i_2001, i_2002, i_2003, i_2004, i_2005, i_2006, i_2007, i_2008, i_3000, i_3001, i_3002, i_3003, i_3004, i_3005, i_3006, i_3007, i_3008, nm_1, nI_a1, nm_2, oI_n, oI_some, nI_eqP, nI_ltP, nI_leP, nI_add, nI_mul, nI_sub, nI_div, n_rd, n_wr, n_wrJ, n_md, Option.bind_some, reduceIte, Nat.reduceEqDiff, Nat.reduceLeDiff, Nat.reduceLT, or_self, true_or, or_true, false_or, or_false, ne_eq, not_true_eq_false, not_false_eq_true, true_and, and_true, false_and, and_false, decide_true, decide_false, Bool.false_eq_true, decide_eq_true_eq, reduceCtorEq, Nat.add_sub_cancel, Nat.reduceAdd, Nat.reduceMul, Nat.reduceSub, am_let]
    cases l with
    | none => exact absurd rfl (h5 (.inr rfl))
    | some g => rw [oI_some, nI_mul, nI_add]; rfl
/-- an act that can be done leads to a spot -/
theorem hi_mv {r : sR} {p k f s act : Nat} {l : Option Nat} (hr : vR r) (hs : vSp (rG r) s) (hl : ∀ g, l = some g → g < rG r) (ha : act ≤ 6) (h0 : hi r p k f s act l = 0) :
    (act = 2 → 2 ≤ s) ∧ (act = 5 ∨ act = 6 → l ≠ none) ∧ vSp (rG r) (mv s act l) := by
  have hG := hr.1
  unfold hi at h0
  unfold mv vSp
  have x1 : ∀ s, s < 8 → s ^^^ 1 < 8 ∧ (s ^^^ 1) / 2 = s / 2 := by decide
  rcases (show act = 0 ∨ act = 1 ∨ act = 2 ∨ act = 3 ∨ act = 4 ∨ act = 5 ∨ act = 6 by omega) with rfl | rfl | rfl | rfl | rfl | rfl | rfl
  · simpa [vSp] using hs
  · simp at h0
    split at h0
    · simp at h0
    · simp; omega
  · simp at h0
    split at h0
    · simp at h0
    · rcases hs with c | c
      · omega
      · simp; omega
  · simp at h0
    split at h0
    · simp at h0
    · rename_i c
      rcases hs with d | d
      · exact absurd (.inl d) c
      · have := x1 s (by omega)
        simp; omega
  · simp
  · simp at h0
    split at h0
    · cases l with
      | none => simp at h0
      | some g => have := hl g rfl; simp; omega
    · simp at h0
  · simp at h0
    split at h0
    · cases l with
      | none => simp at h0
      | some g => have := hl g rfl; simp; omega
    · simp at h0
