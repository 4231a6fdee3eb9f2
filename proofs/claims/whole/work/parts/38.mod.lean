-- deps: 31.law 32.nat 33.bit 34.spec 35.riv 36.let 37.mod
theorem msk31 {k : Nat} (h : k < 32) : k &&& 31 = k := by
  have : ∀ k, k < 32 → k &&& 31 = k := by decide
  exact this k h
theorem and_eq0 {a b : Nat} (h : a < 2 ^ 31) : (nI (a &&& b) = nI 0) = (a &&& b = 0) := by
  have : a &&& b ≤ a := Nat.and_le_left
  exact propext (nI_eq (by omega) (by decide))
/-- the reference's tables of a person -/
def mT (p : Nat) (r : sR) (h : am_H) : Prop := ∀ k f, k < rW r → f < 2 → h.2.1 144 (2 * k + f) = nI (gU r p k f) ∧ h.2.1 145 (2 * k + f) = nI (gD r p k f) ∧ h.2.1 146 (2 * k + f) = nI (gS r p k f)
theorem and_b {a b n : Nat} (h : a < n) : (a &&& b) < n := Nat.lt_of_le_of_lt Nat.and_le_left h
theorem shl2_b {a : Nat} (h : a < 512) : a <<< 2 < 2048 := by rw [Nat.shiftLeft_eq]; omega
theorem shr2_b {a n : Nat} (h : a < n) : a >>> 2 < n := by rw [Nat.shiftRight_eq_div_pow]; omega
theorem n_goesOn {h : am_H} {r : sR} {s : sS} {p set t f : Nat} (V : mV (h.2.1 137) r s) (M : mT p r h) (hs : set < 512) (ht : t < 2 ^ 31) (hf : f < 2) :
    f_Mod_goesOn (nI set) (nI t) (nI f) h = some (nI (go r p (t % rW r) f (sW s (t % rW r)) set)) := by
  have hG := V.hG
  have hW := V.hW
  have hm : t % rW r < rW r := Nat.mod_lt _ (by omega)
  have hl := V.hwk hm
  have e := M (t % rW r) f hm hf
  unfold f_Mod_goesOn
  rw [n_spanIn V ht]
  unfold go
  generalize hk : t % rW r = k at *
  generalize hll : sW s k = l at *
  have hU := gU_lt hG.2 p k f
  have hD := gD_lt hG.2 p k f
  have hS := gS_lt hG.2 p k f
  have b1 : set &&& gD r p k f < 2 ^ 31 := and_b (by omega)
  simp (disch := omega) only [i_0, i_1, i_2, i_3, i_4, i_5, i_6, i_7, i_8, i_9, i_10, i_11, i_12, i_13, i_14, i_15, i_16, i_17, i_18, i_19, i_20, i_21, i_22, i_23, i_24, i_25, i_26, i_27, i_28, i_29, i_30, i_31, i_32, i_33, i_34, i_35, i_36, i_37, i_38, i_39, i_40, i_41, i_42, i_43, i_45, i_46, i_48, i_50, i_57, i_58, i_59, i_60, i_61, i_62, i_63, i_65, i_91, i_93, i_97, i_99, i_100, i_101, i_102, i_103, i_104, i_105, i_106, i_107, i_108, i_109, i_110, i_111, i_112, i_113, i_114, i_115, i_116, i_117, i_118, i_119, i_120, i_121, i_122, i_171, i_200, i_236, i_237, i_255, i_256, i_900, i_999, i_1000, i_1137, i_2000, i_2001, i_2002, i_2003, i_2004, i_2005, i_2006, i_2007, i_2008, i_3000, i_3001, i_3002, i_3003, i_3004, i_3005, i_3006, i_3007, i_3008, nm_1, nI_a1, nm_2, oI_n, oI_some, nI_eqP, nI_ltP, nI_leP, nI_add, nI_mul, nI_sub, nI_div, n_rd, n_wr, n_wrJ, n_md, Option.bind_some, reduceIte, Nat.reduceEqDiff, Nat.reduceLeDiff, Nat.reduceLT, or_self, true_or, or_true, false_or, or_false, ne_eq, not_true_eq_false, not_false_eq_true, true_and, and_true, false_and, and_false, decide_true, decide_false, Bool.false_eq_true, decide_eq_true_eq, reduceCtorEq, Nat.add_sub_cancel, Nat.reduceAdd, Nat.reduceMul, Nat.reduceSub, am_let, nI_or, nI_and, nI_shl, nI_shr, msk31, and_eq0, V.w, hk, e.1, e.2.1, e.2.2]
  generalize hy : (set ||| (set &&& gU r p k f) <<< 2 ||| (set &&& gD r p k f) >>> 2) = y
  have hyb : ∀ j, set.testBit j = true → y.testBit j = true := fun j hj => by
    rw [← hy]
    simp [Nat.testBit_or, hj]
  cases l with
  | none => simp (disch := omega) only [i_0, i_1, i_2, i_3, i_4, i_5, i_6, i_7, i_8, i_9, i_10, i_11, i_12, i_13, i_14, i_15, i_16, i_17, i_18, i_19, i_20, i_21, i_22, i_23, i_24, i_25, i_26, i_27, i_28, i_29, i_30, i_31, i_32, i_33, i_34, i_35, i_36, i_37, i_38, i_39, i_40, i_41, i_42, i_43, i_45, i_46, i_48, i_50, i_57, i_58, i_59, i_60, i_61, i_62, i_63, i_65, i_91, i_93, i_97, i_99, i_100, i_101, i_102, i_103, i_104, i_105, i_106, i_107, i_108, i_109, i_110, i_111, i_112, i_113, i_114, i_115, i_116, i_117, i_118, i_119, i_120, i_121, i_122, i_171, i_200, i_236, i_237, i_255, i_256, i_900, i_999, i_1000, i_1137, i_2000, i_2001, i_2002, i_2003, i_2004, i_2005, i_2006, i_2007, i_2008, i_3000, i_3001, i_3002, i_3003, i_3004, i_3005, i_3006, i_3007, i_3008, nm_1, nI_a1, nm_2, oI_n, oI_some, nI_eqP, nI_ltP, nI_leP, nI_add, nI_mul, nI_sub, nI_div, n_rd, n_wr, n_wrJ, n_md, Option.bind_some, reduceIte, Nat.reduceEqDiff, Nat.reduceLeDiff, Nat.reduceLT, or_self, true_or, or_true, false_or, or_false, ne_eq, not_true_eq_false, not_false_eq_true, true_and, and_true, false_and, and_false, decide_true, decide_false, Bool.false_eq_true, decide_eq_true_eq, reduceCtorEq, Nat.add_sub_cancel, Nat.reduceAdd, Nat.reduceMul, Nat.reduceSub, am_let, jn, Nat.or_zero]
  | some g =>
    have hg := hl g rfl
    simp (disch := omega) only [i_0, i_1, i_2, i_3, i_4, i_5, i_6, i_7, i_8, i_9, i_10, i_11, i_12, i_13, i_14, i_15, i_16, i_17, i_18, i_19, i_20, i_21, i_22, i_23, i_24, i_25, i_26, i_27, i_28, i_29, i_30, i_31, i_32, i_33, i_34, i_35, i_36, i_37, i_38, i_39, i_40, i_41, i_42, i_43, i_45, i_46, i_48, i_50, i_57, i_58, i_59, i_60, i_61, i_62, i_63, i_65, i_91, i_93, i_97, i_99, i_100, i_101, i_102, i_103, i_104, i_105, i_106, i_107, i_108, i_109, i_110, i_111, i_112, i_113, i_114, i_115, i_116, i_117, i_118, i_119, i_120, i_121, i_122, i_171, i_200, i_236, i_237, i_255, i_256, i_900, i_999, i_1000, i_1137, i_2000, i_2001, i_2002, i_2003, i_2004, i_2005, i_2006, i_2007, i_2008, i_3000, i_3001, i_3002, i_3003, i_3004, i_3005, i_3006, i_3007, i_3008, nm_1, nI_a1, nm_2, oI_n, oI_some, nI_eqP, nI_ltP, nI_leP, nI_add, nI_mul, nI_sub, nI_div, n_rd, n_wr, n_wrJ, n_md, Option.bind_some, reduceIte, Nat.reduceEqDiff, Nat.reduceLeDiff, Nat.reduceLT, or_self, true_or, or_true, false_or, or_false, ne_eq, not_true_eq_false, not_false_eq_true, true_and, and_true, false_and, and_false, decide_true, decide_false, Bool.false_eq_true, decide_eq_true_eq, reduceCtorEq, Nat.add_sub_cancel, Nat.reduceAdd, Nat.reduceMul, Nat.reduceSub, am_let]
    rw [n_isIn (by omega) (by omega), Option.bind_some]
    show _ = some (nI (y ||| (if (gS r p k f).testBit g then (if set &&& (256 ||| (3 <<< (2 * g))) = 0 then 0 else 256 ||| (3 <<< (2 * g))) else 0)))
    by_cases c : (gS r p k f).testBit g
    · rw [if_pos c, if_pos c, n_isIn (a := set) (k := 8) (by omega) (by omega)]
      simp (disch := omega) only [i_0, i_1, i_2, i_3, i_4, i_5, i_6, i_7, i_8, i_9, i_10, i_11, i_12, i_13, i_14, i_15, i_16, i_17, i_18, i_19, i_20, i_21, i_22, i_23, i_24, i_25, i_26, i_27, i_28, i_29, i_30, i_31, i_32, i_33, i_34, i_35, i_36, i_37, i_38, i_39, i_40, i_41, i_42, i_43, i_45, i_46, i_48, i_50, i_57, i_58, i_59, i_60, i_61, i_62, i_63, i_65, i_91, i_93, i_97, i_99, i_100, i_101, i_102, i_103, i_104, i_105, i_106, i_107, i_108, i_109, i_110, i_111, i_112, i_113, i_114, i_115, i_116, i_117, i_118, i_119, i_120, i_121, i_122, i_171, i_200, i_236, i_237, i_255, i_256, i_900, i_999, i_1000, i_1137, i_2000, i_2001, i_2002, i_2003, i_2004, i_2005, i_2006, i_2007, i_2008, i_3000, i_3001, i_3002, i_3003, i_3004, i_3005, i_3006, i_3007, i_3008, nm_1, nI_a1, nm_2, oI_n, oI_some, nI_eqP, nI_ltP, nI_leP, nI_add, nI_mul, nI_sub, nI_div, n_rd, n_wr, n_wrJ, n_md, Option.bind_some, reduceIte, Nat.reduceEqDiff, Nat.reduceLeDiff, Nat.reduceLT, or_self, true_or, or_true, false_or, or_false, ne_eq, not_true_eq_false, not_false_eq_true, true_and, and_true, false_and, and_false, decide_true, decide_false, Bool.false_eq_true, decide_eq_true_eq, reduceCtorEq, Nat.add_sub_cancel, Nat.reduceAdd, Nat.reduceMul, Nat.reduceSub, am_let, nI_or, nI_and, nI_shl, nI_shr, msk31, and_eq0]
      have z1 : (1 : Nat) &&& 31 = 1 := rfl
      have ew : ∀ j, (1 <<< (2 * g)).testBit j = decide (j = 2 * g) := fun j => by
        rw [Nat.one_shiftLeft, Nat.testBit_two_pow]; exact decide_eq_decide.mpr eq_comm
      have ee0 : 1 <<< (2 * g) <<< 1 = 1 <<< (2 * g + 1) := by rw [Nat.shiftLeft_add]
      have ee : ∀ j, (1 <<< (2 * g + 1)).testBit j = decide (j = 2 * g + 1) := fun j => by
        rw [Nat.one_shiftLeft, Nat.testBit_two_pow]; exact decide_eq_decide.mpr eq_comm
      have e8 : ∀ j, (256 : Nat).testBit j = decide (j = 8) := fun j => by
        rw [show 256 = 2 ^ 8 from rfl, Nat.testBit_two_pow]; exact decide_eq_decide.mpr eq_comm
      have q0 : (set &&& (256 ||| 3 <<< (2 * g)) = 0) ↔ (set.testBit 8 = false ∧ set.testBit (2 * g) = false ∧ set.testBit (2 * g + 1) = false) := by
        have hj := jn_t (S := gS r p k f) (s := set) (l := g) (by omega)
        constructor
        · intro d
          have t : ∀ i, (set.testBit i && tri g i) = false := fun i => by
            rw [← tri_t (by omega), ← Nat.testBit_and, d, Nat.zero_testBit]
          have t8 := t 8
          have tw := t (2 * g)
          have te := t (2 * g + 1)
          simp [tri] at t8 tw te
          exact ⟨t8, tw, te⟩
        · rintro ⟨t8, tw, te⟩
          apply Nat.eq_of_testBit_eq
          intro i
          rw [Nat.testBit_and, tri_t (by omega), Nat.zero_testBit]
          unfold tri
          by_cases i8 : i = 8
          · subst i8; simp [t8]
          · by_cases iw : i = 2 * g
            · subst iw; simp [tw]
            · by_cases ie : i = 2 * g + 1
              · subst ie; simp [te]
              · simp [i8, iw, ie]
      rw [ee0]
      simp only [and_pow, q0]
      have hyw := hyb (2 * g)
      have hye := hyb (2 * g + 1)
      have hy8 := hyb 8
      have o3 : ∀ j, (256 ||| 3 <<< (2 * g)).testBit j = tri g j := fun j => tri_t (by omega) j
      have fin : ∀ a b : Nat, (∀ j, a.testBit j = b.testBit j) → some (nI a) = some (nI b) := fun a b q => by rw [Nat.eq_of_testBit_eq q]
      rcases Bool.eq_false_or_eq_true (set.testBit (2 * g)) with bw | bw <;> rcases Bool.eq_false_or_eq_true (set.testBit (2 * g + 1)) with be | be <;> rcases Bool.eq_false_or_eq_true (set.testBit 8) with bo | bo <;> simp only [bw, be, bo, reduceIte, Bool.false_eq_true, Bool.true_eq_false, Option.bind_some, and_self, and_false, and_true, false_and, true_and, nI_or] <;> apply fin <;> intro j <;> simp only [Nat.testBit_or, ew, ee, e8, o3, tri, Nat.zero_testBit, Bool.or_false] <;> by_cases j1 : j = 2 * g <;> by_cases j2 : j = 2 * g + 1 <;> by_cases j3 : j = 8 <;> simp_all
    · rw [if_neg c, if_neg c, Nat.or_zero]

theorem mV.ex {X : List Nat} {h h' : am_H} {r : sR} {s : sS} (V : mV (h.2.1 137) r s) (x : am_ex X h h') (hX : 137 ∉ X) : mV (h'.2.1 137) r s := by rw [x.2.2 137 hX]; exact V
theorem bts_s (n : Nat) (c : Nat → Bool) : bts (n + 1) c = bts n c ||| (if c n then 1 <<< n else 0) := rfl
theorem bts_b {n : Nat} (c : Nat → Bool) (hn : n ≤ 8) : bts n c < 256 := Nat.lt_of_lt_of_le (bts_lt n c) (Nat.pow_le_pow_right (by omega) (n := 2) (i := n) (j := 8) hn)
set_option maxHeartbeats 1000000 in
theorem ll_53 {r : sR} {s : sS} {p k f : Nat} (hp : p < rP r) (hk : k < rW r) (hf : f < 2) {h : am_H} (V : mV (h.2.1 137) r s) (z1 : h.2.1 144 (2 * k + f) = 0) (z2 : h.2.1 145 (2 * k + f) = 0) :
    ∃ h', f_Mod_laysLets_L53 (nI p) am_fu (nI k) (nI f) (nI (2 * k + f)) 0 h = some (nI (2 * rG r), h') ∧ am_ex [141, 142, 144, 145] h h' ∧ (∀ j, j ≠ 2 * k + f → h'.2.1 144 j = h.2.1 144 j ∧ h'.2.1 145 j = h.2.1 145 j) ∧ h'.2.1 144 (2 * k + f) = nI (gU r p k f) ∧ h'.2.1 145 (2 * k + f) = nI (gD r p k f) := by
  have hG := V.hG
  have hW := V.hW
  have hP := V.hP
  have L := lp (fun n (a : Int32 × am_H) => f_Mod_laysLets_L53 (nI p) n (nI k) (nI f) (nI (2 * k + f)) a.1 a.2)
    (fun m a => ∃ x, m + x = 2 * rG r ∧ a.1 = nI x ∧ am_ex [141, 142, 144, 145] h a.2 ∧ (∀ j, j ≠ 2 * k + f → a.2.2.1 144 j = h.2.1 144 j ∧ a.2.2.1 145 j = h.2.1 145 j) ∧ a.2.2.1 144 (2 * k + f) = nI (bts x (fun s => rWk r p s k f && decide (s / 2 + 1 < rG r))) ∧ a.2.2.1 145 (2 * k + f) = nI (bts x (fun s => rWk r p s k f && decide (2 ≤ s))))
    (fun b => b.1 = nI (2 * rG r) ∧ am_ex [141, 142, 144, 145] h b.2 ∧ (∀ j, j ≠ 2 * k + f → b.2.2.1 144 j = h.2.1 144 j ∧ b.2.2.1 145 j = h.2.1 145 j) ∧ b.2.2.1 144 (2 * k + f) = nI (gU r p k f) ∧ b.2.2.1 145 (2 * k + f) = nI (gD r p k f))
    (fun n m a hI => by
      obtain ⟨x, h1, h2, h3, h4, h5, h6⟩ := hI
      obtain ⟨a1, a2⟩ := a
      simp only at h2 h3 h4 h5 h6
      subst h2
      have V2 := V.ex h3 (by decide)
      simp only
      rw [f_Mod_laysLets_L53]
      simp (disch := omega) only [i_0, i_1, i_2, i_3, i_4, i_5, i_6, i_7, i_8, i_9, i_10, i_11, i_12, i_13, i_14, i_15, i_16, i_17, i_18, i_19, i_20, i_21, i_22, i_23, i_24, i_25, i_26, i_27, i_28, i_29, i_30, i_31, i_32, i_33, i_34, i_35, i_36, i_37, i_38, i_39, i_40, i_41, i_42, i_43, i_45, i_46, i_48, i_50, i_57, i_58, i_59, i_60, i_61, i_62, i_63, i_65, i_91, i_93, i_97, i_99, i_100, i_101, i_102, i_103, i_104, i_105, i_106, i_107, i_108, i_109, i_110, i_111, i_112, i_113, i_114, i_115, i_116, i_117, i_118, i_119, i_120, i_121, i_122, i_171, i_200, i_236, i_237, i_255, i_256, i_900, i_999, i_1000, i_1137, i_2000, i_2001, i_2002, i_2003, i_2004, i_2005, i_2006, i_2007, i_2008, i_3000, i_3001, i_3002, i_3003, i_3004, i_3005, i_3006, i_3007, i_3008, nm_1, nI_a1, nm_2, oI_n, oI_some, nI_eqP, nI_ltP, nI_leP, nI_add, nI_mul, nI_sub, nI_div, n_rd, n_wr, n_wrJ, n_md, Option.bind_some, reduceIte, Nat.reduceEqDiff, Nat.reduceLeDiff, Nat.reduceLT, or_self, true_or, or_true, false_or, or_false, ne_eq, not_true_eq_false, not_false_eq_true, true_and, and_true, false_and, and_false, decide_true, decide_false, Bool.false_eq_true, decide_eq_true_eq, reduceCtorEq, Nat.add_sub_cancel, Nat.reduceAdd, Nat.reduceMul, Nat.reduceSub, am_let, V2.g]
      by_cases c : x < 2 * rG r
      · right
        rw [if_neg (by omega)]
        have hx2 : x - x / 2 * 2 = x % 2 := by omega
        obtain ⟨q, e1, e2⟩ := n_lets (gap := x / 2) (k := k) (side := x % 2) (f := f) (h := a2) rfl (show (0 : Nat) < 2 by decide) (show p < 5 by omega) hf V2.2.2.1.2.2.2.2.2.2.1.1
        rw [V2.2.2.1.2.2.2.2.2.2.2.1 p x k f hp c hk hf] at e1
        rw [hx2, e1, Option.bind_some]
        have V3 := V2.ex e2 (by decide)
        have r4 : q.2.1 144 = a2.2.1 144 := e2.2.2 144 (by decide)
        have r5 : q.2.1 145 = a2.2.1 145 := e2.2.2 145 (by decide)
        have hb4 := bts_b (n := x) (fun s => rWk r p s k f && decide (s / 2 + 1 < rG r)) (by omega)
        have hb5 := bts_b (n := x) (fun s => rWk r p s k f && decide (2 ≤ s)) (by omega)
        have ee : am_ex [141, 142, 144, 145] h q := am_ex.tr h3 e2 (fun _ z => z) (by simp)
        by_cases w : rWk r p x k f
        · rw [w]
          simp (disch := omega) only [i_0, i_1, i_2, i_3, i_4, i_5, i_6, i_7, i_8, i_9, i_10, i_11, i_12, i_13, i_14, i_15, i_16, i_17, i_18, i_19, i_20, i_21, i_22, i_23, i_24, i_25, i_26, i_27, i_28, i_29, i_30, i_31, i_32, i_33, i_34, i_35, i_36, i_37, i_38, i_39, i_40, i_41, i_42, i_43, i_45, i_46, i_48, i_50, i_57, i_58, i_59, i_60, i_61, i_62, i_63, i_65, i_91, i_93, i_97, i_99, i_100, i_101, i_102, i_103, i_104, i_105, i_106, i_107, i_108, i_109, i_110, i_111, i_112, i_113, i_114, i_115, i_116, i_117, i_118, i_119, i_120, i_121, i_122, i_171, i_200, i_236, i_237, i_255, i_256, i_900, i_999, i_1000, i_1137, i_2000, i_2001, i_2002, i_2003, i_2004, i_2005, i_2006, i_2007, i_2008, i_3000, i_3001, i_3002, i_3003, i_3004, i_3005, i_3006, i_3007, i_3008, nm_1, nI_a1, nm_2, oI_n, oI_some, nI_eqP, nI_ltP, nI_leP, nI_add, nI_mul, nI_sub, nI_div, n_rd, n_wr, n_wrJ, n_md, Option.bind_some, reduceIte, Nat.reduceEqDiff, Nat.reduceLeDiff, Nat.reduceLT, or_self, true_or, or_true, false_or, or_false, ne_eq, not_true_eq_false, not_false_eq_true, true_and, and_true, false_and, and_false, decide_true, decide_false, Bool.false_eq_true, decide_eq_true_eq, reduceCtorEq, Nat.add_sub_cancel, Nat.reduceAdd, Nat.reduceMul, Nat.reduceSub, am_let, nI_or, nI_and, nI_shl, nI_shr, msk31, and_eq0, V3.g, r4, h5]
          have hxg : (rG r - 1 ≤ x / 2) ↔ ¬ (x / 2 + 1 < rG r) := by omega
          by_cases d1 : x / 2 + 1 < rG r <;> by_cases d2 : 2 ≤ x
          · rw [if_neg (by omega), Option.bind_some, if_neg (by omega)]
            simp (disch := omega) only [i_0, i_1, i_2, i_3, i_4, i_5, i_6, i_7, i_8, i_9, i_10, i_11, i_12, i_13, i_14, i_15, i_16, i_17, i_18, i_19, i_20, i_21, i_22, i_23, i_24, i_25, i_26, i_27, i_28, i_29, i_30, i_31, i_32, i_33, i_34, i_35, i_36, i_37, i_38, i_39, i_40, i_41, i_42, i_43, i_45, i_46, i_48, i_50, i_57, i_58, i_59, i_60, i_61, i_62, i_63, i_65, i_91, i_93, i_97, i_99, i_100, i_101, i_102, i_103, i_104, i_105, i_106, i_107, i_108, i_109, i_110, i_111, i_112, i_113, i_114, i_115, i_116, i_117, i_118, i_119, i_120, i_121, i_122, i_171, i_200, i_236, i_237, i_255, i_256, i_900, i_999, i_1000, i_1137, i_2000, i_2001, i_2002, i_2003, i_2004, i_2005, i_2006, i_2007, i_2008, i_3000, i_3001, i_3002, i_3003, i_3004, i_3005, i_3006, i_3007, i_3008, nm_1, nI_a1, nm_2, oI_n, oI_some, nI_eqP, nI_ltP, nI_leP, nI_add, nI_mul, nI_sub, nI_div, n_rd, n_wr, n_wrJ, n_md, Option.bind_some, reduceIte, Nat.reduceEqDiff, Nat.reduceLeDiff, Nat.reduceLT, or_self, true_or, or_true, false_or, or_false, ne_eq, not_true_eq_false, not_false_eq_true, true_and, and_true, false_and, and_false, decide_true, decide_false, Bool.false_eq_true, decide_eq_true_eq, reduceCtorEq, Nat.add_sub_cancel, Nat.reduceAdd, Nat.reduceMul, Nat.reduceSub, am_let, nI_or, nI_and, nI_shl, nI_shr, msk31, and_eq0, sI_row, r5, h6]
            refine ⟨m - 1, (_, _), by omega, rfl, x + 1, by omega, rfl, am_ex.tr (am_ex.tr ee (am_ex.sI (X := [144]) (by simp)) (fun _ z => z) (by simp)) (am_ex.sI (X := [145]) (by simp)) (fun _ z => z) (by simp), ?_, ?_, ?_⟩
            · intro j hj
              simp only [sI_row, reduceIte, Nat.reduceEqDiff, up_n hj, r4, r5]
              exact h4 j hj
            · simp only [sI_row, reduceIte, Nat.reduceEqDiff, up_s, bts_s, w, d1, decide_true, Bool.and_true]
            · simp only [sI_row, reduceIte, Nat.reduceEqDiff, up_s, bts_s, w, d2, decide_true, Bool.and_true]
          · rw [if_neg (by omega), Option.bind_some, if_pos (by omega)]
            refine ⟨m - 1, (_, _), by omega, rfl, x + 1, by omega, rfl, am_ex.tr ee (am_ex.sI (X := [144]) (by simp)) (fun _ z => z) (by simp), ?_, ?_, ?_⟩
            · intro j hj
              simp only [sI_row, reduceIte, Nat.reduceEqDiff, up_n hj, r4, r5]
              exact h4 j hj
            · simp only [sI_row, reduceIte, Nat.reduceEqDiff, up_s, bts_s, w, d1, decide_true, Bool.and_true]
            · simp only [sI_row, reduceIte, Nat.reduceEqDiff, r5, h6, bts_s, d2, decide_false, Bool.and_false, Bool.false_eq_true, Nat.or_zero]
          · rw [if_pos (by omega), Option.bind_some, if_neg (by omega)]
            simp (disch := omega) only [i_0, i_1, i_2, i_3, i_4, i_5, i_6, i_7, i_8, i_9, i_10, i_11, i_12, i_13, i_14, i_15, i_16, i_17, i_18, i_19, i_20, i_21, i_22, i_23, i_24, i_25, i_26, i_27, i_28, i_29, i_30, i_31, i_32, i_33, i_34, i_35, i_36, i_37, i_38, i_39, i_40, i_41, i_42, i_43, i_45, i_46, i_48, i_50, i_57, i_58, i_59, i_60, i_61, i_62, i_63, i_65, i_91, i_93, i_97, i_99, i_100, i_101, i_102, i_103, i_104, i_105, i_106, i_107, i_108, i_109, i_110, i_111, i_112, i_113, i_114, i_115, i_116, i_117, i_118, i_119, i_120, i_121, i_122, i_171, i_200, i_236, i_237, i_255, i_256, i_900, i_999, i_1000, i_1137, i_2000, i_2001, i_2002, i_2003, i_2004, i_2005, i_2006, i_2007, i_2008, i_3000, i_3001, i_3002, i_3003, i_3004, i_3005, i_3006, i_3007, i_3008, nm_1, nI_a1, nm_2, oI_n, oI_some, nI_eqP, nI_ltP, nI_leP, nI_add, nI_mul, nI_sub, nI_div, n_rd, n_wr, n_wrJ, n_md, Option.bind_some, reduceIte, Nat.reduceEqDiff, Nat.reduceLeDiff, Nat.reduceLT, or_self, true_or, or_true, false_or, or_false, ne_eq, not_true_eq_false, not_false_eq_true, true_and, and_true, false_and, and_false, decide_true, decide_false, Bool.false_eq_true, decide_eq_true_eq, reduceCtorEq, Nat.add_sub_cancel, Nat.reduceAdd, Nat.reduceMul, Nat.reduceSub, am_let, nI_or, nI_and, nI_shl, nI_shr, msk31, and_eq0, r5, h6]
            refine ⟨m - 1, (_, _), by omega, rfl, x + 1, by omega, rfl, am_ex.tr ee (am_ex.sI (X := [145]) (by simp)) (fun _ z => z) (by simp), ?_, ?_, ?_⟩
            · intro j hj
              simp only [sI_row, reduceIte, Nat.reduceEqDiff, up_n hj, r4, r5]
              exact h4 j hj
            · simp only [sI_row, reduceIte, Nat.reduceEqDiff, r4, h5, bts_s, d1, decide_false, Bool.and_false, Bool.false_eq_true, Nat.or_zero]
            · simp only [sI_row, reduceIte, Nat.reduceEqDiff, up_s, bts_s, w, d2, decide_true, Bool.and_true]
          · rw [if_pos (by omega), Option.bind_some, if_pos (by omega)]
            refine ⟨m - 1, (_, _), by omega, rfl, x + 1, by omega, rfl, ee, ?_, ?_, ?_⟩
            · intro j hj
              simp only [r4, r5]
              exact h4 j hj
            · simp only [r4, h5, bts_s, d1, decide_false, Bool.and_false, Bool.false_eq_true, reduceIte, Nat.or_zero]
            · simp only [r5, h6, bts_s, d2, decide_false, Bool.and_false, Bool.false_eq_true, reduceIte, Nat.or_zero]
        · simp only [Bool.not_eq_true] at w
          rw [w, if_neg (show ¬ (false, q).1 = true from Bool.false_ne_true)]
          refine ⟨m - 1, (_, _), by omega, rfl, x + 1, by omega, rfl, ee, ?_, ?_, ?_⟩
          · intro j hj
            simp only [r4, r5]
            exact h4 j hj
          · simp only [r4, h5, bts_s, w, Bool.false_and, Bool.false_eq_true, reduceIte, Nat.or_zero]
          · simp only [r5, h6, bts_s, w, Bool.false_and, Bool.false_eq_true, reduceIte, Nat.or_zero]
      · left
        have : x = 2 * rG r := by omega
        subst this
        rw [if_pos (by omega)]
        exact ⟨_, rfl, rfl, h3, h4, h5, h6⟩)
  obtain ⟨b, e1, e2, e3, e4, e5, e6⟩ := L am_fu (2 * rG r) (0, h) (by unfold am_fu; omega) ⟨0, by omega, rfl, am_ex.rf, fun _ _ => ⟨rfl, rfl⟩, z1, z2⟩
  obtain ⟨b1, b2⟩ := b
  simp only at e1 e2 e3 e4 e5 e6
  subst e2
  exact ⟨b2, e1, e3, e4, e5, e6⟩

theorem ll_146 {r : sR} {s : sS} {p k f : Nat} (hp : p < rP r) (hk : k < rW r) (hf : f < 2) {h : am_H} (V : mV (h.2.1 137) r s) (z1 : h.2.1 146 (2 * k + f) = 0) :
    ∃ h', f_Mod_laysLets_L146 (nI p) am_fu (nI k) (nI f) (nI (2 * k + f)) 0 h = some (nI (rG r), h') ∧ am_ex [141, 142, 146] h h' ∧ (∀ j, j ≠ 2 * k + f → h'.2.1 146 j = h.2.1 146 j) ∧ h'.2.1 146 (2 * k + f) = nI (gS r p k f) := by
  have hG := V.hG
  have hW := V.hW
  have hP := V.hP
  have L := lp (fun n (a : Int32 × am_H) => f_Mod_laysLets_L146 (nI p) n (nI k) (nI f) (nI (2 * k + f)) a.1 a.2)
    (fun m a => ∃ x, m + x = rG r ∧ a.1 = nI x ∧ am_ex [141, 142, 146] h a.2 ∧ (∀ j, j ≠ 2 * k + f → a.2.2.1 146 j = h.2.1 146 j) ∧ a.2.2.1 146 (2 * k + f) = nI (bts x (fun g => rSv r p g k f)))
    (fun b => b.1 = nI (rG r) ∧ am_ex [141, 142, 146] h b.2 ∧ (∀ j, j ≠ 2 * k + f → b.2.2.1 146 j = h.2.1 146 j) ∧ b.2.2.1 146 (2 * k + f) = nI (gS r p k f))
    (fun n m a hI => by
      obtain ⟨x, h1, h2, h3, h4, h5⟩ := hI
      obtain ⟨a1, a2⟩ := a
      simp only at h2 h3 h4 h5
      subst h2
      have V2 := V.ex h3 (by decide)
      simp only
      rw [f_Mod_laysLets_L146]
      simp (disch := omega) only [i_0, i_1, i_2, i_3, i_4, i_5, i_6, i_7, i_8, i_9, i_10, i_11, i_12, i_13, i_14, i_15, i_16, i_17, i_18, i_19, i_20, i_21, i_22, i_23, i_24, i_25, i_26, i_27, i_28, i_29, i_30, i_31, i_32, i_33, i_34, i_35, i_36, i_37, i_38, i_39, i_40, i_41, i_42, i_43, i_45, i_46, i_48, i_50, i_57, i_58, i_59, i_60, i_61, i_62, i_63, i_65, i_91, i_93, i_97, i_99, i_100, i_101, i_102, i_103, i_104, i_105, i_106, i_107, i_108, i_109, i_110, i_111, i_112, i_113, i_114, i_115, i_116, i_117, i_118, i_119, i_120, i_121, i_122, i_171, i_200, i_236, i_237, i_255, i_256, i_900, i_999, i_1000, i_1137, i_2000, i_2001, i_2002, i_2003, i_2004, i_2005, i_2006, i_2007, i_2008, i_3000, i_3001, i_3002, i_3003, i_3004, i_3005, i_3006, i_3007, i_3008, nm_1, nI_a1, nm_2, oI_n, oI_some, nI_eqP, nI_ltP, nI_leP, nI_add, nI_mul, nI_sub, nI_div, n_rd, n_wr, n_wrJ, n_md, Option.bind_some, reduceIte, Nat.reduceEqDiff, Nat.reduceLeDiff, Nat.reduceLT, or_self, true_or, or_true, false_or, or_false, ne_eq, not_true_eq_false, not_false_eq_true, true_and, and_true, false_and, and_false, decide_true, decide_false, Bool.false_eq_true, decide_eq_true_eq, reduceCtorEq, Nat.add_sub_cancel, Nat.reduceAdd, Nat.reduceMul, Nat.reduceSub, am_let, V2.g]
      by_cases c : x < rG r
      · right
        rw [if_neg (by omega)]
        obtain ⟨q, e1, e2⟩ := n_lets (gap := x) (k := k) (side := 0) (f := f) (h := a2) rfl (show (1 : Nat) < 2 by decide) (show p < 5 by omega) hf V2.2.2.1.2.2.2.2.2.2.1.2
        rw [V2.2.2.1.2.2.2.2.2.2.2.2 p x k f 0 hp c hk hf] at e1
        rw [e1, Option.bind_some]
        have ee : am_ex [141, 142, 146] h q := am_ex.tr h3 e2 (fun _ z => z) (by simp)
        have r6 : q.2.1 146 = a2.2.1 146 := e2.2.2 146 (by decide)
        simp (disch := omega) only [i_0, i_1, i_2, i_3, i_4, i_5, i_6, i_7, i_8, i_9, i_10, i_11, i_12, i_13, i_14, i_15, i_16, i_17, i_18, i_19, i_20, i_21, i_22, i_23, i_24, i_25, i_26, i_27, i_28, i_29, i_30, i_31, i_32, i_33, i_34, i_35, i_36, i_37, i_38, i_39, i_40, i_41, i_42, i_43, i_45, i_46, i_48, i_50, i_57, i_58, i_59, i_60, i_61, i_62, i_63, i_65, i_91, i_93, i_97, i_99, i_100, i_101, i_102, i_103, i_104, i_105, i_106, i_107, i_108, i_109, i_110, i_111, i_112, i_113, i_114, i_115, i_116, i_117, i_118, i_119, i_120, i_121, i_122, i_171, i_200, i_236, i_237, i_255, i_256, i_900, i_999, i_1000, i_1137, i_2000, i_2001, i_2002, i_2003, i_2004, i_2005, i_2006, i_2007, i_2008, i_3000, i_3001, i_3002, i_3003, i_3004, i_3005, i_3006, i_3007, i_3008, nm_1, nI_a1, nm_2, oI_n, oI_some, nI_eqP, nI_ltP, nI_leP, nI_add, nI_mul, nI_sub, nI_div, n_rd, n_wr, n_wrJ, n_md, Option.bind_some, reduceIte, Nat.reduceEqDiff, Nat.reduceLeDiff, Nat.reduceLT, or_self, true_or, or_true, false_or, or_false, ne_eq, not_true_eq_false, not_false_eq_true, true_and, and_true, false_and, and_false, decide_true, decide_false, Bool.false_eq_true, decide_eq_true_eq, reduceCtorEq, Nat.add_sub_cancel, Nat.reduceAdd, Nat.reduceMul, Nat.reduceSub, am_let, nI_or, nI_and, nI_shl, nI_shr, msk31, and_eq0, h5]
        refine ⟨m - 1, (_, _), by omega, rfl, x + 1, by omega, rfl, am_ex.tr ee (am_ex.sI (X := [146]) (by simp)) (fun _ z => z) (by simp), ?_, ?_⟩
        · intro j hj
          simp only [sI_row, reduceIte, up_n hj, r6]
          exact h4 j hj
        · simp only [sI_row, reduceIte, up_s, bts_s]
          by_cases w : rSv r p x k f
          · simp only [w, reduceIte, nI_or]
          · simp only [w, reduceIte, nI_or, Bool.false_eq_true]
      · left
        have : x = rG r := by omega
        subst this
        rw [if_pos (by omega)]
        exact ⟨_, rfl, rfl, h3, h4, h5⟩)
  obtain ⟨b, e1, e2, e3, e4, e5⟩ := L am_fu (rG r) (0, h) (by unfold am_fu; omega) ⟨0, by omega, rfl, am_ex.rf, fun _ _ => rfl, z1⟩
  obtain ⟨b1, b2⟩ := b
  simp only at e1 e2 e3 e4 e5
  subst e2
  exact ⟨b2, e1, e3, e4, e5⟩
/-- entries of the tables below a place are laid -/
def mTn (p : Nat) (r : sR) (N : Nat) (h : am_H) : Prop := ∀ k f, 2 * k + f < N → k < rW r → f < 2 → h.2.1 144 (2 * k + f) = nI (gU r p k f) ∧ h.2.1 145 (2 * k + f) = nI (gD r p k f) ∧ h.2.1 146 (2 * k + f) = nI (gS r p k f)
theorem ll_one {r : sR} {s : sS} {p k f : Nat} (hp : p < rP r) (hk : k < rW r) (hf : f < 2) {h : am_H} (V : mV (h.2.1 137) r s) (M : mTn p r (2 * k + f) h) (n : Nat) :
    ∃ h', f_Mod_laysLets_L14 (nI p) (n + 1) (nI k) (nI f) h = f_Mod_laysLets_L14 (nI p) n (nI k) (nI (f + 1)) h' ∧ am_ex [141, 142, 144, 145, 146] h h' ∧ mTn p r (2 * k + f + 1) h' := by
  have hW := V.hW
  rw [f_Mod_laysLets_L14]
  simp (disch := omega) only [i_0, i_1, i_2, i_3, i_4, i_5, i_6, i_7, i_8, i_9, i_10, i_11, i_12, i_13, i_14, i_15, i_16, i_17, i_18, i_19, i_20, i_21, i_22, i_23, i_24, i_25, i_26, i_27, i_28, i_29, i_30, i_31, i_32, i_33, i_34, i_35, i_36, i_37, i_38, i_39, i_40, i_41, i_42, i_43, i_45, i_46, i_48, i_50, i_57, i_58, i_59, i_60, i_61, i_62, i_63, i_65, i_91, i_93, i_97, i_99, i_100, i_101, i_102, i_103, i_104, i_105, i_106, i_107, i_108, i_109, i_110, i_111, i_112, i_113, i_114, i_115, i_116, i_117, i_118, i_119, i_120, i_121, i_122, i_171, i_200, i_236, i_237, i_255, i_256, i_900, i_999, i_1000, i_1137, i_2000, i_2001, i_2002, i_2003, i_2004, i_2005, i_2006, i_2007, i_2008, i_3000, i_3001, i_3002, i_3003, i_3004, i_3005, i_3006, i_3007, i_3008, nm_1, nI_a1, nm_2, oI_n, oI_some, nI_eqP, nI_ltP, nI_leP, nI_add, nI_mul, nI_sub, nI_div, n_rd, n_wr, n_wrJ, n_md, Option.bind_some, reduceIte, Nat.reduceEqDiff, Nat.reduceLeDiff, Nat.reduceLT, or_self, true_or, or_true, false_or, or_false, ne_eq, not_true_eq_false, not_false_eq_true, true_and, and_true, false_and, and_false, decide_true, decide_false, Bool.false_eq_true, decide_eq_true_eq, reduceCtorEq, Nat.add_sub_cancel, Nat.reduceAdd, Nat.reduceMul, Nat.reduceSub, am_let]
  rw [if_neg (by omega)]
  generalize hh : am_sI (am_sI (am_sI h 144 (2 * k + f) (nI 0)) 145 (2 * k + f) (nI 0)) 146 (2 * k + f) (nI 0) = h6
  have x6 : am_ex [144, 145, 146] h h6 := by
    rw [← hh]
    exact ⟨rfl, rfl, fun a ha => by simp only [sI_row]; simp at ha; simp [ha]⟩
  have t4 : h6.2.1 144 = va_up (h.2.1 144) (2 * k + f) (nI 0) := by rw [← hh]; simp only [sI_row, reduceIte, Nat.reduceEqDiff]
  have t5 : h6.2.1 145 = va_up (h.2.1 145) (2 * k + f) (nI 0) := by rw [← hh]; simp only [sI_row, reduceIte, Nat.reduceEqDiff]
  have t6 : h6.2.1 146 = va_up (h.2.1 146) (2 * k + f) (nI 0) := by rw [← hh]; simp only [sI_row, reduceIte, Nat.reduceEqDiff]
  have V6 := V.ex x6 (by decide)
  obtain ⟨h7, a1, a2, a3, a4, a5⟩ := ll_53 hp hk hf V6 (by rw [t4, up_s]; rfl) (by rw [t5, up_s]; rfl)
  have V7 := V6.ex a2 (by decide)
  have u6 : h7.2.1 146 = h6.2.1 146 := a2.2.2 146 (by decide)
  obtain ⟨h8, b1, b2, b3, b4⟩ := ll_146 hp hk hf V7 (by rw [u6, t6, up_s]; rfl)
  have u4 : h8.2.1 144 = h7.2.1 144 := b2.2.2 144 (by decide)
  have u5 : h8.2.1 145 = h7.2.1 145 := b2.2.2 145 (by decide)
  have a1' : f_Mod_laysLets_L53 (nI p) am_fu (nI k) (nI f) (nI (2 * k + f)) (nI 0) h6 = some (nI (2 * rG r), h7) := a1
  have b1' : f_Mod_laysLets_L146 (nI p) am_fu (nI k) (nI f) (nI (2 * k + f)) (nI 0) h7 = some (nI (rG r), h8) := b1
  rw [a1', Option.bind_some, b1', Option.bind_some]
  refine ⟨h8, rfl, am_ex.tr (am_ex.tr x6 a2 (Z := [141, 142, 144, 145, 146]) (by simp) (by simp)) b2 (fun _ z => z) (by simp), ?_⟩
  intro k' f' h1 h2 h3
  by_cases c : 2 * k' + f' = 2 * k + f
  · have : k' = k := by omega
    subst this
    have : f' = f := by omega
    subst this
    rw [u4, u5]
    exact ⟨a4, a5, b4⟩
  · rw [u4, u5, b3 _ c, (a3 _ c).1, (a3 _ c).2, u6, t4, t5, t6, up_n c, up_n c, up_n c]
    exact M k' f' (by omega) h2 h3
theorem n_laysLets {r : sR} {s : sS} {p : Nat} (hp : p < rP r) {h : am_H} (V : mV (h.2.1 137) r s) :
    ∃ h', f_Mod_laysLets (nI p) h = some h' ∧ am_ex [141, 142, 144, 145, 146] h h' ∧ mT p r h' := by
  have hW := V.hW
  have L := lp (fun n (a : Int32 × am_H) => f_Mod_laysLets_L2 (nI p) n a.1 a.2)
    (fun m a => ∃ k, m + k = rW r ∧ a.1 = nI k ∧ am_ex [141, 142, 144, 145, 146] h a.2 ∧ mTn p r (2 * k) a.2)
    (fun b => am_ex [141, 142, 144, 145, 146] h b.2 ∧ mTn p r (2 * rW r) b.2)
    (fun n m a hI => by
      obtain ⟨k, h1, h2, h3, h4⟩ := hI
      obtain ⟨a1, a2⟩ := a
      simp only at h2 h3 h4
      subst h2
      have V2 := V.ex h3 (by decide)
      simp only
      rw [f_Mod_laysLets_L2]
      simp (disch := omega) only [i_0, i_1, i_2, i_3, i_4, i_5, i_6, i_7, i_8, i_9, i_10, i_11, i_12, i_13, i_14, i_15, i_16, i_17, i_18, i_19, i_20, i_21, i_22, i_23, i_24, i_25, i_26, i_27, i_28, i_29, i_30, i_31, i_32, i_33, i_34, i_35, i_36, i_37, i_38, i_39, i_40, i_41, i_42, i_43, i_45, i_46, i_48, i_50, i_57, i_58, i_59, i_60, i_61, i_62, i_63, i_65, i_91, i_93, i_97, i_99, i_100, i_101, i_102, i_103, i_104, i_105, i_106, i_107, i_108, i_109, i_110, i_111, i_112, i_113, i_114, i_115, i_116, i_117, i_118, i_119, i_120, i_121, i_122, i_171, i_200, i_236, i_237, i_255, i_256, i_900, i_999, i_1000, i_1137, i_2000, i_2001, i_2002, i_2003, i_2004, i_2005, i_2006, i_2007, i_2008, i_3000, i_3001, i_3002, i_3003, i_3004, i_3005, i_3006, i_3007, i_3008, nm_1, nI_a1, nm_2, oI_n, oI_some, nI_eqP, nI_ltP, nI_leP, nI_add, nI_mul, nI_sub, nI_div, n_rd, n_wr, n_wrJ, n_md, Option.bind_some, reduceIte, Nat.reduceEqDiff, Nat.reduceLeDiff, Nat.reduceLT, or_self, true_or, or_true, false_or, or_false, ne_eq, not_true_eq_false, not_false_eq_true, true_and, and_true, false_and, and_false, decide_true, decide_false, Bool.false_eq_true, decide_eq_true_eq, reduceCtorEq, Nat.add_sub_cancel, Nat.reduceAdd, Nat.reduceMul, Nat.reduceSub, am_let, V2.w]
      by_cases c : k < rW r
      · right
        rw [if_neg (by omega)]
        obtain ⟨q1, e1, e2, e3⟩ := ll_one (f := 0) hp c (by decide) V2 h4 4999
        have V3 := V2.ex e2 (by decide)
        obtain ⟨q2, e4, e5, e6⟩ := ll_one (f := 1) hp c (by decide) V3 e3 4998
        have e7 : f_Mod_laysLets_L14 (nI p) (4997 + 1) (nI k) (nI (1 + 1)) q2 = some (nI 2, q2) := by
          rw [f_Mod_laysLets_L14]
          simp (disch := omega) only [i_0, i_1, i_2, i_3, i_4, i_5, i_6, i_7, i_8, i_9, i_10, i_11, i_12, i_13, i_14, i_15, i_16, i_17, i_18, i_19, i_20, i_21, i_22, i_23, i_24, i_25, i_26, i_27, i_28, i_29, i_30, i_31, i_32, i_33, i_34, i_35, i_36, i_37, i_38, i_39, i_40, i_41, i_42, i_43, i_45, i_46, i_48, i_50, i_57, i_58, i_59, i_60, i_61, i_62, i_63, i_65, i_91, i_93, i_97, i_99, i_100, i_101, i_102, i_103, i_104, i_105, i_106, i_107, i_108, i_109, i_110, i_111, i_112, i_113, i_114, i_115, i_116, i_117, i_118, i_119, i_120, i_121, i_122, i_171, i_200, i_236, i_237, i_255, i_256, i_900, i_999, i_1000, i_1137, i_2000, i_2001, i_2002, i_2003, i_2004, i_2005, i_2006, i_2007, i_2008, i_3000, i_3001, i_3002, i_3003, i_3004, i_3005, i_3006, i_3007, i_3008, nm_1, nI_a1, nm_2, oI_n, oI_some, nI_eqP, nI_ltP, nI_leP, nI_add, nI_mul, nI_sub, nI_div, n_rd, n_wr, n_wrJ, n_md, Option.bind_some, reduceIte, Nat.reduceEqDiff, Nat.reduceLeDiff, Nat.reduceLT, or_self, true_or, or_true, false_or, or_false, ne_eq, not_true_eq_false, not_false_eq_true, true_and, and_true, false_and, and_false, decide_true, decide_false, Bool.false_eq_true, decide_eq_true_eq, reduceCtorEq, Nat.add_sub_cancel, Nat.reduceAdd, Nat.reduceMul, Nat.reduceSub, am_let]
        have e8 : f_Mod_laysLets_L14 (nI p) am_fu (nI k) (nI 0) a2 = some (nI 2, q2) := (e1.trans e4).trans e7
        rw [e8, Option.bind_some]
        exact ⟨m - 1, (_, _), by omega, rfl, k + 1, by omega, rfl, am_ex.tr (am_ex.tr h3 e2 (fun _ z => z) (fun _ z => z)) e5 (fun _ z => z) (fun _ z => z), e6⟩
      · left
        have : k = rW r := by omega
        subst this
        rw [if_pos (by omega)]
        exact ⟨_, rfl, h3, h4⟩)
  obtain ⟨b, e1, e2, e3⟩ := L am_fu (rW r) (0, h) (by unfold am_fu; omega) ⟨0, by omega, rfl, am_ex.rf, fun k f z => absurd z (Nat.not_lt_zero _)⟩
  unfold f_Mod_laysLets
  refine ⟨b.2, ?_, e2, fun k f hk hf => e3 k f (by omega) hk hf⟩
  have e1' : f_Mod_laysLets_L2 (nI p) am_fu (0 : Int32) h = some b := e1
  rw [e1', Option.bind_some]
