-- deps: 31.law 32.nat 33.bit 34.spec 35.riv 36.let 37.mod 38.mod
/-! ===== where one can be, hour by hour ===== -/
def stp (r : sR) (s : sS) (wk : Nat → Option Nat) (p n x : Nat) : Nat := go r p ((sH s + n) % rW r) (fg s n) (wk ((sH s + n) % rW r)) x
def it (r : sR) (s : sS) (wk : Nat → Option Nat) (p fr x : Nat) : Nat → Nat
  | 0 => x
  | n + 1 => stp r s wk p (fr + n) (it r s wk p fr x n)
/-- the first number from lo on that has it, among c ones -/
def ff (P : Nat → Bool) : Nat → Nat → Option Nat
  | _, 0 => none
  | lo, c + 1 => if P lo then some lo else ff P (lo + 1) c
theorem ff_some {P : Nat → Bool} : ∀ {c lo n : Nat}, ff P lo c = some n → lo ≤ n ∧ n < lo + c ∧ P n = true ∧ ∀ i, lo ≤ i → i < n → P i = false
  | 0, lo, n, h => by cases h
  | c + 1, lo, n, h => by
    unfold ff at h
    by_cases d : P lo
    · rw [if_pos d] at h
      cases h
      exact ⟨Nat.le_refl _, by omega, d, fun i a b => by omega⟩
    · rw [if_neg d] at h
      obtain ⟨a, b, e, g⟩ := ff_some h
      refine ⟨by omega, by omega, e, fun i hi1 hi2 => ?_⟩
      by_cases q : i = lo
      · subst q; simpa using d
      · exact g i (by omega) hi2
theorem ff_none {P : Nat → Bool} : ∀ {c lo : Nat}, ff P lo c = none → ∀ i, lo ≤ i → i < lo + c → P i = false
  | 0, lo, h => fun i a b => by omega
  | c + 1, lo, h => by
    unfold ff at h
    by_cases d : P lo
    · rw [if_pos d] at h; cases h
    · rw [if_neg d] at h
      intro i a b
      by_cases q : i = lo
      · subst q; simpa using d
      · exact ff_none h i (by omega) (by omega)
theorem ff_none' {P : Nat → Bool} : ∀ {c lo : Nat}, (∀ i, lo ≤ i → i < lo + c → P i = false) → ff P lo c = none
  | 0, lo, h => rfl
  | c + 1, lo, h => by
    unfold ff
    rw [if_neg (by simp [h lo (Nat.le_refl _) (by omega)])]
    exact ff_none' (fun i a b => h i (by omega) (by omega))
theorem ff_some' {P : Nat → Bool} : ∀ {c lo n : Nat}, lo ≤ n → n < lo + c → P n = true → (∀ i, lo ≤ i → i < n → P i = false) → ff P lo c = some n
  | 0, lo, n, h1, h2, h3, h4 => by omega
  | c + 1, lo, n, h1, h2, h3, h4 => by
    unfold ff
    by_cases q : lo = n
    · subst q; rw [if_pos h3]
    · rw [if_neg (by simp [h4 lo (Nat.le_refl _) (by omega)])]
      exact ff_some' (by omega) (by omega) h3 (fun i a b => h4 i (by omega) b)
/-- a week is a river's -/
def vW (r : sR) (wk : Nat → Option Nat) : Prop := ∀ k, k < rW r → ∀ g, wk k = some g → g < rG r
theorem stp_v {r : sR} {s : sS} {wk : Nat → Option Nat} {p n x : Nat} (hr : vR r) (hw : vW r wk) (hx : vSet (rG r) x) : vSet (rG r) (stp r s wk p n x) :=
  go_v hr (hw _ (Nat.mod_lt _ (by have := hr.2.1; omega))) hx
theorem it_v {r : sR} {s : sS} {wk : Nat → Option Nat} {p fr x : Nat} (hr : vR r) (hw : vW r wk) (hx : vSet (rG r) x) : ∀ n, vSet (rG r) (it r s wk p fr x n)
  | 0 => hx
  | n + 1 => stp_v hr hw (it_v hr hw hx n)
theorem one_v {G x : Nat} (hx : vSp G x) : vSet G (1 <<< x) := fun j hj => by
  rw [Nat.one_shiftLeft, Nat.testBit_two_pow, decide_eq_true_eq] at hj
  rw [← hj]
  exact hx
theorem it_add {r : sR} {s : sS} {wk : Nat → Option Nat} {p fr x m : Nat} : ∀ n, it r s wk p fr x (m + n) = it r s wk p (fr + m) (it r s wk p fr x m) n
  | 0 => rfl
  | n + 1 => by
    show stp r s wk p (fr + (m + n)) (it r s wk p fr x (m + n)) = stp r s wk p (fr + m + n) _
    rw [it_add n, Nat.add_assoc]
/-- a whole clear week without a new spot: none comes any more -/
theorem it_still {r : sR} {s : sS} {wk : Nat → Option Nat} {p fr x a : Nat} (hW : 1 ≤ rW r) (h : ∀ i, a ≤ i → i < a + rW r → it r s wk p fr x (i + 1) = it r s wk p fr x i ∧ fg s (fr + i) = 0) :
    ∀ n, it r s wk p fr x (a + n) = it r s wk p fr x a := by
  have h0 : ∀ j, j ≤ rW r → it r s wk p fr x (a + j) = it r s wk p fr x a := by
    intro j
    induction j with
    | zero => intro _; rfl
    | succ j ih =>
      intro hj
      rw [← ih (by omega)]
      exact (h (a + j) (by omega) (by omega)).1
  have hfog : ∀ n, fg s (fr + (a + n)) = 0 := by
    intro n
    have := (h a (by omega) (by omega)).2
    unfold fg at this ⊢
    by_cases c : fr + (a + n) < sF s
    · rw [if_pos (by omega)] at this; cases this
    · rw [if_neg c]
  intro n
  induction n with
  | zero => rfl
  | succ n ih =>
    show stp r s wk p (fr + (a + n)) (it r s wk p fr x (a + n)) = _
    rw [ih]
    have hj : n % rW r < rW r := Nat.mod_lt _ (by omega)
    have h1 := (h (a + n % rW r) (by omega) (by omega)).1
    have h2 : it r s wk p fr x (a + n % rW r + 1) = stp r s wk p (fr + (a + n % rW r)) (it r s wk p fr x (a + n % rW r)) := rfl
    rw [h2, h0 _ (by omega)] at h1
    have e : (sH s + (fr + (a + n % rW r))) % rW r = (sH s + (fr + (a + n))) % rW r := by
      rw [← Nat.add_assoc, ← Nat.add_assoc, ← Nat.add_assoc, ← Nat.add_assoc, Nat.add_mod_mod]
    have e2 : stp r s wk p (fr + (a + n)) (it r s wk p fr x a) = stp r s wk p (fr + (a + n % rW r)) (it r s wk p fr x a) := by
      unfold stp
      rw [e, hfog, hfog]
    rw [e2, h1]
theorem n_hoursTo {h : am_H} {r : sR} {s : sS} {p x to later : Nat} (V : mV (h.2.1 137) r s) (M : mT p r h) (hx : vSp (rG r) x) (ht : to < 32) (hla : later ≤ 60) :
    f_Mod_hoursTo (nI x) (nI to) (nI later) h = some (oI (ff (fun n => (it r s (sW s) p later (1 <<< x) n).testBit to) 0 61)) := by
  have hG := V.hG
  have hW := V.hW
  have hH := V.hH
  have hx9 : x < 9 := by rcases hx with c | c <;> omega
  have hset : ∀ n, it r s (sW s) p later (1 <<< x) n < 512 := fun n => (it_v V.1 (fun k hk => V.hwk hk) (one_v hx) n).lt hG.2
  generalize hres : ff (fun n => (it r s (sW s) p later (1 <<< x) n).testBit to) 0 61 = res
  have L := lp (fun n (a : Int32 × Int32) => f_Mod_hoursTo_L8 (nI x) (nI to) (nI later) n a.1 a.2 h)
    (fun m a => ∃ t, m + t = 61 ∧ a = (nI (it r s (sW s) p later (1 <<< x) t), nI t) ∧ res = ff (fun n => (it r s (sW s) p later (1 <<< x) n).testBit to) t m)
    (fun b => b = oI res)
    (fun n m a hI => by
      obtain ⟨t, h1, rfl, h3⟩ := hI
      simp only
      rw [f_Mod_hoursTo_L8]
      have hb := hset t
      simp (disch := omega) only [i_0, i_1, i_2, i_3, i_4, i_5, i_6, i_7, i_8, i_9, i_10, i_11, i_12, i_13, i_14, i_15, i_16, i_17, i_18, i_19, i_20, i_21, i_22, i_23, i_24, i_25, i_26, i_27, i_28, i_29, i_30, i_31, i_32, i_33, i_34, i_35, i_36, i_37, i_38, i_39, i_40, i_41, i_42, i_43, i_45, i_46, i_48, i_50, i_57, i_58, i_59, i_60, i_61, i_62, i_63, i_65, i_91, i_93, i_97, i_99, i_100, i_101, i_102, i_103, i_104, i_105, i_106, i_107, i_108, i_109, i_110, i_111, i_112, i_113, i_114, i_115, i_116, i_117, i_118, i_119, i_120, i_121, i_122, i_171, i_200, i_236, i_237, i_255, i_256, i_900, i_999, i_1000, i_1137, i_2000, i_2001, i_2002, i_2003, i_2004, i_2005, i_2006, i_2007, i_2008, i_3000, i_3001, i_3002, i_3003, i_3004, i_3005, i_3006, i_3007, i_3008, nm_1, nI_a1, nm_2, oI_n, oI_some, nI_eqP, nI_ltP, nI_leP, nI_add, nI_mul, nI_sub, nI_div, n_rd, n_wr, n_wrJ, n_md, Option.bind_some, reduceIte, Nat.reduceEqDiff, Nat.reduceLeDiff, Nat.reduceLT, or_self, true_or, or_true, false_or, or_false, ne_eq, not_true_eq_false, not_false_eq_true, true_and, and_true, false_and, and_false, decide_true, decide_false, Bool.false_eq_true, decide_eq_true_eq, reduceCtorEq, Nat.add_sub_cancel, Nat.reduceAdd, Nat.reduceMul, Nat.reduceSub, am_let]
      by_cases c : 60 < t
      · left
        rw [if_pos c]
        have : m = 0 := by omega
        subst this
        refine ⟨_, rfl, ?_⟩
        rw [h3]
        rfl
      · rw [if_neg c, n_isIn (by omega) ht, Option.bind_some]
        obtain ⟨m, rfl⟩ : ∃ m', m = m' + 1 := ⟨m - 1, by omega⟩
        rw [ff] at h3
        by_cases d : (it r s (sW s) p later (1 <<< x) t).testBit to
        · left
          rw [if_pos d] at h3
          refine ⟨_, if_pos d, ?_⟩
          rw [h3]
          rfl
        · right
          rw [if_neg d] at h3 ⊢
          simp (disch := omega) only [i_0, i_1, i_2, i_3, i_4, i_5, i_6, i_7, i_8, i_9, i_10, i_11, i_12, i_13, i_14, i_15, i_16, i_17, i_18, i_19, i_20, i_21, i_22, i_23, i_24, i_25, i_26, i_27, i_28, i_29, i_30, i_31, i_32, i_33, i_34, i_35, i_36, i_37, i_38, i_39, i_40, i_41, i_42, i_43, i_45, i_46, i_48, i_50, i_57, i_58, i_59, i_60, i_61, i_62, i_63, i_65, i_91, i_93, i_97, i_99, i_100, i_101, i_102, i_103, i_104, i_105, i_106, i_107, i_108, i_109, i_110, i_111, i_112, i_113, i_114, i_115, i_116, i_117, i_118, i_119, i_120, i_121, i_122, i_171, i_200, i_236, i_237, i_255, i_256, i_900, i_999, i_1000, i_1137, i_2000, i_2001, i_2002, i_2003, i_2004, i_2005, i_2006, i_2007, i_2008, i_3000, i_3001, i_3002, i_3003, i_3004, i_3005, i_3006, i_3007, i_3008, nm_1, nI_a1, nm_2, oI_n, oI_some, nI_eqP, nI_ltP, nI_leP, nI_add, nI_mul, nI_sub, nI_div, n_rd, n_wr, n_wrJ, n_md, Option.bind_some, reduceIte, Nat.reduceEqDiff, Nat.reduceLeDiff, Nat.reduceLT, or_self, true_or, or_true, false_or, or_false, ne_eq, not_true_eq_false, not_false_eq_true, true_and, and_true, false_and, and_false, decide_true, decide_false, Bool.false_eq_true, decide_eq_true_eq, reduceCtorEq, Nat.add_sub_cancel, Nat.reduceAdd, Nat.reduceMul, Nat.reduceSub, am_let, V.ho]
          rw [n_fogIn V (by omega), Option.bind_some, n_goesOn V M hb (by omega) (fg_lt _ _), Option.bind_some]
          refine ⟨m, (_, _), by omega, rfl, t + 1, by omega, ?_, h3⟩
          rw [Nat.add_assoc]
          rfl)
  obtain ⟨b, e1, e2⟩ := L am_fu 61 (nI (1 <<< x), nI 0) (by decide) ⟨0, rfl, rfl, hres.symm⟩
  unfold f_Mod_hoursTo
  have e : (1 : Int32) <<< (nI x &&& 31) = nI (1 <<< x) := by simp (disch := omega) only [i_0, i_1, i_2, i_3, i_4, i_5, i_6, i_7, i_8, i_9, i_10, i_11, i_12, i_13, i_14, i_15, i_16, i_17, i_18, i_19, i_20, i_21, i_22, i_23, i_24, i_25, i_26, i_27, i_28, i_29, i_30, i_31, i_32, i_33, i_34, i_35, i_36, i_37, i_38, i_39, i_40, i_41, i_42, i_43, i_45, i_46, i_48, i_50, i_57, i_58, i_59, i_60, i_61, i_62, i_63, i_65, i_91, i_93, i_97, i_99, i_100, i_101, i_102, i_103, i_104, i_105, i_106, i_107, i_108, i_109, i_110, i_111, i_112, i_113, i_114, i_115, i_116, i_117, i_118, i_119, i_120, i_121, i_122, i_171, i_200, i_236, i_237, i_255, i_256, i_900, i_999, i_1000, i_1137, i_2000, i_2001, i_2002, i_2003, i_2004, i_2005, i_2006, i_2007, i_2008, i_3000, i_3001, i_3002, i_3003, i_3004, i_3005, i_3006, i_3007, i_3008, nm_1, nI_a1, nm_2, oI_n, oI_some, nI_eqP, nI_ltP, nI_leP, nI_add, nI_mul, nI_sub, nI_div, n_rd, n_wr, n_wrJ, n_md, Option.bind_some, reduceIte, Nat.reduceEqDiff, Nat.reduceLeDiff, Nat.reduceLT, or_self, true_or, or_true, false_or, or_false, ne_eq, not_true_eq_false, not_false_eq_true, true_and, and_true, false_and, and_false, decide_true, decide_false, Bool.false_eq_true, decide_eq_true_eq, reduceCtorEq, Nat.add_sub_cancel, Nat.reduceAdd, Nat.reduceMul, Nat.reduceSub, am_let, nI_or, nI_and, nI_shl, nI_shr, msk31, and_eq0]
  rw [e]
  subst e2
  exact e1
