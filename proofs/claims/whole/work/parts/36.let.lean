-- deps: 31.law 32.nat 33.bit 34.spec 35.riv
/-! ===== the reference: its laws ===== -/
/-- the codes fit: kinds of what lies on the stack (true: a truth), never above 64 high -/
def tyc (m : Int32) : List Int32 → List Bool → Option (List Bool)
  | [], τ => some τ
  | c :: cs, τ =>
    if c < 3000 then (if 0 ≤ c ∧ c < m ∧ τ.length < 64 then tyc m cs (false :: τ) else none)
    else if c = 3006 then (match τ with
      | true :: q => tyc m cs (true :: q)
      | _ => none)
    else if c = 3007 ∨ c = 3008 then (match τ with
      | true :: true :: q => tyc m cs (true :: q)
      | _ => none)
    else if c = 3003 ∨ c = 3004 ∨ c = 3005 then (match τ with
      | false :: false :: q => tyc m cs (true :: q)
      | _ => none)
    else if c = 3000 ∨ c = 3001 ∨ c = 3002 then (match τ with
      | false :: false :: q => tyc m cs (false :: q)
      | _ => none)
    else none
/-- a step of the codes: what it does to kinds and values -/
theorem tyc_cons {m c : Int32} {cs : List Int32} {τ τ' : List Bool} (h : tyc m (c :: cs) τ = some τ') :
    (c < 3000 ∧ 0 ≤ c ∧ c < m ∧ τ.length < 64 ∧ tyc m cs (false :: τ) = some τ') ∨
    (c = 3006 ∧ ∃ q, τ = true :: q ∧ tyc m cs (true :: q) = some τ') ∨
    (∃ x y q, τ = x :: x :: q ∧ tyc m cs (y :: q) = some τ' ∧ ¬ c < 3000 ∧ ¬ c = 3006 ∧ ((c = 3007 ∨ c = 3008) ∧ x = true ∧ y = true ∨ (c = 3003 ∨ c = 3004 ∨ c = 3005) ∧ x = false ∧ y = true ∨ (c = 3000 ∨ c = 3001 ∨ c = 3002) ∧ x = false ∧ y = false)) := by
  unfold tyc at h
  by_cases c1 : c < 3000
  · rw [if_pos c1] at h
    by_cases c2 : 0 ≤ c ∧ c < m ∧ τ.length < 64
    · rw [if_pos c2] at h
      exact .inl ⟨c1, c2.1, c2.2.1, c2.2.2, h⟩
    · rw [if_neg c2] at h; cases h
  · rw [if_neg c1] at h
    by_cases c2 : c = 3006
    · rw [if_pos c2] at h
      match τ, h with
      | true :: q, h => exact .inr (.inl ⟨c2, q, rfl, h⟩)
    · rw [if_neg c2] at h
      by_cases c3 : c = 3007 ∨ c = 3008
      · rw [if_pos c3] at h
        match τ, h with
        | true :: true :: q, h => exact .inr (.inr ⟨true, true, q, rfl, h, c1, c2, .inl ⟨c3, rfl, rfl⟩⟩)
      · rw [if_neg c3] at h
        by_cases c4 : c = 3003 ∨ c = 3004 ∨ c = 3005
        · rw [if_pos c4] at h
          match τ, h with
          | false :: false :: q, h => exact .inr (.inr ⟨false, true, q, rfl, h, c1, c2, .inr (.inl ⟨c4, rfl, rfl⟩)⟩)
        · rw [if_neg c4] at h
          by_cases c5 : c = 3000 ∨ c = 3001 ∨ c = 3002
          · rw [if_pos c5] at h
            match τ, h with
            | false :: false :: q, h => exact .inr (.inr ⟨false, false, q, rfl, h, c1, c2, .inr (.inr ⟨c5, rfl, rfl⟩)⟩)
          · rw [if_neg c5] at h; cases h
def vty : List Bool → List Int32 → Prop
  | [], [] => True
  | b :: τ, x :: st => (b = true → x = 0 ∨ x = 1) ∧ vty τ st
  | _, _ => False
theorem vty_len : ∀ {τ : List Bool} {st : List Int32}, vty τ st → st.length = τ.length
  | [], [], _ => rfl
  | _ :: _, _ :: _, h => by simp [vty_len h.2]
theorem btw_t {c a b : Int32} (h : c = 3003 ∨ c = 3004 ∨ c = 3005) : sp_btw c a b = 0 ∨ sp_btw c a b = 1 := by
  rcases h with rfl | rfl | rfl
  · by_cases e : a = b <;> simp [sp_btw, f_Mod_between, e]
  · by_cases e : b ≤ a <;> simp [sp_btw, f_Mod_between, e]
  · by_cases e : a ≤ b <;> simp [sp_btw, f_Mod_between, e]
theorem btw_b {c a b : Int32} (h : c = 3007 ∨ c = 3008) (ha : a = 0 ∨ a = 1) (hb : b = 0 ∨ b = 1) : sp_btw c a b = 0 ∨ sp_btw c a b = 1 := by
  rcases h with rfl | rfl <;> rcases ha with rfl | rfl <;> rcases hb with rfl | rfl <;> decide
theorem run_cons1 {c : Int32} {cs : List Int32} {w : Nat → Int32} {st : List Int32} (h : c < 3000) : sp_run (c :: cs) w st = sp_run cs w ((if c < 1000 then c else w (c - 1000).toNatClampNeg) :: st) := by
  conv => lhs; unfold sp_run
  rw [if_pos h]
theorem run_cons2 {cs : List Int32} {w : Nat → Int32} {a : Int32} {st : List Int32} : sp_run (3006 :: cs) w (a :: st) = sp_run cs w ((1 - a) :: st) := by
  conv => lhs; unfold sp_run
  rw [if_neg (by decide), if_pos rfl]
theorem run_cons3 {c : Int32} {cs : List Int32} {w : Nat → Int32} {a b : Int32} {st : List Int32} (h : ¬ c < 3000) (h2 : ¬ c = 3006) : sp_run (c :: cs) w (b :: a :: st) = sp_run cs w (sp_btw c a b :: st) := by
  conv => lhs; unfold sp_run
  rw [if_neg h, if_neg h2]
theorem vty_step {c : Int32} {a b : Int32} {bx bt : Bool} {τ : List Bool} {st : List Int32} (h : (c = 3007 ∨ c = 3008) ∧ bx = true ∧ bt = true ∨ (c = 3003 ∨ c = 3004 ∨ c = 3005) ∧ bx = false ∧ bt = true ∨ (c = 3000 ∨ c = 3001 ∨ c = 3002) ∧ bx = false ∧ bt = false) (hv : vty (bx :: bx :: τ) (b :: a :: st)) : vty (bt :: τ) (sp_btw c a b :: st) := by
  refine ⟨fun e => ?_, hv.2.2⟩
  rcases h with ⟨h, rfl, rfl⟩ | ⟨h, rfl, rfl⟩ | ⟨h, rfl, rfl⟩
  · exact btw_b h (hv.2.1 rfl) (hv.1 rfl)
  · exact btw_t h
  · cases e
theorem run_vty {m : Int32} {w : Nat → Int32} : ∀ (cs : List Int32) (τ τ' : List Bool) (st : List Int32), tyc m cs τ = some τ' → vty τ st → vty τ' (sp_run cs w st)
  | [], τ, τ', st, h, hv => by
    have : τ = τ' := by simpa [tyc] using h
    subst this
    unfold sp_run
    exact hv
  | c :: cs, τ, τ', st, h, hv => by
    rcases tyc_cons h with ⟨h1, _, _, _, h5⟩ | ⟨rfl, q, rfl, h5⟩ | ⟨x, y, q, rfl, h5, n1, n2, h6⟩
    · rw [run_cons1 h1]
      exact run_vty cs _ _ _ h5 ⟨fun e => (by cases e), hv⟩
    · match st, hv with
      | a :: st, hv =>
        rw [run_cons2]
        refine run_vty cs _ _ _ h5 ⟨fun _ => ?_, hv.2⟩
        rcases hv.1 rfl with rfl | rfl
        · exact .inr rfl
        · exact .inl rfl
    · match st, hv with
      | b :: a :: st, hv =>
        rw [run_cons3 n1 n2]
        exact run_vty cs _ _ _ h5 (vty_step h6 hv)
/-- a law's run doesn't look at words that it has no code for -/
theorem run_w {m : Int32} {w w' : Nat → Int32} {n : Nat} (hm : m = nI (1000 + n)) (hn : n < 1000) (hw : ∀ i, i < n → w i = w' i) : ∀ (cs : List Int32) (τ τ' : List Bool) (st : List Int32), tyc m cs τ = some τ' → vty τ st → sp_run cs w st = sp_run cs w' st
  | [], τ, τ', st, h, hv => by unfold sp_run; rfl
  | c :: cs, τ, τ', st, h, hv => by
    rcases tyc_cons h with ⟨h1, h2, h3, _, h5⟩ | ⟨rfl, q, rfl, h5⟩ | ⟨x, y, q, rfl, h5, n1, n2, h6⟩
    · rw [run_cons1 h1, run_cons1 h1]
      obtain ⟨k, hk, rfl⟩ := nI_of (Int32.not_lt.mpr h2)
      subst hm
      rw [nI_ltI hk (by omega)] at h3
      have e : (if nI k < 1000 then nI k else w (nI k - 1000).toNatClampNeg) = (if nI k < 1000 then nI k else w' (nI k - 1000).toNatClampNeg) := by
        by_cases d : k < 1000
        · have d' : nI k < 1000 := (nI_ltI hk (b := 1000) (by omega)).mpr d
          rw [if_pos d', if_pos d']
        · have d' : ¬ nI k < 1000 := fun q => d ((nI_ltI hk (b := 1000) (by omega)).mp q)
          rw [if_neg d', if_neg d']
          have : nI k - 1000 = nI (k - 1000) := nI_sub (b := 1000) (by omega)
          rw [this, nI_clamp (by omega)]
          exact hw _ (by omega)
      rw [e]
      exact run_w rfl hn hw cs _ _ _ h5 ⟨fun e => (by cases e), hv⟩
    · match st, hv with
      | a :: st, hv =>
        rw [run_cons2, run_cons2]
        refine run_w hm hn hw cs _ _ _ h5 ⟨fun _ => ?_, hv.2⟩
        rcases hv.1 rfl with rfl | rfl
        · exact .inr rfl
        · exact .inl rfl
    · match st, hv with
      | b :: a :: st, hv =>
        rw [run_cons3 n1 n2, run_cons3 n1 n2]
        exact run_w hm hn hw cs _ _ _ h5 (vty_step h6 hv)
/-- codes from place a on -/
def cds (A : Nat → Int32) (a n : Nat) : List Int32 := (List.range n).map (fun i => A (a + i))
theorem cds_cons (A : Nat → Int32) (a n : Nat) : cds A a (n + 1) = A a :: cds A (a + 1) n := by
  unfold cds
  rw [List.range_succ_eq_map, List.map_cons, List.map_map]
  congr 1
  apply List.map_congr_left
  intro i _
  simp [Nat.add_assoc, Nat.add_comm 1]

theorem ml_L85 {A : Nat → Int32} {m : Int32} {law frm many : Nat} {p2 p3 p4 p5 p6 : Int32} (hm : m = 1006 ∨ m = 1005) (hlaw : law < 2) (hf : A (7 + law) = nI frm) (hn : A (9 + law) = nI many) (hb : frm + many ≤ 900) :
    ∀ (c k : Nat) (τ τ' : List Bool) (st : List Int32) (h : am_H) (n : Nat), k + c = many → c < n → h.2.1 137 = A → τ.length ≤ 64 → tyc m (cds A (237 + frm + k) c) τ = some τ' → vty τ st → sp_st (h.2.1 141) st →
    ∃ h', f_Mod_lets_L85 (nI law) p2 p3 p4 p5 p6 n (nI st.length) (nI k) h = some (nI (sp_run (cds A (237 + frm + k) c) (h.2.1 142) st).length, nI many, h') ∧ sp_st (h'.2.1 141) (sp_run (cds A (237 + frm + k) c) (h.2.1 142) st) ∧ am_ex [141] h h' := by
  intro c
  induction c with
  | zero =>
    intro k τ τ' st h n hk hc hA hτ ht hv hs
    obtain ⟨n, rfl⟩ : ∃ n', n = n' + 1 := ⟨n - 1, by omega⟩
    refine ⟨h, ?_, ?_, am_ex.rf⟩
    · have e : sp_run (cds A (237 + frm + k) 0) (h.2.1 142) st = st := rfl
      rw [e, f_Mod_lets_L85, hA]
      have e2 : A (9 + law) = nI many := hn
      simp (disch := omega) only [i_0, i_1, i_2, i_3, i_4, i_5, i_6, i_7, i_8, i_9, i_10, i_11, i_12, i_13, i_14, i_15, i_16, i_17, i_18, i_19, i_20, i_21, i_22, i_23, i_24, i_25, i_26, i_27, i_28, i_29, i_30, i_31, i_32, i_33, i_34, i_35, i_36, i_37, i_38, i_39, i_40, i_41, i_42, i_43, i_45, i_46, i_48, i_50, i_57, i_58, i_59, i_60, i_61, i_62, i_63, i_65, i_91, i_93, i_97, i_99, i_100, i_101, i_102, i_103, i_104, i_105, i_106, i_107, i_108, i_109, i_110, i_111, i_112, i_113, i_114, i_115, i_116, i_117, i_118, i_119, i_120, i_121, i_122, i_171, i_200, i_236, i_237, i_255, i_256, i_900, i_999, i_1000, i_1137, i_2000, i_2001, i_2002, i_2003, i_2004, i_2005, i_2006, i_2007, i_2008, i_3000, i_3001, i_3002, i_3003, i_3004, i_3005, i_3006, i_3007, i_3008, nm_1, nI_a1, nm_2, oI_n, oI_some, nI_eqP, nI_ltP, nI_leP, nI_add, nI_mul, nI_sub, nI_div, n_rd, n_wr, n_wrJ, n_md, Option.bind_some, reduceIte, Nat.reduceEqDiff, Nat.reduceLeDiff, Nat.reduceLT, or_self, true_or, or_true, false_or, or_false, ne_eq, not_true_eq_false, not_false_eq_true, true_and, and_true, false_and, and_false, decide_true, decide_false, Bool.false_eq_true, decide_eq_true_eq, reduceCtorEq, Nat.add_sub_cancel, Nat.reduceAdd, Nat.reduceMul, Nat.reduceSub, am_let, hn]
      rw [show k = many by omega]
      simp
    · exact hs
  | succ c ih =>
    intro k τ τ' st h n hk hc hA hτ ht hv hs
    obtain ⟨n, rfl⟩ : ∃ n', n = n' + 1 := ⟨n - 1, by omega⟩
    rw [cds_cons] at ht ⊢
    have hlen := vty_len hv
    rw [f_Mod_lets_L85, hA]
    have e1 : ((237 : Int32) + nI frm) + nI k = nI (237 + frm + k) := by simp (disch := omega) only [i_0, i_1, i_2, i_3, i_4, i_5, i_6, i_7, i_8, i_9, i_10, i_11, i_12, i_13, i_14, i_15, i_16, i_17, i_18, i_19, i_20, i_21, i_22, i_23, i_24, i_25, i_26, i_27, i_28, i_29, i_30, i_31, i_32, i_33, i_34, i_35, i_36, i_37, i_38, i_39, i_40, i_41, i_42, i_43, i_45, i_46, i_48, i_50, i_57, i_58, i_59, i_60, i_61, i_62, i_63, i_65, i_91, i_93, i_97, i_99, i_100, i_101, i_102, i_103, i_104, i_105, i_106, i_107, i_108, i_109, i_110, i_111, i_112, i_113, i_114, i_115, i_116, i_117, i_118, i_119, i_120, i_121, i_122, i_171, i_200, i_236, i_237, i_255, i_256, i_900, i_999, i_1000, i_1137, i_2000, i_2001, i_2002, i_2003, i_2004, i_2005, i_2006, i_2007, i_2008, i_3000, i_3001, i_3002, i_3003, i_3004, i_3005, i_3006, i_3007, i_3008, nm_1, nI_a1, nm_2, oI_n, oI_some, nI_eqP, nI_ltP, nI_leP, nI_add, nI_mul, nI_sub, nI_div, n_rd, n_wr, n_wrJ, n_md, Option.bind_some, reduceIte, Nat.reduceEqDiff, Nat.reduceLeDiff, Nat.reduceLT, or_self, true_or, or_true, false_or, or_false, ne_eq, not_true_eq_false, not_false_eq_true, true_and, and_true, false_and, and_false, decide_true, decide_false, Bool.false_eq_true, decide_eq_true_eq, reduceCtorEq, Nat.add_sub_cancel, Nat.reduceAdd, Nat.reduceMul, Nat.reduceSub, am_let]
    simp (disch := omega) only [i_0, i_1, i_2, i_3, i_4, i_5, i_6, i_7, i_8, i_9, i_10, i_11, i_12, i_13, i_14, i_15, i_16, i_17, i_18, i_19, i_20, i_21, i_22, i_23, i_24, i_25, i_26, i_27, i_28, i_29, i_30, i_31, i_32, i_33, i_34, i_35, i_36, i_37, i_38, i_39, i_40, i_41, i_42, i_43, i_45, i_46, i_48, i_50, i_57, i_58, i_59, i_60, i_61, i_62, i_63, i_65, i_91, i_93, i_97, i_99, i_100, i_101, i_102, i_103, i_104, i_105, i_106, i_107, i_108, i_109, i_110, i_111, i_112, i_113, i_114, i_115, i_116, i_117, i_118, i_119, i_120, i_121, i_122, i_171, i_200, i_236, i_237, i_255, i_256, i_900, i_999, i_1000, i_1137, i_2000, i_2001, i_2002, i_2003, i_2004, i_2005, i_2006, i_2007, i_2008, i_3000, i_3001, i_3002, i_3003, i_3004, i_3005, i_3006, i_3007, i_3008, nm_1, nI_a1, nm_2, oI_n, oI_some, nI_eqP, nI_ltP, nI_leP, nI_add, nI_mul, nI_sub, nI_div, n_rd, n_wr, n_wrJ, n_md, Option.bind_some, reduceIte, Nat.reduceEqDiff, Nat.reduceLeDiff, Nat.reduceLT, or_self, true_or, or_true, false_or, or_false, ne_eq, not_true_eq_false, not_false_eq_true, true_and, and_true, false_and, and_false, decide_true, decide_false, Bool.false_eq_true, decide_eq_true_eq, reduceCtorEq, Nat.add_sub_cancel, Nat.reduceAdd, Nat.reduceMul, Nat.reduceSub, am_let, hn, hf]
    rw [if_neg (by omega)]
    have hkeep : ∀ h', am_ex [141] h h' → h'.2.1 137 = A ∧ h'.2.1 142 = h.2.1 142 := fun h' x => ⟨(x.2.2 137 (by decide)).trans hA, x.2.2 142 (by decide)⟩
    generalize hcd : A (237 + frm + k) = cd at ht ⊢
    rcases tyc_cons ht with ⟨h1, h2, h3, h4, h5⟩ | ⟨rfl, q, rfl, h5⟩ | ⟨x, y, q, rfl, h5, n1, n2, h6⟩
    · obtain ⟨j, hj, rfl⟩ := nI_of (Int32.not_lt.mpr h2)
      have hj6 : j < 1006 := by
        rcases hm with rfl | rfl
        · exact (nI_ltI hj (b := 1006) (by omega)).mp h3
        · exact Nat.lt_trans ((nI_ltI hj (b := 1005) (by omega)).mp h3) (by omega)
      rw [run_cons1 h1]
      have key : ((if nI 1000 ≤ nI j then (am_rd (h.2.1 142) 6 (nI j - nI 1000)).bind fun x23 => some x23 else some (nI j)) : Option Int32) = some (if nI j < 1000 then nI j else h.2.1 142 (nI j - 1000).toNatClampNeg) := by
        by_cases d : j < 1000
        · have d' : nI j < 1000 := (nI_ltI hj (b := 1000) (by omega)).mpr d
          rw [if_pos d', if_neg (show ¬ nI 1000 ≤ nI j from Int32.not_le.mpr d')]
        · have d' : ¬ nI j < 1000 := fun q => d ((nI_ltI hj (b := 1000) (by omega)).mp q)
          have e3 : nI j - 1000 = nI (j - 1000) := nI_sub (b := 1000) (by omega)
          rw [if_neg d', if_pos (show nI 1000 ≤ nI j from Int32.not_lt.mp d'), nI_sub (by omega), n_rd (by omega) (by decide), e3, nI_clamp (by omega)]
          rfl
      rw [if_neg (show ¬ nI 3000 ≤ nI j from Int32.not_le.mpr h1), key]
      have hl64 : st.length < 64 := by omega
      clear key
      generalize (if nI j < 1000 then nI j else h.2.1 142 (nI j - 1000).toNatClampNeg) = v
      simp (disch := omega) only [i_0, i_1, i_2, i_3, i_4, i_5, i_6, i_7, i_8, i_9, i_10, i_11, i_12, i_13, i_14, i_15, i_16, i_17, i_18, i_19, i_20, i_21, i_22, i_23, i_24, i_25, i_26, i_27, i_28, i_29, i_30, i_31, i_32, i_33, i_34, i_35, i_36, i_37, i_38, i_39, i_40, i_41, i_42, i_43, i_45, i_46, i_48, i_50, i_57, i_58, i_59, i_60, i_61, i_62, i_63, i_65, i_91, i_93, i_97, i_99, i_100, i_101, i_102, i_103, i_104, i_105, i_106, i_107, i_108, i_109, i_110, i_111, i_112, i_113, i_114, i_115, i_116, i_117, i_118, i_119, i_120, i_121, i_122, i_171, i_200, i_236, i_237, i_255, i_256, i_900, i_999, i_1000, i_1137, i_2000, i_2001, i_2002, i_2003, i_2004, i_2005, i_2006, i_2007, i_2008, i_3000, i_3001, i_3002, i_3003, i_3004, i_3005, i_3006, i_3007, i_3008, nm_1, nI_a1, nm_2, oI_n, oI_some, nI_eqP, nI_ltP, nI_leP, nI_add, nI_mul, nI_sub, nI_div, n_rd, n_wr, n_wrJ, n_md, Option.bind_some, reduceIte, Nat.reduceEqDiff, Nat.reduceLeDiff, Nat.reduceLT, or_self, true_or, or_true, false_or, or_false, ne_eq, not_true_eq_false, not_false_eq_true, true_and, and_true, false_and, and_false, decide_true, decide_false, Bool.false_eq_true, decide_eq_true_eq, reduceCtorEq, Nat.add_sub_cancel, Nat.reduceAdd, Nat.reduceMul, Nat.reduceSub, am_let]
      have hs2 : sp_st ((am_sI h 141 st.length v).2.1 141) (v :: st) := by
        rw [sI_row, if_pos rfl]
        exact ⟨up_s, sp_st_up st (Nat.le_refl _) hs⟩
      obtain ⟨h', a1, a2, a3⟩ := ih (k + 1) (false :: τ) τ' (v :: st) (am_sI h 141 st.length v) n (by omega) (by omega) (hkeep _ (am_ex.sI (by simp))).1 h4 h5 ⟨fun e => (by cases e), hv⟩ hs2
      rw [(hkeep _ (am_ex.sI (by simp))).2] at a1 a2
      exact ⟨h', a1, a2, am_ex.tr (am_ex.sI (by simp)) a3 (fun _ z => z) (fun _ z => z)⟩
    · match st, hv, hs, hlen with
      | a :: st, hv, hs, hlen =>
        rw [run_cons2]
        simp only [List.length_cons] at hlen hτ ⊢
        simp (disch := omega) only [i_0, i_1, i_2, i_3, i_4, i_5, i_6, i_7, i_8, i_9, i_10, i_11, i_12, i_13, i_14, i_15, i_16, i_17, i_18, i_19, i_20, i_21, i_22, i_23, i_24, i_25, i_26, i_27, i_28, i_29, i_30, i_31, i_32, i_33, i_34, i_35, i_36, i_37, i_38, i_39, i_40, i_41, i_42, i_43, i_45, i_46, i_48, i_50, i_57, i_58, i_59, i_60, i_61, i_62, i_63, i_65, i_91, i_93, i_97, i_99, i_100, i_101, i_102, i_103, i_104, i_105, i_106, i_107, i_108, i_109, i_110, i_111, i_112, i_113, i_114, i_115, i_116, i_117, i_118, i_119, i_120, i_121, i_122, i_171, i_200, i_236, i_237, i_255, i_256, i_900, i_999, i_1000, i_1137, i_2000, i_2001, i_2002, i_2003, i_2004, i_2005, i_2006, i_2007, i_2008, i_3000, i_3001, i_3002, i_3003, i_3004, i_3005, i_3006, i_3007, i_3008, nm_1, nI_a1, nm_2, oI_n, oI_some, nI_eqP, nI_ltP, nI_leP, nI_add, nI_mul, nI_sub, nI_div, n_rd, n_wr, n_wrJ, n_md, Option.bind_some, reduceIte, Nat.reduceEqDiff, Nat.reduceLeDiff, Nat.reduceLT, or_self, true_or, or_true, false_or, or_false, ne_eq, not_true_eq_false, not_false_eq_true, true_and, and_true, false_and, and_false, decide_true, decide_false, Bool.false_eq_true, decide_eq_true_eq, reduceCtorEq, Nat.add_sub_cancel, Nat.reduceAdd, Nat.reduceMul, Nat.reduceSub, am_let, hs.1, Nat.add_sub_cancel]
        have hs2 : sp_st ((am_sI h 141 st.length (nI 1 - a)).2.1 141) ((1 - a) :: st) := by
          rw [sI_row, if_pos rfl]
          exact ⟨up_s, sp_st_up st (Nat.le_refl _) hs.2⟩
        have hv2 : vty (true :: q) ((1 - a) :: st) := ⟨fun _ => by
          rcases hv.1 rfl with rfl | rfl
          · exact .inr rfl
          · exact .inl rfl, hv.2⟩
        obtain ⟨h', a1, a2, a3⟩ := ih (k + 1) (true :: q) τ' ((1 - a) :: st) (am_sI h 141 st.length (nI 1 - a)) n (by omega) (by omega) (hkeep _ (am_ex.sI (by simp))).1 hτ h5 hv2 hs2
        rw [(hkeep _ (am_ex.sI (by simp))).2] at a1 a2
        exact ⟨h', a1, a2, am_ex.tr (am_ex.sI (by simp)) a3 (fun _ z => z) (fun _ z => z)⟩
    · match st, hv, hs, hlen with
      | b :: a :: st, hv, hs, hlen =>
        rw [run_cons3 n1 n2]
        simp only [List.length_cons] at hlen hτ ⊢
        rw [if_pos (show nI 3000 ≤ cd from Int32.not_lt.mp n1), if_neg (show ¬ cd = nI 3006 from n2)]
        have g1 : h.2.1 141 (st.length + 1) = b := hs.1
        have g2 : h.2.1 141 st.length = a := hs.2.1
        simp (disch := omega) only [i_0, i_1, i_2, i_3, i_4, i_5, i_6, i_7, i_8, i_9, i_10, i_11, i_12, i_13, i_14, i_15, i_16, i_17, i_18, i_19, i_20, i_21, i_22, i_23, i_24, i_25, i_26, i_27, i_28, i_29, i_30, i_31, i_32, i_33, i_34, i_35, i_36, i_37, i_38, i_39, i_40, i_41, i_42, i_43, i_45, i_46, i_48, i_50, i_57, i_58, i_59, i_60, i_61, i_62, i_63, i_65, i_91, i_93, i_97, i_99, i_100, i_101, i_102, i_103, i_104, i_105, i_106, i_107, i_108, i_109, i_110, i_111, i_112, i_113, i_114, i_115, i_116, i_117, i_118, i_119, i_120, i_121, i_122, i_171, i_200, i_236, i_237, i_255, i_256, i_900, i_999, i_1000, i_1137, i_2000, i_2001, i_2002, i_2003, i_2004, i_2005, i_2006, i_2007, i_2008, i_3000, i_3001, i_3002, i_3003, i_3004, i_3005, i_3006, i_3007, i_3008, nm_1, nI_a1, nm_2, oI_n, oI_some, nI_eqP, nI_ltP, nI_leP, nI_add, nI_mul, nI_sub, nI_div, n_rd, n_wr, n_wrJ, n_md, Option.bind_some, reduceIte, Nat.reduceEqDiff, Nat.reduceLeDiff, Nat.reduceLT, or_self, true_or, or_true, false_or, or_false, ne_eq, not_true_eq_false, not_false_eq_true, true_and, and_true, false_and, and_false, decide_true, decide_false, Bool.false_eq_true, decide_eq_true_eq, reduceCtorEq, Nat.add_sub_cancel, Nat.reduceAdd, Nat.reduceMul, Nat.reduceSub, am_let, Nat.add_sub_cancel, g1, g2, n_between]
        have hs2 : sp_st ((am_sI h 141 st.length (sp_btw cd a b)).2.1 141) (sp_btw cd a b :: st) := by
          rw [sI_row, if_pos rfl]
          exact ⟨up_s, sp_st_up st (Nat.le_refl _) hs.2.2⟩
        obtain ⟨h', a1, a2, a3⟩ := ih (k + 1) _ τ' _ (am_sI h 141 st.length (sp_btw cd a b)) n (by omega) (by omega) (hkeep _ (am_ex.sI (by simp))).1 (by simp only [List.length_cons]; omega) h5 (vty_step h6 hv) hs2
        rw [(hkeep _ (am_ex.sI (by simp))).2] at a1 a2
        exact ⟨h', a1, a2, am_ex.tr (am_ex.sI (by simp)) a3 (fun _ z => z) (fun _ z => z)⟩
/-- a law of a plain row of the reference -/
def lwf (A : Nat → Int32) (law : Nat) : Prop := A (5 + law) = 0 ∨ (A (5 + law) = 1 ∧ ∃ frm many, A (7 + law) = nI frm ∧ A (9 + law) = nI many ∧ frm + many ≤ 900 ∧ tyc (nI (1006 - law)) (cds A (237 + frm) many) [] = some [true])
def wrd (A : Nat → Int32) (p gap k f side : Nat) (i : Nat) : Int32 := if i = 0 then nI gap else if i = 1 then nI k else if i = 2 then nI p else if i = 3 then A (11 + p) else if i = 4 then nI f else nI side
def slet (A : Nat → Int32) (law p gap k f side : Nat) : Bool := if A (5 + law) = 0 then decide (law = 0 ∨ f = 0) else decide (sp_run (cds A (237 + (A (7 + law)).toNatClampNeg) (A (9 + law)).toNatClampNeg) (wrd A p gap k f side) [] = [1])
theorem n_lets {A : Nat → Int32} {h : am_H} {law p gap k f side : Nat} (hA : h.2.1 137 = A) (hlaw : law < 2) (hp : p < 5) (hf : f < 2) (w : lwf A law) :
    ∃ h', f_Mod_lets (nI law) (nI p) (nI gap) (nI k) (nI f) (nI side) h = some (slet A law p gap k f side, h') ∧ am_ex [141, 142] h h' := by
  unfold f_Mod_lets slet
  rw [hA]
  rcases w with w | ⟨w, frm, many, w1, w2, w3, w4⟩
  · refine ⟨h, ?_, am_ex.rf⟩
    rw [w, if_pos rfl]
    have w' : A (5 + law) = nI 0 := w
    simp (disch := omega) only [i_0, i_1, i_2, i_3, i_4, i_5, i_6, i_7, i_8, i_9, i_10, i_11, i_12, i_13, i_14, i_15, i_16, i_17, i_18, i_19, i_20, i_21, i_22, i_23, i_24, i_25, i_26, i_27, i_28, i_29, i_30, i_31, i_32, i_33, i_34, i_35, i_36, i_37, i_38, i_39, i_40, i_41, i_42, i_43, i_45, i_46, i_48, i_50, i_57, i_58, i_59, i_60, i_61, i_62, i_63, i_65, i_91, i_93, i_97, i_99, i_100, i_101, i_102, i_103, i_104, i_105, i_106, i_107, i_108, i_109, i_110, i_111, i_112, i_113, i_114, i_115, i_116, i_117, i_118, i_119, i_120, i_121, i_122, i_171, i_200, i_236, i_237, i_255, i_256, i_900, i_999, i_1000, i_1137, i_2000, i_2001, i_2002, i_2003, i_2004, i_2005, i_2006, i_2007, i_2008, i_3000, i_3001, i_3002, i_3003, i_3004, i_3005, i_3006, i_3007, i_3008, nm_1, nI_a1, nm_2, oI_n, oI_some, nI_eqP, nI_ltP, nI_leP, nI_add, nI_mul, nI_sub, nI_div, n_rd, n_wr, n_wrJ, n_md, Option.bind_some, reduceIte, Nat.reduceEqDiff, Nat.reduceLeDiff, Nat.reduceLT, or_self, true_or, or_true, false_or, or_false, ne_eq, not_true_eq_false, not_false_eq_true, true_and, and_true, false_and, and_false, decide_true, decide_false, Bool.false_eq_true, decide_eq_true_eq, reduceCtorEq, Nat.add_sub_cancel, Nat.reduceAdd, Nat.reduceMul, Nat.reduceSub, am_let, w']
    rcases (show law = 0 ∨ law = 1 by omega) with rfl | rfl
    · simp
    · rcases (show f = 0 ∨ f = 1 by omega) with rfl | rfl <;> simp
  · have w' : A (5 + law) = nI 1 := w
    rw [if_neg (show ¬ A (5 + law) = 0 by rw [w]; decide)]
    have hm : nI (1006 - law) = 1006 ∨ nI (1006 - law) = 1005 := by
      rcases (show law = 0 ∨ law = 1 by omega) with rfl | rfl
      · exact .inl rfl
      · exact .inr rfl
    have hb1 : frm < 2 ^ 31 ∧ many < 2 ^ 31 := by omega
    simp (disch := omega) only [i_0, i_1, i_2, i_3, i_4, i_5, i_6, i_7, i_8, i_9, i_10, i_11, i_12, i_13, i_14, i_15, i_16, i_17, i_18, i_19, i_20, i_21, i_22, i_23, i_24, i_25, i_26, i_27, i_28, i_29, i_30, i_31, i_32, i_33, i_34, i_35, i_36, i_37, i_38, i_39, i_40, i_41, i_42, i_43, i_45, i_46, i_48, i_50, i_57, i_58, i_59, i_60, i_61, i_62, i_63, i_65, i_91, i_93, i_97, i_99, i_100, i_101, i_102, i_103, i_104, i_105, i_106, i_107, i_108, i_109, i_110, i_111, i_112, i_113, i_114, i_115, i_116, i_117, i_118, i_119, i_120, i_121, i_122, i_171, i_200, i_236, i_237, i_255, i_256, i_900, i_999, i_1000, i_1137, i_2000, i_2001, i_2002, i_2003, i_2004, i_2005, i_2006, i_2007, i_2008, i_3000, i_3001, i_3002, i_3003, i_3004, i_3005, i_3006, i_3007, i_3008, nm_1, nI_a1, nm_2, oI_n, oI_some, nI_eqP, nI_ltP, nI_leP, nI_add, nI_mul, nI_sub, nI_div, n_rd, n_wr, n_wrJ, n_md, Option.bind_some, reduceIte, Nat.reduceEqDiff, Nat.reduceLeDiff, Nat.reduceLT, or_self, true_or, or_true, false_or, or_false, ne_eq, not_true_eq_false, not_false_eq_true, true_and, and_true, false_and, and_false, decide_true, decide_false, Bool.false_eq_true, decide_eq_true_eq, reduceCtorEq, Nat.add_sub_cancel, Nat.reduceAdd, Nat.reduceMul, Nat.reduceSub, am_let, w', sI_row, hA]
    generalize hh : am_sI (am_sI (am_sI (am_sI (am_sI (am_sI h 142 0 (nI gap)) 142 1 (nI k)) 142 2 (nI p)) 142 3 (A (11 + p))) 142 4 (nI f)) 142 5 (nI side) = h9
    have x9 : am_ex [142] h h9 := by
      rw [← hh]
      exact ⟨rfl, rfl, fun a ha => by simp only [sI_row]; simp at ha; simp [ha]⟩
    have hA9 : h9.2.1 137 = A := (x9.2.2 137 (by decide)).trans hA
    have hw9 : ∀ i, i < 6 → h9.2.1 142 i = wrd A p gap k f side i := by
      intro i hi
      rw [← hh]
      simp only [sI_row, if_pos, wrd, va_up]
      rcases (show i = 0 ∨ i = 1 ∨ i = 2 ∨ i = 3 ∨ i = 4 ∨ i = 5 by omega) with rfl | rfl | rfl | rfl | rfl | rfl <;> rfl
    have w4' : tyc (nI (1006 - law)) (cds A (237 + frm + 0) many) [] = some [true] := w4
    obtain ⟨h', a1, a2, a3⟩ := ml_L85 (p2 := nI p) (p3 := nI gap) (p4 := nI k) (p5 := nI f) (p6 := nI side) hm hlaw w1 w2 w3 many 0 [] [true] [] h9 am_fu (by omega) (by unfold am_fu; omega) hA9 (by decide) w4' trivial trivial
    have e6 : sp_run (cds A (237 + frm + 0) many) (h9.2.1 142) [] = sp_run (cds A (237 + frm) many) (wrd A p gap k f side) [] := run_w (n := 6 - law) (by congr 1; omega) (by omega) (fun i hi => hw9 i (by omega)) _ _ _ _ w4' trivial
    have hvt := run_vty (w := wrd A p gap k f side) _ _ _ [] w4 trivial
    rw [e6] at a1 a2
    rw [w1, w2, nI_clamp hb1.1, nI_clamp hb1.2]
    generalize sp_run (cds A (237 + frm) many) (wrd A p gap k f side) [] = res at a1 a2 hvt ⊢
    match res, hvt with
    | [v], hvt =>
      have a1' : f_Mod_lets_L85 (nI law) (nI p) (nI gap) (nI k) (nI f) (nI side) am_fu (nI 0) (nI 0) h9 = some (nI 1, nI many, h') := a1
      have v0 : h'.2.1 141 0 = v := a2.1
      refine ⟨h', ?_, am_ex.tr x9 a3 (by simp) (by simp)⟩
      rw [a1', Option.bind_some]
      show (if h'.2.1 141 0 = nI 1 then some (true, h') else some (false, h')) = _
      rw [v0]
      rcases hvt.1 rfl with rfl | rfl
      · rfl
      · rfl
