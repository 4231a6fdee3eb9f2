-- deps: 31.law 32.nat 33.bit 34.spec 35.riv 36.let 37.mod 38.mod 39.it 40.ahead 41.rel 42.ask 43.why 44.meet 45.err 46.err 47.wk
/-! ===== the reference's kept tables ===== -/
def mKn (N : Nat) (r : sR) (h : am_H) : Prop := ∀ p k f, p < N → k < rW r → f < 2 → h.2.1 153 (12 * p + (2 * k + f)) = nI (gU r p k f) ∧ h.2.1 154 (12 * p + (2 * k + f)) = nI (gD r p k f) ∧ h.2.1 155 (12 * p + (2 * k + f)) = nI (gS r p k f)
def mK (r : sR) (h : am_H) : Prop := mKn (rP r) r h
theorem mK.ex {X : List Nat} {r : sR} {h h' : am_H} (K : mK r h) (x : am_ex X h h') (h1 : 153 ∉ X) (h2 : 154 ∉ X) (h3 : 155 ∉ X) : mK r h' := by
  unfold mK mKn at K ⊢
  rw [x.2.2 153 h1, x.2.2 154 h2, x.2.2 155 h3]
  exact K
theorem n_keeps19 {h : am_H} {r : sR} {p : Nat} (hp : p < 5) : ∃ y h', f_Mod_keepsLets_L19 am_fu (nI p) 0 h = some (y, h') ∧ am_ex [153, 154, 155] h h' ∧ ∀ o, 153 ≤ o → o ≤ 155 → (∀ j, j < 12 → h'.2.1 o (12 * p + j) = h.2.1 (o - 9) j) ∧ ∀ i, i < 12 * p → h'.2.1 o i = h.2.1 o i := by
  obtain ⟨b, e1, e2, e3⟩ := lpc (fun k (a : Int32 × am_H) => f_Mod_keepsLets_L19 k (nI p) a.1 a.2) 12
    (fun t a => a.1 = nI t ∧ am_ex [153, 154, 155] h a.2 ∧ ∀ o, 153 ≤ o → o ≤ 155 → (∀ j, j < t → a.2.2.1 o (12 * p + j) = h.2.1 (o - 9) j) ∧ ∀ i, i < 12 * p → a.2.2.1 o i = h.2.1 o i)
    (fun b => am_ex [153, 154, 155] h b.2 ∧ ∀ o, 153 ≤ o → o ≤ 155 → (∀ j, j < 12 → b.2.2.1 o (12 * p + j) = h.2.1 (o - 9) j) ∧ ∀ i, i < 12 * p → b.2.2.1 o i = h.2.1 o i)
    (fun n t a ht hI => by
      obtain ⟨a1, a2⟩ := a
      obtain ⟨i1, i2, i3⟩ := hI
      simp only at i1 i2 i3
      subst i1
      simp only
      have e12 : (12 : Int32) * nI p + nI t = nI (12 * p + t) := by
        have : (12 : Int32) * nI p = nI (12 * p) := nI_mul 12 p
        rw [this, nI_add]
      rw [f_Mod_keepsLets_L19, if_neg (show ¬ (12 : Int32) ≤ nI t from nI_ge (b := 12) ht (by decide)), e12, n_rd ht (by decide), Option.bind_some, n_wr (by omega) (by decide), Option.bind_some, n_rd ht (by decide), Option.bind_some, n_wr (by omega) (by decide), Option.bind_some, n_rd ht (by decide), Option.bind_some, n_wr (by omega) (by decide), Option.bind_some, nI_1]
      refine ⟨(_, _), rfl, rfl, ((i2.tr (am_ex.sI (X := [153, 154, 155]) (by decide)) (fun _ z => z) (fun _ z => z)).tr (am_ex.sI (X := [153, 154, 155]) (by decide)) (fun _ z => z) (fun _ z => z)).tr (am_ex.sI (X := [153, 154, 155]) (by decide)) (fun _ z => z) (fun _ z => z), fun o ho1 ho2 => ?_⟩
      have hx : ∀ o, 144 ≤ o → o ≤ 146 → a2.2.1 o = h.2.1 o := fun o c1 c2 => i2.2.2 o (by simp; omega)
      rcases (show o = 153 ∨ o = 154 ∨ o = 155 by omega) with rfl | rfl | rfl
      · simp only [sI_row, if_true, show ¬ (153 : Nat) = 154 by decide, show ¬ (153 : Nat) = 155 by decide, if_false]
        refine ⟨fun j hj => ?_, fun i hi => by rw [up_n (by omega)]; exact (i3 153 (by omega) (by omega)).2 i hi⟩
        by_cases c : j = t
        · subst c; rw [up_s, hx 144 (by omega) (by omega)]
        · rw [up_n (by omega)]; exact (i3 153 (by omega) (by omega)).1 j (by omega)
      · simp only [sI_row, if_true, show ¬ (154 : Nat) = 155 by decide, show ¬ (154 : Nat) = 153 by decide, show ¬ (145 : Nat) = 153 by decide, if_false]
        refine ⟨fun j hj => ?_, fun i hi => by rw [up_n (by omega)]; exact (i3 154 (by omega) (by omega)).2 i hi⟩
        by_cases c : j = t
        · subst c; rw [up_s, hx 145 (by omega) (by omega)]
        · rw [up_n (by omega)]; exact (i3 154 (by omega) (by omega)).1 j (by omega)
      · simp only [sI_row, if_true, show ¬ (155 : Nat) = 154 by decide, show ¬ (155 : Nat) = 153 by decide, show ¬ (146 : Nat) = 153 by decide, show ¬ (146 : Nat) = 154 by decide, if_false]
        refine ⟨fun j hj => ?_, fun i hi => by rw [up_n (by omega)]; exact (i3 155 (by omega) (by omega)).2 i hi⟩
        by_cases c : j = t
        · subst c; rw [up_s, hx 146 (by omega) (by omega)]
        · rw [up_n (by omega)]; exact (i3 155 (by omega) (by omega)).1 j (by omega))
    (fun n a hI => by
      obtain ⟨a1, a2⟩ := a
      obtain ⟨i1, i2, i3⟩ := hI
      simp only at i1 i2 i3
      subst i1
      simp only
      rw [f_Mod_keepsLets_L19, if_pos (show (12 : Int32) ≤ nI 12 by decide)]
      exact ⟨_, rfl, i2, i3⟩) (by decide) (0, h) ⟨rfl, am_ex.rf, fun o _ _ => ⟨fun j hj => by omega, fun i _ => rfl⟩⟩
  obtain ⟨b1, b2⟩ := b
  exact ⟨b1, b2, e1, e2, e3⟩
theorem n_keepsLets {h : am_H} {r : sR} {s : sS} (V : mV (h.2.1 137) r s) : ∃ h', f_Mod_keepsLets h = some h' ∧ am_ex [141, 142, 144, 145, 146, 153, 154, 155] h h' ∧ mK r h' := by
  have hP := V.hP
  have hW := V.hW
  obtain ⟨b, e1, e2, e3⟩ := lpc (fun k (a : Int32 × am_H) => f_Mod_keepsLets_L2 k a.1 a.2) (rP r)
    (fun t a => a.1 = nI t ∧ am_ex [141, 142, 144, 145, 146, 153, 154, 155] h a.2 ∧ mKn t r a.2)
    (fun b => am_ex [141, 142, 144, 145, 146, 153, 154, 155] h b.2 ∧ mK r b.2)
    (fun n t a ht hI => by
      obtain ⟨a1, a2⟩ := a
      obtain ⟨i1, i2, i3⟩ := hI
      simp only at i1 i2 i3
      subst i1
      have V2 := V.ex i2 (by decide)
      obtain ⟨h1, c1, c2, c3⟩ := n_laysLets ht V2
      obtain ⟨y, h2, d1, d2, d3⟩ := n_keeps19 (h := h1) (r := r) (p := t) (by omega)
      simp only
      rw [f_Mod_keepsLets_L2, rd_lit (by decide) (by decide), Option.bind_some, V2.p, if_neg (nI_ge ht (by omega)), c1, Option.bind_some, d1, Option.bind_some, nI_1]
      refine ⟨(_, _), rfl, rfl, (i2.tr c2 (Z := [141, 142, 144, 145, 146, 153, 154, 155]) (fun _ z => z) (by decide)).tr d2 (fun _ z => z) (by decide), fun p k f hp hk hf => ?_⟩
      simp only
      by_cases c : p = t
      · subst c
        have := c3 k f hk hf
        rw [(d3 153 (by omega) (by omega)).1 _ (by omega), (d3 154 (by omega) (by omega)).1 _ (by omega), (d3 155 (by omega) (by omega)).1 _ (by omega)]
        exact this
      · rw [(d3 153 (by omega) (by omega)).2 _ (by omega), (d3 154 (by omega) (by omega)).2 _ (by omega), (d3 155 (by omega) (by omega)).2 _ (by omega), c2.2.2 153 (by decide), c2.2.2 154 (by decide), c2.2.2 155 (by decide)]
        exact i3 p k f (by omega) hk hf)
    (fun n a hI => by
      obtain ⟨a1, a2⟩ := a
      obtain ⟨i1, i2, i3⟩ := hI
      simp only at i1 i2 i3
      subst i1
      have V2 := V.ex i2 (by decide)
      simp only
      rw [f_Mod_keepsLets_L2, rd_lit (by decide) (by decide), Option.bind_some, V2.p, if_pos (nI_le (Nat.le_refl _) (by omega))]
      exact ⟨_, rfl, i2, i3⟩) (by unfold am_fu; omega) (0, h) ⟨rfl, am_ex.rf, fun p k f hp => by omega⟩
  have e1' : f_Mod_keepsLets_L2 am_fu 0 h = some b := e1
  unfold f_Mod_keepsLets
  rw [e1', Option.bind_some]
  exact ⟨_, rfl, e2, e3⟩
theorem n_takesLets {h : am_H} {r : sR} {p : Nat} (hW : rW r ≤ 6) (hp5 : rP r ≤ 5) (K : mK r h) (hp : p < rP r) : ∃ h', f_Mod_takesLets (nI p) h = some h' ∧ am_ex [144, 145, 146] h h' ∧ mT p r h' := by
  obtain ⟨b, e1, e2, e3⟩ := lpc (fun k (a : Int32 × am_H) => f_Mod_takesLets_L2 (nI p) k a.1 a.2) 12
    (fun t a => a.1 = nI t ∧ am_ex [144, 145, 146] h a.2 ∧ ∀ o, 144 ≤ o → o ≤ 146 → ∀ j, j < t → a.2.2.1 o j = h.2.1 (o + 9) (12 * p + j))
    (fun b => am_ex [144, 145, 146] h b.2 ∧ ∀ o, 144 ≤ o → o ≤ 146 → ∀ j, j < 12 → b.2.2.1 o j = h.2.1 (o + 9) (12 * p + j))
    (fun n t a ht hI => by
      obtain ⟨a1, a2⟩ := a
      obtain ⟨i1, i2, i3⟩ := hI
      simp only at i1 i2 i3
      subst i1
      simp only
      have e12 : (12 : Int32) * nI p + nI t = nI (12 * p + t) := by
        have : (12 : Int32) * nI p = nI (12 * p) := nI_mul 12 p
        rw [this, nI_add]
      rw [f_Mod_takesLets_L2, if_neg (show ¬ (12 : Int32) ≤ nI t from nI_ge (b := 12) ht (by decide)), e12, n_rd (by omega) (by decide), Option.bind_some, n_wr ht (by decide), Option.bind_some, n_rd (by omega) (by decide), Option.bind_some, n_wr ht (by decide), Option.bind_some, n_rd (by omega) (by decide), Option.bind_some, n_wr ht (by decide), Option.bind_some, nI_1]
      refine ⟨(_, _), rfl, rfl, ((i2.tr (am_ex.sI (X := [144, 145, 146]) (by decide)) (fun _ z => z) (fun _ z => z)).tr (am_ex.sI (X := [144, 145, 146]) (by decide)) (fun _ z => z) (fun _ z => z)).tr (am_ex.sI (X := [144, 145, 146]) (by decide)) (fun _ z => z) (fun _ z => z), fun o ho1 ho2 => ?_⟩
      have hx : ∀ o, 153 ≤ o → o ≤ 155 → a2.2.1 o = h.2.1 o := fun o c1 c2 => i2.2.2 o (by simp; omega)
      rcases (show o = 144 ∨ o = 145 ∨ o = 146 by omega) with rfl | rfl | rfl
      · simp only [sI_row, if_true, show ¬ (144 : Nat) = 145 by decide, show ¬ (144 : Nat) = 146 by decide, if_false]
        intro j hj
        by_cases c : j = t
        · subst c; rw [up_s, hx 153 (by omega) (by omega)]
        · rw [up_n (by omega)]; exact i3 144 (by omega) (by omega) j (by omega)
      · simp only [sI_row, if_true, show ¬ (145 : Nat) = 144 by decide, show ¬ (145 : Nat) = 146 by decide, show ¬ (154 : Nat) = 144 by decide, if_false]
        intro j hj
        by_cases c : j = t
        · subst c; rw [up_s, hx 154 (by omega) (by omega)]
        · rw [up_n (by omega)]; exact i3 145 (by omega) (by omega) j (by omega)
      · simp only [sI_row, if_true, show ¬ (146 : Nat) = 144 by decide, show ¬ (146 : Nat) = 145 by decide, show ¬ (155 : Nat) = 144 by decide, show ¬ (155 : Nat) = 145 by decide, if_false]
        intro j hj
        by_cases c : j = t
        · subst c; rw [up_s, hx 155 (by omega) (by omega)]
        · rw [up_n (by omega)]; exact i3 146 (by omega) (by omega) j (by omega))
    (fun n a hI => by
      obtain ⟨a1, a2⟩ := a
      obtain ⟨i1, i2, i3⟩ := hI
      simp only at i1 i2 i3
      subst i1
      simp only
      rw [f_Mod_takesLets_L2, if_pos (show (12 : Int32) ≤ nI 12 by decide)]
      exact ⟨_, rfl, i2, i3⟩) (by decide) (0, h) ⟨rfl, am_ex.rf, fun o _ _ j hj => by omega⟩
  have e1' : f_Mod_takesLets_L2 (nI p) am_fu 0 h = some b := e1
  unfold f_Mod_takesLets
  rw [e1', Option.bind_some]
  refine ⟨_, rfl, e2, fun k f hk hf => ?_⟩
  rw [e3 144 (by omega) (by omega) _ (by omega), e3 145 (by omega) (by omega) _ (by omega), e3 146 (by omega) (by omega) _ (by omega)]
  exact K p k f hp hk hf
theorem n_inTimeMany {h : am_H} {r : sR} {s : sS} (V : mV (h.2.1 137) r s) (K : mK r h) : ∃ h', f_Mod_inTimeMany h = some (nI (inT r s (sW s)), h') ∧ am_ex [144, 145, 146] h h' := by
  have hP := V.hP
  have hW := V.hW
  obtain ⟨b, e1, e2, e3⟩ := lpc (fun k (a : Int32 × Int32 × am_H) => f_Mod_inTimeMany_L4 k a.1 a.2.1 a.2.2) (rP r)
    (fun t a => a.1 = nI (cnt (fun p => (rTo r p).isSome && iT r s (sW s) p 0) t) ∧ a.2.1 = nI t ∧ am_ex [144, 145, 146] h a.2.2)
    (fun b => b.1 = nI (inT r s (sW s)) ∧ am_ex [144, 145, 146] h b.2.2)
    (fun n t a ht hI => by
      obtain ⟨a1, a2, a3⟩ := a
      obtain ⟨i1, i2, i3⟩ := hI
      simp only at i1 i2 i3
      subst i1 i2
      have V2 := V.ex i3 (by decide)
      have K2 := K.ex i3 (by decide) (by decide) (by decide)
      simp only
      rw [f_Mod_inTimeMany_L4, rd_lit (by decide) (by decide), Option.bind_some, V2.p, if_neg (nI_ge ht (by omega)), n_isErrand V2 ht, Option.bind_some]
      have e00 : ∀ n, nI n + (0 : Int32) = nI n := fun n => nI_add n 0
      cases he : (rTo r t).isSome with
      | false =>
        rw [if_ff, nI_1]
        refine ⟨(nI (cnt (fun p => (rTo r p).isSome && iT r s (sW s) p 0) t), nI (t + 1), a3), rfl, ?_, rfl, i3⟩
        simp only [cnt_s, he, Bool.false_and, Bool.false_eq_true, if_false, Nat.add_zero]
      | true =>
        obtain ⟨h1, c1, c2, c3⟩ := n_takesLets hW.2 hP K2 ht
        have V3 := V2.ex c2 (by decide)
        have e0 : f_Mod_isInTime (nI t) 0 h1 = _ := n_isInTime (later := 0) V3 c3 ht he (by omega)
        have x3 := i3.tr c2 (Z := [144, 145, 146]) (fun _ z => z) (fun _ z => z)
        rw [if_tt, c1, Option.bind_some, e0, Option.bind_some, e00, nI_1]
        cases hc : iT r s (sW s) t 0 with
        | true =>
          rw [if_tt]
          refine ⟨(nI (cnt (fun p => (rTo r p).isSome && iT r s (sW s) p 0) t + 1), nI (t + 1), h1), by rw [nI_1], ?_, rfl, x3⟩
          simp only [cnt_s, he, hc, Bool.true_and, if_true]
        | false =>
          rw [if_ff]
          refine ⟨(nI (cnt (fun p => (rTo r p).isSome && iT r s (sW s) p 0) t), nI (t + 1), h1), by rw [nI_1], ?_, rfl, x3⟩
          simp only [cnt_s, he, hc, Bool.and_false, Bool.false_eq_true, if_false, Nat.add_zero])
    (fun n a hI => by
      obtain ⟨a1, a2, a3⟩ := a
      obtain ⟨i1, i2, i3⟩ := hI
      simp only at i1 i2 i3
      subst i1 i2
      have V2 := V.ex i3 (by decide)
      simp only
      rw [f_Mod_inTimeMany_L4, rd_lit (by decide) (by decide), Option.bind_some, V2.p, if_pos (nI_le (Nat.le_refl _) (by omega))]
      exact ⟨_, rfl, rfl, i3⟩) (by unfold am_fu; omega) (0, 0, h) ⟨rfl, rfl, am_ex.rf⟩
  have e1' : f_Mod_inTimeMany_L4 am_fu 0 0 h = some b := e1
  unfold f_Mod_inTimeMany
  rw [e1', Option.bind_some, e2]
  exact ⟨_, rfl, e3⟩
/-! ===== counting bits ===== -/
theorem bc32 : ∀ a, a < 32 → f_Integer_bitCount (nI a) am_e = some (nI (cnt a.testBit 5)) := by decide +kernel
theorem n_bitCount {h : am_H} {n : Nat} {c : Nat → Bool} (hn : n ≤ 5) : f_Integer_bitCount (nI (bts n c)) h = some (nI (cnt c n)) := by
  have e : f_Integer_bitCount (nI (bts n c)) h = f_Integer_bitCount (nI (bts n c)) am_e := rfl
  rw [e, bc32 _ (bts5 hn)]
  congr 2
  have : (bts n c).testBit = fun j => decide (j < n) && c j := funext (bts_t n c)
  rw [this]
  rcases (show n = 0 ∨ n = 1 ∨ n = 2 ∨ n = 3 ∨ n = 4 ∨ n = 5 by omega) with rfl | rfl | rfl | rfl | rfl | rfl <;> simp [cnt]
theorem n_many {h : am_H} {r : sR} {s : sS} {q : Nat} {wk : Nat → Option Nat} (V : tV h r s) (T : tW h q r wk) : ∃ y, f_Weeks_doneInTime q 6 h = some y ∧ f_Integer_bitCount y h = some (nI (inT r s wk)) :=
  ⟨_, n_doneInTime V T, n_bitCount V.hP⟩
theorem inT_le {r : sR} {s : sS} {wk : Nat → Option Nat} (hr : vR r) : inT r s wk ≤ 5 := Nat.le_trans (cnt_le _ _) hr.2.2.1
/-! ===== change ===== -/
def ch1 (r : sR) (s : sS) (k : Nat) (a : Nat × Option Nat) (c : Nat) : Nat × Option Nat :=
  if a.1 < inT r s (va_up (sW s) k (chc (rG r) c)) then (inT r s (va_up (sW s) k (chc (rG r) c)), some (10 * k + if c = rG r then 9 else c)) else a
def chI (r : sR) (s : sS) (k : Nat) (a : Nat × Option Nat) : Nat → Nat × Option Nat
  | 0 => a
  | c + 1 => ch1 r s k (chI r s k a c) c
def chO (r : sR) (s : sS) : Nat → Nat × Option Nat
  | 0 => (inT r s (sW s), none)
  | k + 1 => chI r s k (chO r s k) (rG r + 1)
theorem chc_v {G c : Nat} (hc : c ≤ G) : ∀ g, chc G c = some g → g < G := by
  intro g hg
  unfold chc at hg
  split at hg
  · cases hg
  · cases hg; omega
theorem chI_le {r : sR} {s : sS} {k : Nat} {a : Nat × Option Nat} (hr : vR r) (ha : a.1 ≤ 5) : ∀ c, (chI r s k a c).1 ≤ 5
  | 0 => ha
  | c + 1 => by
    show (ch1 r s k (chI r s k a c) c).1 ≤ 5
    unfold ch1
    split
    · exact inT_le hr
    · exact chI_le hr ha c
theorem chO_le {r : sR} {s : sS} (hr : vR r) : ∀ k, (chO r s k).1 ≤ 5
  | 0 => inT_le hr
  | k + 1 => chI_le hr (chO_le hr k) _
theorem n_tChg37 {h : am_H} {r : sR} {s : sS} {k : Nat} {a : Nat × Option Nat} (V : tV h r s) (T : tW h 92 r (sW s)) (hk : k < rW r) (ha : a.1 ≤ 5) : ∃ y h', f_Weeks_bestChange_L37 am_fu (nI a.1) (oI a.2) (nI k) 0 h = some (nI (chI r s k a (rG r + 1)).1, oI (chI r s k a (rG r + 1)).2, y, h') ∧ am_ex [92] h h' ∧ ∃ l, (∀ g, l = some g → g < rG r) ∧ tW h' 92 r (va_up (sW s) k l) := by
  have hG := V.hG
  have hW := V.hW
  obtain ⟨b, e1, e2, e3, e4, e5⟩ := lpc (fun n (x : Int32 × Int32 × Int32 × am_H) => f_Weeks_bestChange_L37 n x.1 x.2.1 (nI k) x.2.2.1 x.2.2.2) (rG r + 1)
    (fun t x => x.1 = nI (chI r s k a t).1 ∧ x.2.1 = oI (chI r s k a t).2 ∧ x.2.2.1 = nI t ∧ am_ex [92] h x.2.2.2 ∧ ∃ l, (∀ g, l = some g → g < rG r) ∧ tW x.2.2.2 92 r (va_up (sW s) k l))
    (fun b => b.1 = nI (chI r s k a (rG r + 1)).1 ∧ b.2.1 = oI (chI r s k a (rG r + 1)).2 ∧ am_ex [92] h b.2.2.2 ∧ ∃ l, (∀ g, l = some g → g < rG r) ∧ tW b.2.2.2 92 r (va_up (sW s) k l))
    (fun n t x ht hI => by
      obtain ⟨x1, x2, x3, x4⟩ := x
      obtain ⟨i1, i2, i3, i4, l, i5, i6⟩ := hI
      simp only at i1 i2 i3 i4 i6
      subst i1 i2 i3
      have V2 := V.ex i4 (by decide)
      have hch : f_Weeks_choice (nI t) x4 = some (oI (chc (rG r) t)) := by
        unfold f_Weeks_choice chc
        rw [V2.g]
        by_cases c : t = rG r
        · rw [if_pos (nI_le (by omega) (by omega)), if_pos c]; rfl
        · rw [if_neg (nI_ge (by omega) (by omega)), if_neg c]; rfl
      have x92 := i4.tr (am_ex.sI (h := x4) (o := 92) (j := k) (x := oI (chc (rG r) t)) (X := [92]) (by decide)) (Z := [92]) (fun _ z => z) (fun _ z => z)
      have V3 := V.ex x92 (by decide)
      have T3 := i6.up (t := k) (chc_v (G := rG r) (c := t) (by omega))
      rw [up_up] at T3
      obtain ⟨y, m1, m2⟩ := n_many V3 T3
      simp only
      rw [f_Weeks_bestChange_L37, V2.g, if_neg (nI_nlt (by omega) (by omega)), hch, Option.bind_some, n_wr (by omega) (by decide), Option.bind_some, m1, Option.bind_some, m2, Option.bind_some, V3.g, nI_1]
      have hle := chI_le (s := s) (k := k) V.1 ha t
      have hle2 := inT_le (s := s) (wk := va_up (sW s) k (chc (rG r) t)) V.1
      have h10 : ∀ z, (10 : Int32) * nI k + nI z = nI (10 * k + z) := fun z => by
        have : (10 : Int32) * nI k = nI (10 * k) := nI_mul 10 k
        rw [this, nI_add]
      have h109 : (10 : Int32) * nI k + (9 : Int32) = nI (10 * k + 9) := h10 9
      rw [h10, h109]
      refine ⟨(nI (chI r s k a (t + 1)).1, oI (chI r s k a (t + 1)).2, nI (t + 1), am_sI x4 92 k (oI (chc (rG r) t))), ?_, rfl, rfl, rfl, x92, _, chc_v (by omega), T3⟩
      show _ = f_Weeks_bestChange_L37 n (nI (ch1 r s k (chI r s k a t) t).1) (oI (ch1 r s k (chI r s k a t) t).2) (nI k) (nI (t + 1)) _
      unfold ch1
      by_cases c : (chI r s k a t).1 < inT r s (va_up (sW s) k (chc (rG r) t))
      · rw [if_neg (nI_ge c (by omega)), if_pos c]
        by_cases d : t = rG r
        · rw [if_pos (nI_le (by omega) (by omega))]
          simp only [if_pos d, oI_some]
        · rw [if_neg (nI_ge (by omega) (by omega))]
          simp only [if_neg d, oI_some]
      · rw [if_pos (nI_le (by omega) (by omega)), if_neg c])
    (fun n x hI => by
      obtain ⟨x1, x2, x3, x4⟩ := x
      obtain ⟨i1, i2, i3, i4, i5⟩ := hI
      simp only at i1 i2 i3 i4 i5
      subst i1 i2 i3
      have V2 := V.ex i4 (by decide)
      simp only
      rw [f_Weeks_bestChange_L37, V2.g, if_pos (nI_lt (by omega) (by omega))]
      exact ⟨_, rfl, rfl, rfl, i4, i5⟩) (by unfold am_fu; omega) (nI a.1, oI a.2, 0, h) ⟨rfl, rfl, rfl, am_ex.rf, sW s k, V.vw k hk, by rw [up_id]; exact T⟩
  obtain ⟨b1, b2, b3, b4⟩ := b
  simp only at e2 e3
  subst e2 e3
  exact ⟨b3, b4, e1, e4, e5⟩
theorem n_tChange {h : am_H} {r : sR} {s : sS} (V : tV h r s) : ∃ h', f_Weeks_bestChange h = some (oI (chO r s (rW r)).2, h') ∧ am_ex [92] h h' := by
  have hG := V.hG
  have hW := V.hW
  obtain ⟨y, m1, m2⟩ := n_many V V.tW
  obtain ⟨h0, t1, t2, t3⟩ := n_takeWeek V
  obtain ⟨b, e1, e2, e3⟩ := lpc (fun n (x : Int32 × Int32 × Int32 × am_H) => f_Weeks_bestChange_L23 n x.1 x.2.1 x.2.2.1 x.2.2.2) (rW r)
    (fun t x => x.1 = nI (chO r s t).1 ∧ x.2.1 = oI (chO r s t).2 ∧ x.2.2.1 = nI t ∧ am_ex [92] h x.2.2.2 ∧ tW x.2.2.2 92 r (sW s))
    (fun b => b.2.1 = oI (chO r s (rW r)).2 ∧ am_ex [92] h b.2.2.2)
    (fun n t x ht hI => by
      obtain ⟨x1, x2, x3, x4⟩ := x
      obtain ⟨i1, i2, i3, i4, i5⟩ := hI
      simp only at i1 i2 i3 i4 i5
      subst i1 i2 i3
      have V2 := V.ex i4 (by decide)
      obtain ⟨y, h1, c1, c2, l, c3, c4⟩ := n_tChg37 V2 i5 ht (chO_le V.1 t)
      have x92 := i4.tr c2 (Z := [92]) (fun _ z => z) (fun _ z => z)
      have V3 := V.ex x92 (by decide)
      simp only
      rw [f_Weeks_bestChange_L23, V2.w, if_neg (nI_ge ht (by omega)), c1, Option.bind_some]
      simp only
      rw [n_rd (by omega) (by decide), Option.bind_some, V3.wk ht, n_wr (by omega) (by decide), Option.bind_some, nI_1]
      have T4 := c4.up (t := t) (V.vw t ht)
      rw [up_up, up_id] at T4
      exact ⟨(nI (chO r s (t + 1)).1, oI (chO r s (t + 1)).2, nI (t + 1), am_sI h1 92 t (oI (sW s t))), rfl, rfl, rfl, rfl, x92.tr (am_ex.sI (X := [92]) (by decide)) (fun _ z => z) (fun _ z => z), T4⟩)
    (fun n x hI => by
      obtain ⟨x1, x2, x3, x4⟩ := x
      obtain ⟨i1, i2, i3, i4, i5⟩ := hI
      simp only at i1 i2 i3 i4 i5
      subst i1 i2 i3
      have V2 := V.ex i4 (by decide)
      simp only
      rw [f_Weeks_bestChange_L23, V2.w, if_pos (nI_le (Nat.le_refl _) (by omega))]
      exact ⟨_, rfl, rfl, i4⟩) (by unfold am_fu; omega) (nI (inT r s (sW s)), -1, 0, h0) ⟨rfl, rfl, rfl, t2, t3⟩
  have e1' : f_Weeks_bestChange_L23 am_fu (nI (inT r s (sW s))) (-1) 0 h0 = some b := e1
  unfold f_Weeks_bestChange
  rw [m1, Option.bind_some, m2, Option.bind_some, t1, Option.bind_some, e1', Option.bind_some, e2]
  exact ⟨_, rfl, e3⟩
/-- the reference's row but for one hour of the week -/
def mU (h h' : am_H) (k : Nat) (l : Option Nat) : Prop := am_ex [137, 144, 145, 146] h h' ∧ h'.2.1 137 = va_up (h.2.1 137) (29 + k) (oI l)
theorem n_mChg42 {h : am_H} {r : sR} {s : sS} {k : Nat} {z : Int32} {a : Nat × Option Nat} (V : mV (h.2.1 137) r s) (K : mK r h) (hk : k < rW r) (ha : a.1 ≤ 5) : ∃ y h', f_Mod_change_L42 am_fu (nI a.1) (oI a.2) (nI k) z 0 h = some (nI (chI r s k a (rG r + 1)).1, oI (chI r s k a (rG r + 1)).2, y, h') ∧ ∃ l, mU h h' k l := by
  have hG := V.hG
  have hW := V.hW
  obtain ⟨b, e1, e2, e3, e4⟩ := lpc (fun n (x : Int32 × Int32 × Int32 × am_H) => f_Mod_change_L42 n x.1 x.2.1 (nI k) z x.2.2.1 x.2.2.2) (rG r + 1)
    (fun t x => x.1 = nI (chI r s k a t).1 ∧ x.2.1 = oI (chI r s k a t).2 ∧ x.2.2.1 = nI t ∧ ∃ l, (∀ g, l = some g → g < rG r) ∧ mU h x.2.2.2 k l)
    (fun b => b.1 = nI (chI r s k a (rG r + 1)).1 ∧ b.2.1 = oI (chI r s k a (rG r + 1)).2 ∧ ∃ l, mU h b.2.2.2 k l)
    (fun n t x ht hI => by
      obtain ⟨x1, x2, x3, x4⟩ := x
      obtain ⟨i1, i2, i3, l, i4, i5, i6⟩ := hI
      simp only at i1 i2 i3 i5 i6
      subst i1 i2 i3
      have V2 : mV (x4.2.1 137) r (sWk s (va_up (sW s) k l)) := by rw [i6]; exact V.up hk i4
      have e29 : (29 : Int32) + nI k = nI (29 + k) := nI_add 29 k
      have hch : (if nI t = nI (rG r) then (-1 : Int32) else nI t) = oI (chc (rG r) t) := by
        unfold chc
        by_cases c : t = rG r
        · rw [if_pos (by rw [c]), if_pos c]; rfl
        · rw [if_neg (fun q => c ((nI_eq (by omega) (by omega)).mp q)), if_neg c]; rfl
      have r3 : (am_sI x4 137 (29 + k) (oI (chc (rG r) t))).2.1 137 = va_up (h.2.1 137) (29 + k) (oI (chc (rG r) t)) := by
        rw [sI_row, if_pos rfl, i6, up_up]
      have V3 : mV ((am_sI x4 137 (29 + k) (oI (chc (rG r) t))).2.1 137) r (sWk s (va_up (sW s) k (chc (rG r) t))) := by
        rw [r3]; exact V.up hk (chc_v (by omega))
      have x137 : am_ex [137, 144, 145, 146] h (am_sI x4 137 (29 + k) (oI (chc (rG r) t))) := i5.tr (am_ex.sI (X := [137]) (by decide)) (fun _ z => z) (by decide)
      have K3 := K.ex x137 (by decide) (by decide) (by decide)
      obtain ⟨h1, c1, c2⟩ := n_inTimeMany V3 K3
      rw [inT_w] at c1
      have c1' : f_Mod_inTimeMany (am_sI x4 137 (29 + k) (oI (chc (rG r) t))) = some (nI (inT r s (va_up (sW s) k (chc (rG r) t))), h1) := c1
      have V4 := V3.ex c2 (by decide)
      have u4 : mU h h1 k (chc (rG r) t) := ⟨x137.tr c2 (fun _ z => z) (by decide), by rw [c2.2.2 137 (by decide), r3]⟩
      simp only
      rw [f_Mod_change_L42, rd_lit (by decide) (by decide), Option.bind_some, V2.g, if_neg (nI_nlt (by omega) (by omega)), Option.bind_some, hch, e29, n_wr (by omega) (by decide), Option.bind_some, c1', Option.bind_some, nI_1]
      simp only
      rw [rd_lit (by decide) (by decide), Option.bind_some, V4.g]
      have hle := chI_le (s := s) (k := k) V.1 ha t
      have hle2 := inT_le (s := s) (wk := va_up (sW s) k (chc (rG r) t)) V.1
      have h10 : ∀ z, (10 : Int32) * nI k + nI z = nI (10 * k + z) := fun z => by
        have : (10 : Int32) * nI k = nI (10 * k) := nI_mul 10 k
        rw [this, nI_add]
      have h109 : (10 : Int32) * nI k + (9 : Int32) = nI (10 * k + 9) := h10 9
      rw [h10, h109]
      refine ⟨(nI (chI r s k a (t + 1)).1, oI (chI r s k a (t + 1)).2, nI (t + 1), h1), ?_, rfl, rfl, rfl, _, chc_v (by omega), u4⟩
      show _ = f_Mod_change_L42 n (nI (ch1 r s k (chI r s k a t) t).1) (oI (ch1 r s k (chI r s k a t) t).2) (nI k) z (nI (t + 1)) h1
      unfold ch1
      by_cases c : (chI r s k a t).1 < inT r s (va_up (sW s) k (chc (rG r) t))
      · rw [if_pos (nI_lt c (by omega)), if_pos c]
        by_cases d : t = rG r
        · rw [if_pos (by rw [d])]
          simp only [if_pos d, oI_some]
        · rw [if_neg (fun q => d ((nI_eq (by omega) (by omega)).mp q))]
          simp only [if_neg d, oI_some]
      · rw [if_neg (nI_nlt (by omega) (by omega)), if_neg c])
    (fun n x hI => by
      obtain ⟨x1, x2, x3, x4⟩ := x
      obtain ⟨i1, i2, i3, l, i4, i5⟩ := hI
      simp only at i1 i2 i3 i5
      subst i1 i2 i3
      have V2 : mV (x4.2.1 137) r (sWk s (va_up (sW s) k l)) := by rw [i5.2]; exact V.up hk i4
      simp only
      rw [f_Mod_change_L42, rd_lit (by decide) (by decide), Option.bind_some, V2.g, if_pos (nI_lt (by omega) (by omega))]
      exact ⟨_, rfl, rfl, rfl, _, i5⟩) (by unfold am_fu; omega) (nI a.1, oI a.2, 0, h) ⟨rfl, rfl, rfl, sW s k, V.vw k hk, am_ex.rf, by rw [← V.wk hk, up_id]⟩
  obtain ⟨b1, b2, b3, b4⟩ := b
  simp only at e2 e3
  subst e2 e3
  exact ⟨b3, b4, e1, e4⟩
theorem n_mChange {h : am_H} {r : sR} {s : sS} (V : mV (h.2.1 137) r s) (K : mK r h) : ∃ h1 y h', f_Mod_inTimeMany h = some (nI (inT r s (sW s)), h1) ∧ f_Mod_change_L18 am_fu (nI (inT r s (sW s))) (-1) 0 h1 = some (y, oI (chO r s (rW r)).2, h') ∧ am_ex [144, 145, 146] h h'.2 := by
  have hG := V.hG
  have hW := V.hW
  obtain ⟨h1, c1, c2⟩ := n_inTimeMany V K
  obtain ⟨b, e1, e2, e3⟩ := lpc (fun n (x : Int32 × Int32 × Int32 × am_H) => f_Mod_change_L18 n x.1 x.2.1 x.2.2.1 x.2.2.2) (rW r)
    (fun t x => x.1 = nI (chO r s t).1 ∧ x.2.1 = oI (chO r s t).2 ∧ x.2.2.1 = nI t ∧ am_ex [144, 145, 146] h x.2.2.2)
    (fun b => b.2.1 = oI (chO r s (rW r)).2 ∧ am_ex [144, 145, 146] h b.2.2.2)
    (fun n t x ht hI => by
      obtain ⟨x1, x2, x3, x4⟩ := x
      obtain ⟨i1, i2, i3, i4⟩ := hI
      simp only at i1 i2 i3 i4
      subst i1 i2 i3
      have V2 := V.ex i4 (by decide)
      have K2 := K.ex i4 (by decide) (by decide) (by decide)
      have e29 : (29 : Int32) + nI t = nI (29 + t) := nI_add 29 t
      obtain ⟨y, h1, c1, l, c2, c3⟩ := n_mChg42 (z := x4.2.1 137 (29 + t)) V2 K2 ht (chO_le V.1 t)
      simp only
      rw [f_Mod_change_L18, rd_lit (by decide) (by decide), Option.bind_some, V2.w, if_neg (nI_ge ht (by omega)), e29, n_rd (by omega) (by decide), Option.bind_some, c1, Option.bind_some]
      simp only
      rw [n_wr (by omega) (by decide), Option.bind_some, nI_1]
      refine ⟨(nI (chO r s (t + 1)).1, oI (chO r s (t + 1)).2, nI (t + 1), am_sI h1 137 (29 + t) (x4.2.1 137 (29 + t))), rfl, rfl, rfl, rfl, ?_⟩
      have xx : am_ex [137, 144, 145, 146] h (am_sI h1 137 (29 + t) (x4.2.1 137 (29 + t))) := (i4.tr c2 (Z := [137, 144, 145, 146]) (by decide) (fun _ z => z)).tr (am_ex.sI (X := [137]) (by decide)) (fun _ z => z) (by decide)
      refine ⟨xx.1, xx.2.1, fun a ha => ?_⟩
      by_cases c : a = 137
      · subst c
        rw [sI_row, if_pos rfl, c3, up_up, up_id]
        exact i4.2.2 137 (by decide)
      · exact xx.2.2 a (by simp at ha ⊢; omega))
    (fun n x hI => by
      obtain ⟨x1, x2, x3, x4⟩ := x
      obtain ⟨i1, i2, i3, i4⟩ := hI
      simp only at i1 i2 i3 i4
      subst i1 i2 i3
      have V2 := V.ex i4 (by decide)
      simp only
      rw [f_Mod_change_L18, rd_lit (by decide) (by decide), Option.bind_some, V2.w, if_pos (nI_le (Nat.le_refl _) (by omega))]
      exact ⟨_, rfl, rfl, i4⟩) (by unfold am_fu; omega) (nI (inT r s (sW s)), -1, 0, h1) ⟨rfl, rfl, rfl, c2⟩
  obtain ⟨b1, b2, b3⟩ := b
  simp only at e2
  subst e2
  exact ⟨h1, b1, b3, c1, e1, e3⟩
theorem ok_change (b : Nat) (hb : b ≤ 90000) : ok2 b f_Top_change f_Mod_change := by
  refine ok2_of (fun g h v T M0 => ?_)
  have TV := T.tV v (by omega)
  unfold f_Top_change f_Mod_change
  simp only [am_let]
  obtain ⟨h1, a1, a2⟩ := n_tChange TV
  rw [a1, Option.bind_some]
  refine ⟨_, ⟨h1, rfl, a2.keT (by unfold scr; simp)⟩, fun h' M _ => ?_⟩
  have k0 : keM h' (am_sI h' 136 0 0) := keM.s0 (by decide)
  have MV := (M.ke k0).mV v (by omega)
  obtain ⟨h2, c1, c2, c3⟩ := n_keepsLets MV
  obtain ⟨h3, y, h4, d1, d2, d3⟩ := n_mChange (MV.ex c2 (by decide)) c3
  rw [c1, Option.bind_some, d1, Option.bind_some, d2, Option.bind_some]
  exact ⟨_, rfl, (k0.tr (c2.keM (by decide))).tr (d3.keM (by decide))⟩
