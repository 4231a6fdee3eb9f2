-- deps: 31.law 32.nat 33.bit
/-! ===== what both sides mean: a river, a state ===== -/
/-- gaps, hours, people, foggy, lines; load, goal, by; who may walk from a spot; whom the span serves at a gap -/
abbrev sR : Type := (Nat × Nat × Nat × Nat × Nat) × (Nat → Nat) × (Nat → Option Nat) × (Nat → Option Nat) × (Nat → Nat → Nat → Nat → Bool) × (Nat → Nat → Nat → Nat → Bool)
/-- hour, fog, done; week, spots, told acts -/
abbrev sS : Type := (Nat × Nat × Nat) × (Nat → Option Nat) × (Nat → Nat) × (Nat → Nat)
def rG (r : sR) : Nat := r.1.1
def rW (r : sR) : Nat := r.1.2.1
def rP (r : sR) : Nat := r.1.2.2.1
def rF (r : sR) : Nat := r.1.2.2.2.1
def rL (r : sR) : Nat := r.1.2.2.2.2
def rLoad (r : sR) : Nat → Nat := r.2.1
def rTo (r : sR) : Nat → Option Nat := r.2.2.1
def rBy (r : sR) : Nat → Option Nat := r.2.2.2.1
def rWk (r : sR) : Nat → Nat → Nat → Nat → Bool := r.2.2.2.2.1
def rSv (r : sR) : Nat → Nat → Nat → Nat → Bool := r.2.2.2.2.2
def sH (s : sS) : Nat := s.1.1
def sF (s : sS) : Nat := s.1.2.1
def sD (s : sS) : Nat := s.1.2.2
def sW (s : sS) : Nat → Option Nat := s.2.1
def sP (s : sS) : Nat → Nat := s.2.2.1
def sT (s : sS) : Nat → Nat := s.2.2.2
def vSp (G s : Nat) : Prop := s = 8 ∨ s < 2 * G
def vR (r : sR) : Prop := (2 ≤ rG r ∧ rG r ≤ 4) ∧ (1 ≤ rW r ∧ rW r ≤ 6) ∧ rP r ≤ 5 ∧ rF r ≤ 10 ∧ rL r ≤ 1000 ∧ ∀ p, p < rP r → rLoad r p ≤ 99 ∧ (∀ g, rTo r p = some g → g < 2 * rG r ∧ ∃ b, rBy r p = some b ∧ b ≤ 999) ∧ (∀ b, rBy r p = some b → b ≤ 999)
def vS (b : Nat) (r : sR) (s : sS) : Prop := sH s ≤ b ∧ sF s ≤ 99 ∧ sD s < 32 ∧ (∀ k, k < rW r → ∀ g, sW s k = some g → g < rG r) ∧ ∀ p, p < rP r → vSp (rG r) (sP s p) ∧ sT s p ≤ 6
/-! bits of a condition -/
def bts : Nat → (Nat → Bool) → Nat
  | 0, _ => 0
  | n + 1, c => bts n c ||| (if c n then 1 <<< n else 0)
theorem bts_t (n : Nat) (c : Nat → Bool) (j : Nat) : (bts n c).testBit j = (decide (j < n) && c j) := by
  induction n with
  | zero => simp [bts]
  | succ n ih =>
    rw [bts, Nat.testBit_or, ih]
    by_cases e : j = n
    · subst e
      by_cases d : c j <;> simp [d, Nat.testBit_shiftLeft]
    · have : (if c n = true then 1 <<< n else 0).testBit j = false := by
        split
        · rw [Nat.one_shiftLeft, Nat.testBit_two_pow]; exact decide_eq_false (fun q => e q.symm)
        · exact Nat.zero_testBit j
      rw [this, Bool.or_false]
      congr 1
      exact decide_eq_decide.mpr (by omega)
theorem lt_of_bits {s n : Nat} (h : ∀ j, s.testBit j = true → j < n) : s < 2 ^ n := by
  apply Nat.lt_pow_two_of_testBit
  intro i hi
  by_cases c : s.testBit i
  · exact absurd (h i c) (by omega)
  · simpa using c
theorem bts_lt (n : Nat) (c : Nat → Bool) : bts n c < 2 ^ n := lt_of_bits (fun j hj => by
  rw [bts_t] at hj
  simp at hj
  exact hj.1)
theorem bts_eq {n : Nat} {c d : Nat → Bool} (h : ∀ j, j < n → c j = d j) : bts n c = bts n d := by
  apply Nat.eq_of_testBit_eq
  intro j
  rw [bts_t, bts_t]
  by_cases e : j < n
  · rw [h j e]
  · simp [e]
def gU (r : sR) (p k f : Nat) : Nat := bts (2 * rG r) (fun s => rWk r p s k f && decide (s / 2 + 1 < rG r))
def gD (r : sR) (p k f : Nat) : Nat := bts (2 * rG r) (fun s => rWk r p s k f && decide (2 ≤ s))
def gS (r : sR) (p k f : Nat) : Nat := bts (rG r) (fun g => rSv r p g k f)
/-- a span at l leads from each of its two banks and itself to all three -/
def jn (S s : Nat) : Option Nat → Nat
  | none => 0
  | some l => if S.testBit l then (if s &&& (256 ||| (3 <<< (2 * l))) = 0 then 0 else 256 ||| (3 <<< (2 * l))) else 0
/-- where one can be an hour later -/
def go (r : sR) (p k f : Nat) (l : Option Nat) (s : Nat) : Nat := ((s ||| ((s &&& gU r p k f) <<< 2)) ||| ((s &&& gD r p k f) >>> 2)) ||| jn (gS r p k f) s l
/-- a set of spots -/
def vSet (G s : Nat) : Prop := ∀ j, s.testBit j = true → vSp G j
theorem vSet.lt {G s : Nat} (hG : G ≤ 4) (h : vSet G s) : s < 512 := lt_of_bits (n := 9) (fun j hj => by
  rcases h j hj with c | c <;> omega)
theorem gU_lt {r : sR} (hG : rG r ≤ 4) (p k f : Nat) : gU r p k f < 256 := Nat.lt_of_lt_of_le (bts_lt _ _) (Nat.pow_le_pow_right (by omega) (n := 2) (i := 2 * rG r) (j := 8) (by omega))
theorem gD_lt {r : sR} (hG : rG r ≤ 4) (p k f : Nat) : gD r p k f < 256 := Nat.lt_of_lt_of_le (bts_lt _ _) (Nat.pow_le_pow_right (by omega) (n := 2) (i := 2 * rG r) (j := 8) (by omega))
theorem gS_lt {r : sR} (hG : rG r ≤ 4) (p k f : Nat) : gS r p k f < 16 := Nat.lt_of_lt_of_le (bts_lt _ _) (Nat.pow_le_pow_right (by omega) (n := 2) (i := rG r) (j := 4) (by omega))
def tri (l j : Nat) : Bool := j == 8 || j == 2 * l || j == 2 * l + 1
theorem tri_t {l : Nat} (hl : l < 4) (j : Nat) : (256 ||| (3 <<< (2 * l))).testBit j = tri l j := by
  have h1 : ∀ l, l < 4 → ∀ j, j < 9 → (256 ||| (3 <<< (2 * l))).testBit j = tri l j := by decide +kernel
  by_cases c : j < 9
  · exact h1 l hl j c
  · have h2 : ∀ l, l < 4 → 256 ||| (3 <<< (2 * l)) < 2 ^ 9 := by decide
    rw [Nat.testBit_lt_two_pow (Nat.lt_of_lt_of_le (h2 l hl) (Nat.pow_le_pow_right (by omega) (by omega)))]
    symm
    unfold tri
    simp
    omega
theorem jn_t {S s l : Nat} (hl : l < 4) (j : Nat) : (jn S s (some l)).testBit j = (S.testBit l && tri l j && (s.testBit 8 || s.testBit (2 * l) || s.testBit (2 * l + 1))) := by
  show (if S.testBit l = true then (if s &&& (256 ||| (3 <<< (2 * l))) = 0 then 0 else 256 ||| (3 <<< (2 * l))) else 0).testBit j = _
  by_cases c : S.testBit l
  · rw [if_pos c, c]
    by_cases d : s &&& (256 ||| (3 <<< (2 * l))) = 0
    · rw [if_pos d, Nat.zero_testBit]
      have e : ∀ i, (s.testBit i && tri l i) = false := fun i => by
        rw [← tri_t hl, ← Nat.testBit_and, d, Nat.zero_testBit]
      have e8 := e 8
      have ew := e (2 * l)
      have ee := e (2 * l + 1)
      simp [tri] at e8 ew ee
      rw [e8, ew, ee]
      simp
    · rw [if_neg d, tri_t hl, Bool.true_and]
      have : ∃ i, (s.testBit i && tri l i) = true := by
        apply Classical.byContradiction
        intro hn
        apply d
        apply Nat.eq_of_testBit_eq
        intro i
        rw [Nat.testBit_and, tri_t hl, Nat.zero_testBit]
        by_cases q : (s.testBit i && tri l i) = true
        · exact absurd ⟨i, q⟩ hn
        · simpa using q
      obtain ⟨i, hi⟩ := this
      have hor : (s.testBit 8 || s.testBit (2 * l) || s.testBit (2 * l + 1)) = true := by
        rw [Bool.and_eq_true] at hi
        obtain ⟨h1, h2⟩ := hi
        unfold tri at h2
        simp only [Bool.or_eq_true, beq_iff_eq] at h2
        rcases h2 with (h2 | h2) | h2 <;> (subst h2; simp [h1])
      rw [hor, Bool.and_true]
  · simp only [Bool.not_eq_true] at c
    rw [if_neg (by simp [c]), c, Nat.zero_testBit]
    simp
theorem go_t {r : sR} {p k f : Nat} {l : Option Nat} {s : Nat} (j : Nat) : (go r p k f l s).testBit j = (s.testBit j || (decide (2 ≤ j) && (s.testBit (j - 2) && (gU r p k f).testBit (j - 2))) || (s.testBit (j + 2) && (gD r p k f).testBit (j + 2)) || (jn (gS r p k f) s l).testBit j) := by
  unfold go
  simp only [Nat.testBit_or, Nat.testBit_shiftLeft, Nat.testBit_shiftRight, Nat.testBit_and, Nat.add_comm 2 j]
theorem go_v {r : sR} (hr : vR r) {p k f : Nat} {l : Option Nat} {s : Nat} (hl : ∀ g, l = some g → g < rG r) (hs : vSet (rG r) s) : vSet (rG r) (go r p k f l s) := by
  intro j hj
  rw [go_t] at hj
  simp only [Bool.or_eq_true, Bool.and_eq_true, decide_eq_true_eq] at hj
  rcases hj with ((h | ⟨h1, h2, h3⟩) | ⟨h2, h3⟩) | h
  · exact hs j h
  · unfold gU at h3
    rw [bts_t] at h3
    simp at h3
    exact .inr (by omega)
  · unfold gD at h3
    rw [bts_t] at h3
    simp at h3
    exact .inr (by omega)
  · cases l with
    | none => simp [jn] at h
    | some g =>
      have hg := hl g rfl
      have := hr.1
      rw [jn_t (by omega)] at h
      simp only [tri, Bool.and_eq_true, Bool.or_eq_true, beq_iff_eq] at h
      rcases h.1.2 with (e | e) | e
      · exact .inl e
      · exact .inr (by omega)
      · exact .inr (by omega)
theorem go_sub {r : sR} {p k f : Nat} {l : Option Nat} {s j : Nat} (h : s.testBit j = true) : (go r p k f l s).testBit j = true := by
  rw [go_t, h]
  simp
