-- deps: 31.law 32.nat 33.bit 34.spec 35.riv 36.let 37.mod 38.mod 39.it 40.ahead 41.rel 42.ask 43.why 44.meet 45.err 46.err 47.wk 50.ways
/-! ===== one hour: which spot leads to which ===== -/
def jb (S : Nat) : Option Nat → Nat → Nat → Bool
  | none, _, _ => false
  | some g, x, j => S.testBit g && tri g j && tri g x
theorem jb_some {S g x j : Nat} : jb S (some g) x j = true ↔ (S.testBit g = true ∧ tri g j = true) ∧ tri g x = true := by simp [jb, Bool.and_eq_true]
theorem jb_none {S x j : Nat} : ¬ jb S none x j = true := by simp [jb]
def nx (r : sR) (p k f : Nat) (l : Option Nat) (x j : Nat) : Bool := decide (j = x) || (decide (j = x + 2) && (gU r p k f).testBit x) || (decide (x = j + 2) && (gD r p k f).testBit x) || jb (gS r p k f) l x j
theorem or3 {g : Nat} {s : Nat} : (s.testBit 8 || s.testBit (2 * g) || s.testBit (2 * g + 1)) = true ↔ ∃ j, s.testBit j = true ∧ tri g j = true := by
  unfold tri
  simp only [Bool.or_eq_true, beq_iff_eq]
  constructor
  · rintro ((h | h) | h)
    · exact ⟨8, h, .inl (.inl rfl)⟩
    · exact ⟨_, h, .inl (.inr rfl)⟩
    · exact ⟨_, h, .inr rfl⟩
  · rintro ⟨j, h, (rfl | rfl) | rfl⟩
    · exact .inl (.inl h)
    · exact .inl (.inr h)
    · exact .inr h
theorem go_nx {r : sR} {p k f : Nat} {l : Option Nat} {s j : Nat} (hl : ∀ g, l = some g → g < 4) : (go r p k f l s).testBit j = true ↔ ∃ x, s.testBit x = true ∧ nx r p k f l x j = true := by
  rw [go_t]
  unfold nx
  simp only [Bool.or_eq_true, Bool.and_eq_true, decide_eq_true_eq]
  constructor
  · rintro (((h | ⟨h1, h2, h3⟩) | ⟨h2, h3⟩) | h)
    · exact ⟨j, h, .inl (.inl (.inl rfl))⟩
    · exact ⟨j - 2, h2, .inl (.inl (.inr ⟨by omega, h3⟩))⟩
    · exact ⟨j + 2, h2, .inl (.inr ⟨rfl, h3⟩)⟩
    · cases l with
      | none => simp [jn] at h
      | some g =>
        rw [jn_t (hl g rfl), Bool.and_eq_true, Bool.and_eq_true] at h
        obtain ⟨x, hx1, hx2⟩ := or3.mp h.2
        exact ⟨x, hx1, .inr (jb_some.mpr ⟨h.1, hx2⟩)⟩
  · rintro ⟨x, hx, ((h | ⟨h1, h2⟩) | ⟨h1, h2⟩) | h⟩
    · subst h; exact .inl (.inl (.inl hx))
    · subst h1; exact .inl (.inl (.inr ⟨by omega, hx, h2⟩))
    · subst h1; exact .inl (.inr ⟨hx, h2⟩)
    · cases l with
      | none => exact absurd h jb_none
      | some g =>
        rw [jb_some] at h
        refine .inr ?_
        rw [jn_t (hl g rfl), Bool.and_eq_true, Bool.and_eq_true]
        exact ⟨h.1, or3.mpr ⟨x, hx, h.2⟩⟩
theorem ga_nx {r : sR} {p k f : Nat} {l : Option Nat} {s x : Nat} (hl : ∀ g, l = some g → g < 4) : (ga r p k f l s).testBit x = true ↔ ∃ j, s.testBit j = true ∧ nx r p k f l x j = true := by
  unfold ga nx
  simp only [Nat.testBit_or, Nat.testBit_shiftLeft, Nat.testBit_shiftRight, Nat.testBit_and, Bool.or_eq_true, Bool.and_eq_true, decide_eq_true_eq]
  constructor
  · rintro (((h | ⟨h2, h3⟩) | ⟨⟨h1, h2⟩, h3⟩) | h)
    · exact ⟨x, h, .inl (.inl (.inl rfl))⟩
    · exact ⟨2 + x, h2, .inl (.inl (.inr ⟨by omega, h3⟩))⟩
    · exact ⟨x - 2, h2, .inl (.inr ⟨by omega, h3⟩)⟩
    · cases l with
      | none => simp [jn] at h
      | some g =>
        rw [jn_t (hl g rfl), Bool.and_eq_true, Bool.and_eq_true] at h
        obtain ⟨j, hx1, hx2⟩ := or3.mp h.2
        exact ⟨j, hx1, .inr (jb_some.mpr ⟨⟨h.1.1, hx2⟩, h.1.2⟩)⟩
  · rintro ⟨j, hx, ((h | ⟨h1, h2⟩) | ⟨h1, h2⟩) | h⟩
    · subst h; exact .inl (.inl (.inl hx))
    · subst h1; exact .inl (.inl (.inr ⟨by rw [Nat.add_comm]; exact hx, h2⟩))
    · subst h1; exact .inl (.inr ⟨⟨by omega, hx⟩, h2⟩)
    · cases l with
      | none => exact absurd h jb_none
      | some g =>
        rw [jb_some] at h
        refine .inr ?_
        rw [jn_t (hl g rfl), Bool.and_eq_true, Bool.and_eq_true]
        exact ⟨⟨h.1.1, h.2⟩, or3.mpr ⟨j, hx, h.1.2⟩⟩
theorem gU_t {r : sR} {p k f x : Nat} : (gU r p k f).testBit x = true ↔ x < 2 * rG r ∧ rWk r p x k f = true ∧ x / 2 + 1 < rG r := by
  unfold gU
  rw [bts_t]
  simp
theorem gD_t {r : sR} {p k f x : Nat} : (gD r p k f).testBit x = true ↔ x < 2 * rG r ∧ rWk r p x k f = true ∧ 2 ≤ x := by
  unfold gD
  rw [bts_t]
  simp
theorem gS_t {r : sR} {p k f g : Nat} : (gS r p k f).testBit g = true ↔ g < rG r ∧ rSv r p g k f = true := by
  unfold gS
  rw [bts_t]
  simp
theorem x1e (g : Nat) (hg : g < 4) : (2 * g) ^^^ 1 = 2 * g + 1 := by
  have : ∀ g, g < 4 → (2 * g) ^^^ 1 = 2 * g + 1 := by decide
  exact this g hg
theorem x1o (g : Nat) (hg : g < 4) : (2 * g + 1) ^^^ 1 = 2 * g := by
  have : ∀ g, g < 4 → (2 * g + 1) ^^^ 1 = 2 * g := by decide
  exact this g hg
theorem nx_act {r : sR} {p k f x j : Nat} {l : Option Nat} (hr : vR r) (hx : vSp (rG r) x) (hl : ∀ g, l = some g → g < rG r) : nx r p k f l x j = true ↔ ∃ a, a ≤ 6 ∧ hi r p k f x a l = 0 ∧ mv x a l = j := by
  have hG := hr.1
  unfold nx
  simp only [Bool.or_eq_true, Bool.and_eq_true, decide_eq_true_eq]
  constructor
  · rintro (((h | ⟨h1, h2⟩) | ⟨h1, h2⟩) | h)
    · exact ⟨0, by omega, rfl, by rw [h]; rfl⟩
    · rw [gU_t] at h2
      obtain ⟨q1, q2, q3⟩ := h2
      refine ⟨1, by omega, ?_, by rw [h1]; rfl⟩
      unfold hi
      rw [if_neg (by omega), if_pos rfl, if_neg (show ¬ (x = 8 ∨ rG r ≤ x / 2 + 1) by omega), if_pos q2]
    · rw [gD_t] at h2
      obtain ⟨q1, q2, q3⟩ := h2
      refine ⟨2, by omega, ?_, by rw [h1]; rfl⟩
      unfold hi
      rw [if_neg (by omega), if_neg (by omega), if_pos rfl, if_neg (show ¬ (x = 8 ∨ x < 2) by omega), if_pos q2]
    · cases l with
      | none => exact absurd h jb_none
      | some g =>
        rw [jb_some, gS_t] at h
        obtain ⟨⟨⟨g1, g2⟩, h2⟩, h3⟩ := h
        unfold tri at h2 h3
        simp only [Bool.or_eq_true, beq_iff_eq] at h2 h3
        by_cases e : j = x
        · exact ⟨0, by omega, rfl, by rw [e]; rfl⟩
        by_cases x8 : x = 8
        · subst x8
          rcases h2 with (h2 | h2) | h2
          · omega
          · refine ⟨5, by omega, ?_, by rw [h2]; rfl⟩
            unfold hi
            rw [if_neg (by omega), if_neg (by omega), if_neg (by omega), if_neg (by omega), if_pos (by omega), if_neg (by omega)]
            try simp only
            rw [if_pos g2]
          · refine ⟨6, by omega, ?_, by rw [h2]; rfl⟩
            unfold hi
            rw [if_neg (by omega), if_neg (by omega), if_neg (by omega), if_neg (by omega), if_pos (by omega), if_neg (by omega)]
            try simp only
            rw [if_pos g2]
        · have hg : x / 2 = g := by omega
          have hl3 : ¬ (x = 8 ∨ some g ≠ some (x / 2)) := by rw [hg]; simp [x8]
          by_cases j8 : j = 8
          · subst j8
            refine ⟨4, by omega, ?_, rfl⟩
            unfold hi
            rw [if_neg (by omega), if_neg (by omega), if_neg (by omega), if_pos (by omega), if_neg hl3, hg, if_pos g2]
          · refine ⟨3, by omega, ?_, ?_⟩
            · unfold hi
              rw [if_neg (by omega), if_neg (by omega), if_neg (by omega), if_pos (by omega), if_neg hl3, hg, if_pos g2]
            · show x ^^^ 1 = j
              rcases (show x = 2 * g ∨ x = 2 * g + 1 by omega) with q | q
              · rw [q, x1e _ (by rcases hx with z | z <;> omega)]; omega
              · rw [q, x1o _ (by rcases hx with z | z <;> omega)]; omega
  · rintro ⟨a, ha, h0, hm⟩
    unfold hi at h0
    rcases (show a = 0 ∨ a = 1 ∨ a = 2 ∨ a = 3 ∨ a = 4 ∨ a = 5 ∨ a = 6 by omega) with rfl | rfl | rfl | rfl | rfl | rfl | rfl
    · exact .inl (.inl (.inl hm.symm))
    · rw [if_neg (by omega), if_pos rfl] at h0
      have hm' : x + 2 = j := hm
      by_cases c : x = 8 ∨ rG r ≤ x / 2 + 1
      · rw [if_pos c] at h0; cases h0
      · rw [if_neg c] at h0
        by_cases d : rWk r p x k f = true
        · exact .inl (.inl (.inr ⟨hm'.symm, gU_t.mpr ⟨by rcases hx with q | q <;> omega, d, by omega⟩⟩))
        · rw [if_neg d] at h0; cases h0
    · rw [if_neg (by omega), if_neg (by omega), if_pos rfl] at h0
      have hm' : x - 2 = j := hm
      by_cases c : x = 8 ∨ x < 2
      · rw [if_pos c] at h0; cases h0
      · rw [if_neg c] at h0
        by_cases d : rWk r p x k f = true
        · exact .inl (.inr ⟨by omega, gD_t.mpr ⟨by rcases hx with q | q <;> omega, d, by omega⟩⟩)
        · rw [if_neg d] at h0; cases h0
    · rw [if_neg (by omega), if_neg (by omega), if_neg (by omega), if_pos (by omega)] at h0
      have hm' : x ^^^ 1 = j := hm
      by_cases c : x = 8 ∨ l ≠ some (x / 2)
      · rw [if_pos c] at h0; cases h0
      · rw [if_neg c] at h0
        by_cases d : rSv r p (x / 2) k f = true
        · have hlx : l = some (x / 2) := by
            apply Classical.byContradiction
            intro q
            exact c (.inr q)
          have h8 : x ≠ 8 := fun q => c (.inl q)
          refine .inr ?_
          rw [hlx, jb_some]
          refine ⟨⟨gS_t.mpr ⟨by rcases hx with q | q <;> omega, d⟩, ?_⟩, ?_⟩
          · rw [← hm']
            unfold tri
            simp only [Bool.or_eq_true, beq_iff_eq]
            rcases (show x = 2 * (x / 2) ∨ x = 2 * (x / 2) + 1 by omega) with q | q
            · rw [q, x1e _ (by rcases hx with z | z <;> omega)]; right; omega
            · rw [q, x1o _ (by rcases hx with z | z <;> omega)]; left; right; omega
          · unfold tri
            simp only [Bool.or_eq_true, beq_iff_eq]
            omega
        · rw [if_neg d] at h0; cases h0
    · rw [if_neg (by omega), if_neg (by omega), if_neg (by omega), if_pos (by omega)] at h0
      have hm' : 8 = j := hm
      by_cases c : x = 8 ∨ l ≠ some (x / 2)
      · rw [if_pos c] at h0; cases h0
      · rw [if_neg c] at h0
        by_cases d : rSv r p (x / 2) k f = true
        · have hlx : l = some (x / 2) := by
            apply Classical.byContradiction
            intro q
            exact c (.inr q)
          have h8 : x ≠ 8 := fun q => c (.inl q)
          refine .inr ?_
          rw [hlx, jb_some]
          refine ⟨⟨gS_t.mpr ⟨by rcases hx with q | q <;> omega, d⟩, ?_⟩, ?_⟩
          · rw [← hm']
            rfl
          · unfold tri
            simp only [Bool.or_eq_true, beq_iff_eq]
            omega
        · rw [if_neg d] at h0; cases h0
    · rw [if_neg (by omega), if_neg (by omega), if_neg (by omega), if_neg (by omega), if_pos (by omega)] at h0
      by_cases c : x ≠ 8
      · rw [if_pos c] at h0; cases h0
      · rw [if_neg c] at h0
        cases l with
        | none => cases h0
        | some g =>
          try simp only at h0
          by_cases d : rSv r p g k f = true
          · have hm' : 2 * g = j := hm
            have hg := hl g rfl
            refine .inr ?_
            rw [jb_some]
            refine ⟨⟨gS_t.mpr ⟨hg, d⟩, ?_⟩, ?_⟩
            · unfold tri; simp only [Bool.or_eq_true, beq_iff_eq]; omega
            · unfold tri; simp only [Bool.or_eq_true, beq_iff_eq]; omega
          · rw [if_neg d] at h0; cases h0
    · rw [if_neg (by omega), if_neg (by omega), if_neg (by omega), if_neg (by omega), if_pos (by omega)] at h0
      by_cases c : x ≠ 8
      · rw [if_pos c] at h0; cases h0
      · rw [if_neg c] at h0
        cases l with
        | none => cases h0
        | some g =>
          try simp only at h0
          by_cases d : rSv r p g k f = true
          · have hm' : 2 * g + 1 = j := hm
            have hg := hl g rfl
            refine .inr ?_
            rw [jb_some]
            refine ⟨⟨gS_t.mpr ⟨hg, d⟩, ?_⟩, ?_⟩
            · unfold tri; simp only [Bool.or_eq_true, beq_iff_eq]; omega
            · unfold tri; simp only [Bool.or_eq_true, beq_iff_eq]; omega
          · rw [if_neg d] at h0; cases h0
/-! ===== back from a spot ===== -/
/-- where one may be d hours before hour n, to be at q in hour n -/
def bw (r : sR) (s : sS) (p q n : Nat) : Nat → Nat
  | 0 => 1 <<< q
  | d + 1 => ga r p (kN r s (n - (d + 1))) (fg s (n - (d + 1))) (sW s (kN r s (n - (d + 1)))) (bw r s p q n d)
theorem ga_v {r : sR} (hr : vR r) {p k f : Nat} {l : Option Nat} {s : Nat} (hl : ∀ g, l = some g → g < rG r) (hs : vSet (rG r) s) : vSet (rG r) (ga r p k f l s) := by
  have hG := hr.1
  intro x hx
  rw [ga_nx (fun g q => by have := hl g q; omega)] at hx
  obtain ⟨j, h1, h2⟩ := hx
  unfold nx at h2
  simp only [Bool.or_eq_true, Bool.and_eq_true, decide_eq_true_eq] at h2
  rcases h2 with ((h | ⟨_, h⟩) | ⟨_, h⟩) | h
  · rw [← h]; exact hs j h1
  · exact .inr (gU_t.mp h).1
  · exact .inr (gD_t.mp h).1
  · cases l with
    | none => exact absurd h jb_none
    | some g =>
      have hg := hl g rfl
      rw [jb_some] at h
      simp only [tri, Bool.or_eq_true, beq_iff_eq] at h
      rcases h.2 with (e | e) | e
      · exact .inl e
      · exact .inr (by omega)
      · exact .inr (by omega)
theorem kN_lt {r : sR} (hr : vR r) (s : sS) (n : Nat) : kN r s n < rW r := Nat.mod_lt _ (by have := hr.2.1; omega)
theorem bw_v {r : sR} {s : sS} {p q n : Nat} (hr : vR r) (hw : vW r (sW s)) (hq : vSp (rG r) q) : ∀ d, vSet (rG r) (bw r s p q n d)
  | 0 => one_v hq
  | d + 1 => ga_v hr (hw _ (kN_lt hr s _)) (bw_v hr hw hq d)
theorem l4 {r : sR} {s : sS} (hr : vR r) (hw : vW r (sW s)) (n : Nat) : ∀ g, sW s (kN r s n) = some g → g < 4 := fun g hg => by
  have := hw _ (kN_lt hr s n) g hg
  have := hr.1
  omega
/-- forth and back meet at every hour -/
theorem fwbw {r : sR} {s : sS} {p q n x : Nat} (hr : vR r) (hw : vW r (sW s)) (hq : (it r s (sW s) p 0 x n).testBit q = true) : ∀ d, d ≤ n → ∃ j, (it r s (sW s) p 0 x (n - d)).testBit j = true ∧ (bw r s p q n d).testBit j = true
  | 0, _ => ⟨q, hq, by rw [bw, Nat.one_shiftLeft, Nat.testBit_two_pow]; simp⟩
  | d + 1, hd => by
    obtain ⟨j, h1, h2⟩ := fwbw hr hw hq d (by omega)
    rw [show n - d = (n - (d + 1)) + 1 by omega, it, stp, Nat.zero_add] at h1
    have h1' : (go r p (kN r s (n - (d + 1))) (fg s (n - (d + 1))) (sW s (kN r s (n - (d + 1)))) (it r s (sW s) p 0 x (n - (d + 1)))).testBit j = true := h1
    rw [go_nx (l4 hr hw _)] at h1'
    obtain ⟨y, h3, h4⟩ := h1'
    refine ⟨y, h3, ?_⟩
    rw [bw, ga_nx (l4 hr hw _)]
    exact ⟨j, h2, h4⟩
/-- is this act of hour t a step back to the goal? -/
def ac1 (r : sR) (s : sS) (p q n t x a : Nat) : Bool := decide (hi r p (kN r s t) (fg s t) x a (sW s (kN r s t)) = 0) && (bw r s p q n (n - (t + 1))).testBit (mv x a (sW s (kN r s t)))
def wac (r : sR) (s : sS) (p q n t x : Nat) : Nat := (ff (ac1 r s p q n t x) 0 7).getD 0
def wps (r : sR) (s : sS) (p q n : Nat) : Nat → Nat
  | 0 => sP s p
  | t + 1 => mv (wps r s p q n t) (wac r s p q n t (wps r s p q n t)) (sW s (kN r s t))
theorem wac_ff {r : sR} {s : sS} {p q n t x : Nat} (hr : vR r) (hw : vW r (sW s)) (ht : t < n) (hx : vSp (rG r) x) (hb : (bw r s p q n (n - t)).testBit x = true) : ff (ac1 r s p q n t x) 0 7 = some (wac r s p q n t x) := by
  rw [show n - t = (n - (t + 1)) + 1 by omega, bw, show n - (n - (t + 1) + 1) = t by omega, ga_nx (l4 hr hw _)] at hb
  obtain ⟨j, h1, h2⟩ := hb
  rw [nx_act hr hx (hw _ (kN_lt hr s _))] at h2
  obtain ⟨a, ha, h3, h4⟩ := h2
  unfold wac
  cases h : ff (ac1 r s p q n t x) 0 7 with
  | some _ => rfl
  | none =>
    have := ff_none h a (by omega) (by omega)
    unfold ac1 at this
    rw [h3, h4, h1] at this
    cases this
theorem wps_b {r : sR} {s : sS} {p q n : Nat} (hr : vR r) (hw : vW r (sW s)) (hs : vSp (rG r) (sP s p)) (hq : (it r s (sW s) p 0 (1 <<< sP s p) n).testBit q = true) : ∀ t, t ≤ n → vSp (rG r) (wps r s p q n t) ∧ (bw r s p q n (n - t)).testBit (wps r s p q n t) = true
  | 0, _ => ⟨hs, by
    obtain ⟨j, h1, h2⟩ := fwbw hr hw hq n (Nat.le_refl _)
    rw [Nat.sub_self, it, Nat.one_shiftLeft, Nat.testBit_two_pow] at h1
    have : sP s p = j := by simpa using h1
    rw [wps, this]
    exact h2⟩
  | t + 1, ht => by
    obtain ⟨h1, h2⟩ := wps_b hr hw hs hq t (by omega)
    obtain ⟨_, f2, f3, _⟩ := ff_some (wac_ff hr hw (by omega) h1 h2)
    unfold ac1 at f3
    simp only [Bool.and_eq_true, decide_eq_true_eq] at f3
    exact ⟨(hi_mv hr h1 (hw _ (kN_lt hr s _)) (by omega) f3.1).2.2, f3.2⟩
/-! the class -/
theorem nI_up {a : Nat} : nI a + (1 : Int32) = nI (a + 1) := nI_add a 1
theorem n_fw28 {h : am_H} {r : sR} {s : sS} {p q n : Nat} {p2 : Int32} (V : tV h r s) (hp : p < rP r) (hq : vSp (rG r) q) (hn : n ≤ 60) (h0 : h.2.1 87 n = nI (1 <<< q)) :
    ∃ y h', f_Ahead_findWay_L28 (nI p) p2 am_fu (nI n) (nI n - 1) h = some (y, h') ∧ am_ex [87] h h' ∧ ∀ t, t ≤ n → h'.2.1 87 t = nI (bw r s p q n (n - t)) := by
  have hW := V.hW
  have hG := V.hG
  have L := lq2 (fun k (a1 : Int32) (a2 : am_H) => f_Ahead_findWay_L28 (nI p) p2 k (nI n) a1 a2)
    (fun m a1 a2 => am_ex [87] h a2 ∧ m ≤ n ∧ (∀ t, m ≤ t → t ≤ n → a2.2.1 87 t = nI (bw r s p q n (n - t))) ∧ (m = 0 ∧ a1 = -1 ∨ 0 < m ∧ a1 = nI (m - 1)))
    (fun b => am_ex [87] h b.2 ∧ ∀ t, t ≤ n → b.2.2.1 87 t = nI (bw r s p q n (n - t)))
    (fun k m a1 a2 hI => by
      obtain ⟨i1, i2, i3, i4⟩ := hI
      try simp only at i1 i3 i4
      rcases i4 with ⟨rfl, rfl⟩ | ⟨hm, rfl⟩
      · left
        try simp only
        rw [f_Ahead_findWay_L28, if_pos (by decide)]
        exact ⟨_, rfl, i1, fun t ht => i3 t (by omega) ht⟩
      · right
        have V2 := V.ex i1 (by decide)
        have hs : bw r s p q n (n - m) < 512 := (bw_v V.1 V.vw hq _).lt hG.2
        have e : f_River_gather 1 (nI (12 * p + 2 * ((sH s + (m - 1)) % rW r) + fg s (m - 1))) (nI (bw r s p q n (n - m))) (oI (sW s ((sH s + (m - 1)) % rW r))) a2 = _ := n_gather V2.1 V2.2.2.1 hp (kN_lt V.1 s (m - 1)) (fg_lt _ _) hs (V.vw _ (kN_lt V.1 s (m - 1)))
        try simp only
        rw [f_Ahead_findWay_L28, if_neg (nI_pos (by omega)), n_rowIn V2 (by omega), Option.bind_some, nI_up, show m - 1 + 1 = m by omega, n_rd (by omega) (by decide), Option.bind_some, i3 m (by omega) (by omega), n_liesIn V2 (by omega), Option.bind_some, e, Option.bind_some, n_wr (by omega) (by decide), Option.bind_some]
        refine ⟨m - 1, _, _, by omega, rfl, i1.tr (am_ex.sI (X := [87]) (by decide)) (fun _ z => z) (fun _ z => z), by omega, fun t ht1 ht2 => ?_, ?_⟩
        · try simp only
          rw [sI_row, if_pos rfl]
          by_cases c : t = m - 1
          · subst c
            rw [up_s, show n - (m - 1) = (n - m) + 1 by omega, bw, show n - (n - m + 1) = m - 1 by omega]
            rfl
          · rw [up_n c]; exact i3 t (by omega) ht2
        · try simp only
          by_cases c : m = 1
          · subst c; exact .inl ⟨rfl, rfl⟩
          · exact .inr ⟨by omega, nI_m1 (by omega)⟩)
  obtain ⟨b, e1, e2, e3⟩ := L am_fu n (nI n - 1) h (by unfold am_fu; omega) ⟨am_ex.rf, Nat.le_refl _, fun t h1 h2 => by
      have : t = n := by omega
      subst this
      rw [Nat.sub_self]
      exact h0, by
      by_cases c : n = 0
      · subst c; exact .inl ⟨rfl, rfl⟩
      · exact .inr ⟨by omega, nI_sub (b := 1) (by omega)⟩⟩
  obtain ⟨b1, b2⟩ := b
  exact ⟨b1, b2, e1, e2, e3⟩
theorem n_fai {h : am_H} {r : sR} {s : sS} {p q n t x : Nat} (V : tV h r s) (hp : p < rP r) (ht : t < n) (hx : vSp (rG r) x) (hq : vSp (rG r) q) (hb : (bw r s p q n (n - t)).testBit x = true) :
    f_Ahead_firstActInto (nI (12 * p + 2 * kN r s t + fg s t)) (nI x) (oI (sW s (kN r s t))) (nI (bw r s p q n (n - (t + 1)))) h = some (nI (wac r s p q n t x)) := by
  have hG := V.hG
  have hx9 : x < 9 := by rcases hx with c | c <;> omega
  have hk := kN_lt V.1 s t
  have hff := wac_ff V.1 V.vw ht hx hb
  have hs : bw r s p q n (n - (t + 1)) < 512 := (bw_v V.1 V.vw hq _).lt hG.2
  generalize hw : wac r s p q n t x = w at hff ⊢
  have L := lp (fun k (a : Int32) => f_Ahead_firstActInto_L3 (nI (12 * p + 2 * kN r s t + fg s t)) (nI x) (oI (sW s (kN r s t))) (nI (bw r s p q n (n - (t + 1)))) k a h)
    (fun m a => ∃ u, m + u = 7 ∧ a = nI u ∧ ff (ac1 r s p q n t x) u m = some w)
    (fun b => b = nI w)
    (fun k m a hI => by
      obtain ⟨u, h1, rfl, h3⟩ := hI
      try simp only
      obtain ⟨m, rfl⟩ : ∃ m', m = m' + 1 := ⟨m - 1, by
        have : m ≠ 0 := fun c => by subst c; cases h3
        omega⟩
      rw [f_Ahead_firstActInto_L3, if_neg (show ¬ (7 : Int32) ≤ nI u from nI_ge (b := 7) (by omega) (by decide)), n_hind V.1 V.2.2.1 hp hk (fg_lt _ _) hx (V.vw _ hk) (by omega), Option.bind_some, nI_up]
      rw [ff] at h3
      by_cases c : hi r p (kN r s t) (fg s t) x u (sW s (kN r s t)) = 0
      · obtain ⟨m1, m2, m3⟩ := hi_mv V.1 hx (V.vw _ hk) (show u ≤ 6 by omega) c
        have m9 : mv x u (sW s (kN r s t)) < 9 := by rcases m3 with c | c <;> omega
        rw [c, if_pos (show nI 0 = 0 from rfl), n_moved (G := rG r) hx9 (by omega) m1 m2, Option.bind_some, n_hasBit (by omega) (by omega), Option.bind_some]
        by_cases d : (bw r s p q n (n - (t + 1))).testBit (mv x u (sW s (kN r s t))) = true
        · left
          rw [if_pos (by unfold ac1; rw [c, d]; rfl)] at h3
          cases h3
          rw [if_pos d]
          exact ⟨_, rfl, rfl⟩
        · right
          rw [if_neg (by unfold ac1; rw [c]; simpa using d)] at h3
          rw [if_neg d]
          exact ⟨m, _, by omega, rfl, u + 1, by omega, rfl, h3⟩
      · right
        rw [if_neg (by unfold ac1; simp [c])] at h3
        have := hi_lt (r := r) (p := p) (k := kN r s t) (f := fg s t) (x := x) (a := u) (l := sW s (kN r s t))
        rw [if_neg (show ¬ nI _ = (0 : Int32) from fun q => c ((nI_eq (b := 0) (by omega) (by decide)).mp q))]
        exact ⟨m, _, by omega, rfl, u + 1, by omega, rfl, h3⟩)
  obtain ⟨b, e1, e2⟩ := L am_fu 7 (nI 0) (by decide) ⟨0, rfl, rfl, hff⟩
  subst e2
  exact e1
/-- acts along the way -/
def wat (r : sR) (s : sS) (p q n t : Nat) : Nat := wac r s p q n t (wps r s p q n t)
def hrs (r : sR) (s : sS) (p q : Nat) : Option Nat := ff (fun n => (it r s (sW s) p 0 (1 <<< sP s p) n).testBit q) 0 61
theorem n_findWay {h : am_H} {r : sR} {s : sS} {p q : Nat} (V : tV h r s) (hp : p < rP r) (hq : vSp (rG r) q) :
    ∃ h', f_Ahead_findWay (nI p) (nI q) h = some (oI (hrs r s p q), h') ∧ am_ex [87, 88] h h' ∧ ∀ n, hrs r s p q = some n → ∀ t, t < n → h'.2.1 88 t = nI (wat r s p q n t) := by
  have hP := V.hP
  have hG := V.hG
  have hsp := V.hsp hp
  have hq9 : q < 9 := by rcases hq with c | c <;> omega
  unfold f_Ahead_findWay
  rw [n_tHoursTo V hp hq9, Option.bind_some]
  unfold hrs
  cases hf : ff (fun n => (it r s (sW s) p 0 (1 <<< sP s p) n).testBit q) 0 61 with
  | none =>
    rw [oI_none, if_pos rfl]
    exact ⟨h, rfl, am_ex.rf, fun n hn => by cases hn⟩
  | some n =>
    obtain ⟨_, f2, f3, _⟩ := ff_some hf
    rw [oI_some, if_neg (nI_nm1 (by omega)), shl1 (by omega), n_wr (by omega) (by decide), Option.bind_some]
    have x1 : am_ex [87] h (am_sI h 87 n (nI (1 <<< q))) := am_ex.sI (by decide)
    have V1 := V.ex x1 (by decide)
    obtain ⟨y, h1, g1, g2, g3⟩ := n_fw28 (p2 := nI q) V1 hp hq (show n ≤ 60 by omega) (by rw [sI_row, if_pos rfl, up_s])
    have x2 := x1.tr g2 (Z := [87]) (fun _ z => z) (fun _ z => z)
    have V2 := V.ex x2 (by decide)
    obtain ⟨b, e1, e2, e3⟩ := lpc3 (fun k (a1 : Int32) (a2 : Int32) (a3 : am_H) => f_Ahead_findWay_L89 (nI p) (nI q) k (nI n) a1 a2 a3) n
      (fun t a1 a2 a3 => a1 = nI (wps r s p q n t) ∧ a2 = nI t ∧ am_ex [88] h1 a3 ∧ ∀ u, u < t → a3.2.1 88 u = nI (wat r s p q n u))
      (fun b => am_ex [88] h1 b.2.2 ∧ ∀ u, u < n → b.2.2.2.1 88 u = nI (wat r s p q n u))
      (fun k t a1 a2 a3 ht hI => by
        obtain ⟨i1, i2, i3, i4⟩ := hI
        try simp only at i1 i2 i3 i4
        subst i1 i2
        have V3 := V2.ex i3 (by decide)
        obtain ⟨w1, w2⟩ := wps_b V.1 V.vw hsp f3 t (by omega)
        have w9 : wps r s p q n t < 9 := by rcases w1 with c | c <;> omega
        obtain ⟨_, o2, o3, _⟩ := ff_some (wac_ff V.1 V.vw ht w1 w2)
        unfold ac1 at o3
        simp only [Bool.and_eq_true, decide_eq_true_eq] at o3
        obtain ⟨m1, m2, m3⟩ := hi_mv V.1 w1 (V.vw _ (kN_lt V.1 s t)) (by omega) o3.1
        have e : f_Ahead_firstActInto (nI (12 * p + 2 * ((sH s + t) % rW r) + fg s t)) (nI (wps r s p q n t)) (oI (sW s ((sH s + t) % rW r))) (nI (bw r s p q n (n - (t + 1)))) a3 = _ := n_fai V3 hp ht w1 hq w2
        have x3 : am_ex [88] h1 (am_sI a3 88 t (nI (wac r s p q n t (wps r s p q n t)))) := i3.tr (am_ex.sI (X := [88]) (by decide)) (fun _ z => z) (fun _ z => z)
        have V4 := V2.ex x3 (by decide)
        have em : f_River_moved (nI (wps r s p q n t)) (nI (wac r s p q n t (wps r s p q n t))) (oI (sW s ((sH s + t) % rW r))) (am_sI a3 88 t (nI (wac r s p q n t (wps r s p q n t)))) = _ := n_moved (G := rG r) w9 (by omega) m1 m2
        try simp only
        rw [f_Ahead_findWay_L89, if_neg (nI_ge ht (by omega)), n_rowIn V3 (by omega), Option.bind_some, n_liesIn V3 (by omega), Option.bind_some, nI_up, n_rd (by omega) (by decide), Option.bind_some, i3.2.2 87 (by decide), g3 (t + 1) (by omega), e, Option.bind_some, n_wr (by omega) (by decide), Option.bind_some, n_rd (by omega) (by decide), Option.bind_some, n_liesIn V4 (by omega), Option.bind_some, sI_row, if_pos rfl, up_s, em, Option.bind_some]
        refine ⟨_, _, _, rfl, rfl, rfl, x3, fun u hu => ?_⟩
        try simp only
        rw [sI_row, if_pos rfl]
        by_cases c : u = t
        · subst c; rw [up_s]; rfl
        · rw [up_n c]; exact i4 u (by omega))
      (fun k a1 a2 a3 hI => by
        obtain ⟨i1, i2, i3⟩ := hI
        try simp only at i1 i2 i3
        subst i1 i2
        try simp only
        rw [f_Ahead_findWay_L89, if_pos (nI_le (Nat.le_refl _) (by omega))]
        exact ⟨_, rfl, i3⟩) (by unfold am_fu; omega) (nI (sP s p)) 0 h1 ⟨rfl, rfl, am_ex.rf, fun u hu => by omega⟩
    have e1' : f_Ahead_findWay_L89 (nI p) (nI q) am_fu (nI n) (nI (sP s p)) 0 h1 = some b := e1
    rw [g1, Option.bind_some]
    try simp only
    rw [n_rd (by omega) (by decide), Option.bind_some, V2.sp hp, e1', Option.bind_some]
    refine ⟨_, rfl, x2.tr e2 (by decide) (by decide), fun m hm => ?_⟩
    cases hm
    exact e3
/-! the reference -/
theorem isSpot_t {h : am_H} {r : sR} {s : sS} {x : Nat} (V : mV (h.2.1 137) r s) (hx : x < 9) : f_Mod_isSpot (nI x).toInt64 h = some (decide (x = 8 ∨ x < 2 * rG r)) := by
  have hG := V.hG
  have e8 : (lg_cmp (nI x).toInt64 8 = 0) = (x = 8) := by
    rw [propext (lg_cmp_eq _ _), l_eq8]
    exact propext (nI_eq (by omega) (show (8 : Nat) < 2 ^ 31 by decide))
  have e2 : (2 : Int32) * nI (rG r) = nI (2 * rG r) := nI_mul 2 _
  unfold f_Mod_isSpot
  simp only [e8, rd_lit (show (1 : Nat) < 3411 by decide) (show 3411 < 2 ^ 31 by decide), Option.bind_some, V.g, e2]
  by_cases c : x = 8
  · rw [if_pos c]; simp [c]
  · rw [if_neg c]
    rcases n_win (x := nI x) (n := 2 * rG r) (h := h) (by omega) with ⟨k, hk, e, q⟩ | ⟨e, q⟩
    · have : x = k := (nI_eq (by omega) (by omega)).mp e
      rw [q]
      simp
      omega
    · rw [q]
      simp
      rcases e with e | e
      · exact absurd e (nI_pos (by omega))
      · have := (nI_leI (by omega) (by omega)).mp e
        omega
theorem or_0 (a : Nat) : nI a ||| (0 : Int32) = nI a := by
  have : nI a ||| nI 0 = nI (a ||| 0) := nI_or a 0
  rw [Nat.or_zero] at this
  exact this
/-- the spots from which one comes into a set -/
def prd (r : sR) (p k f : Nat) (l : Option Nat) (b x : Nat) : Bool := decide (x = 8 ∨ x < 2 * rG r) && decide ¬ (go r p k f l (1 <<< x) &&& b = 0)
theorem prd_ga {r : sR} {p k f b : Nat} {l : Option Nat} (hr : vR r) (hl : ∀ g, l = some g → g < rG r) (hb : vSet (rG r) b) : bts 9 (prd r p k f l b) = ga r p k f l b := by
  have hG := hr.1
  have hl4 : ∀ g, l = some g → g < 4 := fun g q => by have := hl g q; omega
  apply Nat.eq_of_testBit_eq
  intro x
  rw [bts_t]
  have hv := ga_v (p := p) (k := k) (f := f) hr hl hb x
  apply Bool.eq_iff_iff.mpr
  rw [Bool.and_eq_true, decide_eq_true_eq]
  unfold prd
  rw [Bool.and_eq_true, decide_eq_true_eq, decide_eq_true_eq]
  constructor
  · rintro ⟨h1, h2, h3⟩
    rw [ga_nx hl4]
    apply Classical.byContradiction
    intro hn
    apply h3
    apply Nat.eq_of_testBit_eq
    intro j
    rw [Nat.testBit_and, Nat.zero_testBit]
    cases hg : (go r p k f l (1 <<< x)).testBit j with
    | false => rfl
    | true =>
      rw [go_nx hl4] at hg
      obtain ⟨y, q1, q2⟩ := hg
      rw [Nat.one_shiftLeft, Nat.testBit_two_pow] at q1
      have : x = y := by simpa using q1
      subst this
      cases hbj : b.testBit j with
      | false => rfl
      | true => exact absurd ⟨j, hbj, q2⟩ hn
  · intro h
    have hx := hv h
    rw [ga_nx hl4] at h
    obtain ⟨j, q1, q2⟩ := h
    refine ⟨by rcases hx with c | c <;> omega, hx, fun h0 => ?_⟩
    have : (go r p k f l (1 <<< x) &&& b).testBit j = true := by
      rw [Nat.testBit_and, q1, Bool.and_true, go_nx hl4]
      exact ⟨x, by rw [Nat.one_shiftLeft, Nat.testBit_two_pow]; simp, q2⟩
    rw [h0, Nat.zero_testBit] at this
    cases this
theorem bts9 {n : Nat} {c : Nat → Bool} (hn : n ≤ 9) : bts n c < 512 := Nat.lt_of_lt_of_le (bts_lt n c) (Nat.pow_le_pow_right (by omega) (n := 2) (i := n) (j := 9) hn)
theorem n_lw44 {h : am_H} {r : sR} {s : sS} {p b t : Nat} {p2 v3 : Int32} (V : mV (h.2.1 137) r s) (M : mT p r h) (ht : t < 60) (hb : vSet (rG r) b) (h0 : h.2.1 147 t = 0) (h1 : h.2.1 147 (t + 1) = nI b) :
    ∃ y h', f_Mod_laysWay_L44 (nI p) p2 am_fu v3 (nI t) 0 h = some (y, h') ∧ am_ex [147] h h' ∧ h'.2.1 147 = va_up (h.2.1 147) t (nI (ga r p (kN r s t) (fg s t) (sW s (kN r s t)) b)) := by
  have hG := V.hG
  have hH := V.hH
  have hb5 := hb.lt hG.2
  obtain ⟨c, e1, e2, e3⟩ := lpc2 (fun k (a1 : Int32) (a2 : am_H) => f_Mod_laysWay_L44 (nI p) p2 k v3 (nI t) a1 a2) 9
    (fun x a1 a2 => a1 = nI x ∧ am_ex [147] h a2 ∧ a2.2.1 147 = va_up (h.2.1 147) t (nI (bts x (prd r p (kN r s t) (fg s t) (sW s (kN r s t)) b))))
    (fun c => am_ex [147] h c.2 ∧ c.2.2.1 147 = va_up (h.2.1 147) t (nI (bts 9 (prd r p (kN r s t) (fg s t) (sW s (kN r s t)) b))))
    (fun k x a1 a2 hx hI => by
      obtain ⟨i1, i2, i3⟩ := hI
      try simp only at i1 i2 i3
      subst i1
      have V2 := V.ex i2 (by decide)
      have M2 := M.cg (fun a q1 q2 => i2.2.2 a (by simp; omega))
      have hbx := bts9 (n := x) (c := prd r p (kN r s t) (fg s t) (sW s (kN r s t)) b) (by omega)
      try simp only
      rw [f_Mod_laysWay_L44, if_neg (show ¬ (9 : Int32) ≤ nI x from nI_ge (b := 9) hx (by decide)), isSpot_t V2 hx, Option.bind_some, nI_up]
      by_cases c : x = 8 ∨ x < 2 * rG r
      · have e12 : 1 <<< x < 512 := (one_v (G := rG r) c).lt hG.2
        have eg : f_Mod_goesOn (nI (1 <<< x)) (nI (sH s) + nI t) (nI (fg s t)) a2 = some (nI (go r p (kN r s t) (fg s t) (sW s (kN r s t)) (1 <<< x))) := by rw [nI_add]; exact n_goesOn V2 M2 e12 (by omega) (fg_lt _ _)
        have hgl : go r p (kN r s t) (fg s t) (sW s (kN r s t)) (1 <<< x) < 512 := (go_v V.1 (V.vw _ (kN_lt V.1 s t)) (one_v c)).lt hG.2
        rw [if_pos (by simpa using c), rd_lit (by decide) (by decide), Option.bind_some, V2.ho, n_fogIn V2 (by omega), Option.bind_some, shl1 (by omega), eg, Option.bind_some, nI_up, n_rd (by omega) (by decide), Option.bind_some, i3, up_n (by omega), h1]
        have hz : (nI (go r p (kN r s t) (fg s t) (sW s (kN r s t)) (1 <<< x)) &&& nI b = 0) = (go r p (kN r s t) (fg s t) (sW s (kN r s t)) (1 <<< x) &&& b = 0) := nI_and0 (by exact Nat.lt_trans hgl (by decide))
        simp only [hz]
        by_cases d : go r p (kN r s t) (fg s t) (sW s (kN r s t)) (1 <<< x) &&& b = 0
        · rw [if_pos d]
          refine ⟨_, _, rfl, rfl, i2, ?_⟩
          try simp only
          rw [i3, bts_s, if_neg (by unfold prd; simp [d]), Nat.or_zero]
        · rw [if_neg d, n_rd (by omega) (by decide), Option.bind_some, up_s, nI_or, n_wr (by omega) (by decide), Option.bind_some]
          refine ⟨_, _, rfl, rfl, i2.tr (am_ex.sI (X := [147]) (by decide)) (fun _ z => z) (fun _ z => z), ?_⟩
          try simp only
          rw [sI_row, if_pos rfl, i3, up_up, bts_s, if_pos (by unfold prd; simp [c, d])]
      · rw [if_neg (by simpa using c)]
        refine ⟨_, _, rfl, nI_up, i2, ?_⟩
        try simp only
        rw [i3, bts_s, if_neg (by unfold prd; simp [c]), Nat.or_zero])
    (fun k a1 a2 hI => by
      obtain ⟨i1, i2⟩ := hI
      try simp only at i1 i2
      subst i1
      try simp only
      rw [f_Mod_laysWay_L44, if_pos (show (9 : Int32) ≤ nI 9 by decide)]
      exact ⟨_, rfl, i2⟩) (by decide) 0 h ⟨rfl, am_ex.rf, by
        have : nI 0 = h.2.1 147 t := h0.symm
        simp only [bts]
        rw [this, up_id]⟩
  obtain ⟨c1, c2⟩ := c
  refine ⟨c1, c2, e1, e2, ?_⟩
  rw [← prd_ga V.1 (V.vw _ (kN_lt V.1 s t)) hb]
  exact e3
theorem n_lw28 {h : am_H} {r : sR} {s : sS} {p q n : Nat} {p2 : Int32} (V : mV (h.2.1 137) r s) (M : mT p r h) (hq : vSp (rG r) q) (hn : n ≤ 60) (h0 : h.2.1 147 n = nI (1 <<< q)) :
    ∃ y h', f_Mod_laysWay_L28 (nI p) p2 am_fu (nI n) (nI n - 1) h = some (y, h') ∧ am_ex [147] h h' ∧ ∀ t, t ≤ n → h'.2.1 147 t = nI (bw r s p q n (n - t)) := by
  have L := lq2 (fun k (a1 : Int32) (a2 : am_H) => f_Mod_laysWay_L28 (nI p) p2 k (nI n) a1 a2)
    (fun m a1 a2 => am_ex [147] h a2 ∧ m ≤ n ∧ (∀ t, m ≤ t → t ≤ n → a2.2.1 147 t = nI (bw r s p q n (n - t))) ∧ (m = 0 ∧ a1 = -1 ∨ 0 < m ∧ a1 = nI (m - 1)))
    (fun b => am_ex [147] h b.2 ∧ ∀ t, t ≤ n → b.2.2.1 147 t = nI (bw r s p q n (n - t)))
    (fun k m a1 a2 hI => by
      obtain ⟨i1, i2, i3, i4⟩ := hI
      try simp only at i1 i3 i4
      rcases i4 with ⟨rfl, rfl⟩ | ⟨hm, rfl⟩
      · left
        try simp only
        rw [f_Mod_laysWay_L28, if_pos (by decide)]
        exact ⟨_, rfl, i1, fun t ht => i3 t (by omega) ht⟩
      · right
        have x1 : am_ex [147] h (am_sI a2 147 (m - 1) 0) := i1.tr (am_ex.sI (X := [147]) (by decide)) (fun _ z => z) (fun _ z => z)
        have V2 := V.ex x1 (by decide)
        have M2 := M.cg (fun a q1 q2 => x1.2.2 a (by simp; omega))
        obtain ⟨y, h2, g1, g2, g3⟩ := n_lw44 (t := m - 1) (p2 := p2) (v3 := nI n) V2 M2 (by omega) (bw_v (p := p) (n := n) V.1 V.vw hq (n - m)) (by rw [sI_row, if_pos rfl, up_s]) (by rw [sI_row, if_pos rfl, up_n (by omega), show m - 1 + 1 = m by omega]; exact i3 m (by omega) (by omega))
        try simp only
        rw [f_Mod_laysWay_L28, if_neg (nI_pos (by omega)), n_wr (by omega) (by decide), Option.bind_some, g1, Option.bind_some]
        refine ⟨m - 1, _, _, by omega, rfl, x1.tr g2 (fun _ z => z) (fun _ z => z), by omega, fun t ht1 ht2 => ?_, ?_⟩
        · try simp only
          rw [g3]
          by_cases c : t = m - 1
          · subst c
            rw [up_s, show n - (m - 1) = (n - m) + 1 by omega, bw, show n - (n - m + 1) = m - 1 by omega]
          · rw [up_n c, sI_row, if_pos rfl, up_n c]; exact i3 t (by omega) ht2
        · try simp only
          by_cases c : m = 1
          · subst c; exact .inl ⟨rfl, rfl⟩
          · exact .inr ⟨by omega, nI_m1 (by omega)⟩)
  obtain ⟨b, e1, e2, e3⟩ := L am_fu n (nI n - 1) h (by unfold am_fu; omega) ⟨am_ex.rf, Nat.le_refl _, fun t h1 h2 => by
      have : t = n := by omega
      subst this
      rw [Nat.sub_self]
      exact h0, by
      by_cases c : n = 0
      · subst c; exact .inl ⟨rfl, rfl⟩
      · exact .inr ⟨by omega, nI_sub (b := 1) (by omega)⟩⟩
  obtain ⟨b1, b2⟩ := b
  exact ⟨b1, b2, e1, e2, e3⟩
theorem hi_blk {r : sR} {p k f x a : Nat} {l : Option Nat} (ha : a ≤ 6) (h0 : hi r p k f x a l = 0) : blk (rG r) x a l = false := by
  by_cases t0 : a = 0
  · subst t0; rfl
  · rw [hi_eq ha t0] at h0
    cases hq : blk (rG r) x a l with
    | false => rfl
    | true => rw [hq, if_tt] at h0; cases h0
theorem n_leads' {h : am_H} {r : sR} {s : sS} {p k f x act : Nat} {l : Option Nat} (V : mV (h.2.1 137) r s) (hx : vSp (rG r) x) (hl : ∀ g, l = some g → g < rG r) (ha : act ≤ 6) (h0 : hi r p k f x act l = 0) : f_Mod_leads (nI x) (nI act) (oI l) h = some (nI (mv x act l)) := by
  have := n_leads V hx hl ha
  rw [hi_blk ha h0, if_ff] at this
  exact this
theorem n_lw147 {h : am_H} {r : sR} {s : sS} {p q n t x : Nat} {p2 v3 : Int32} (V : mV (h.2.1 137) r s) (hp : p < rP r) (ht : t < n) (hn : n ≤ 60) (hx : vSp (rG r) x) (hq : vSp (rG r) q) (hb : (bw r s p q n (n - t)).testBit x = true) (h0 : h.2.1 147 (t + 1) = nI (bw r s p q n (n - (t + 1)))) :
    ∃ h', f_Mod_laysWay_L147 (nI p) p2 am_fu v3 (nI x) (nI t) 0 h = some (nI (wac r s p q n t x), h') ∧ am_ex [141, 142] h h' := by
  have hG := V.hG
  have hH := V.hH
  have hk := kN_lt V.1 s t
  have hff := wac_ff V.1 V.vw ht hx hb
  have hs : bw r s p q n (n - (t + 1)) < 512 := (bw_v V.1 V.vw hq _).lt hG.2
  generalize hw : wac r s p q n t x = w at hff ⊢
  have L := lq2 (fun k (a1 : Int32) (a2 : am_H) => f_Mod_laysWay_L147 (nI p) p2 k v3 (nI x) (nI t) a1 a2)
    (fun m a1 a2 => am_ex [141, 142] h a2 ∧ ∃ u, m + u = 7 ∧ a1 = nI u ∧ ff (ac1 r s p q n t x) u m = some w)
    (fun b => b.1 = nI w ∧ am_ex [141, 142] h b.2)
    (fun k m a1 a2 hI => by
      obtain ⟨i1, u, h1, h2, h3⟩ := hI
      try simp only at i1 h2
      subst h2
      have V2 := V.ex i1 (by decide)
      obtain ⟨m, rfl⟩ : ∃ m', m = m' + 1 := ⟨m - 1, by
        have : m ≠ 0 := fun c => by subst c; cases h3
        omega⟩
      obtain ⟨h4, g1, g2⟩ := n_whyAct (act := u) (t := sH s + t) (f := fg s t) V2 hp hx (by omega) (by omega) (fg_lt _ _)
      have V3 := V2.ex g2 (by decide)
      have x3 := i1.tr g2 (Z := [141, 142]) (fun _ z => z) (fun _ z => z)
      have g1' : f_Mod_whyAct (nI p) (nI x) (nI u) (nI (sH s) + nI t) (nI (fg s t)) a2 = some (nI (hi r p (kN r s t) (fg s t) x u (sW s (kN r s t))), h4) := by rw [nI_add]; exact g1
      try simp only
      rw [f_Mod_laysWay_L147, rd_lit (by decide) (by decide), Option.bind_some, V2.ho, n_fogIn V2 (by omega), Option.bind_some, g1', Option.bind_some, nI_up]
      try simp only
      rw [ff] at h3
      by_cases c : hi r p (kN r s t) (fg s t) x u (sW s (kN r s t)) = 0
      · obtain ⟨m1, m2, m3⟩ := hi_mv V.1 hx (V.vw _ hk) (show u ≤ 6 by omega) c
        have m9 : mv x u (sW s (kN r s t)) < 9 := by rcases m3 with c | c <;> omega
        have hl : f_Mod_leads (nI x) (nI u) (oI (sW s ((sH s + t) % rW r))) h4 = _ := n_leads' V3 hx (V.vw _ hk) (by omega) c
        rw [c, if_pos (show nI 0 = 0 from rfl), nI_up, n_rd (by omega) (by decide), Option.bind_some, x3.2.2 147 (by decide), h0, rd_lit (by decide) (by decide), Option.bind_some, V3.ho, nI_add, n_spanIn V3 (by omega), Option.bind_some, hl, Option.bind_some]
        have hi : f_Mod_isIn (nI (bw r s p q n (n - (t + 1)))).toInt64 (nI (mv x u (sW s ((sH s + t) % rW r)))) h4 = some ((bw r s p q n (n - (t + 1))).testBit (mv x u (sW s (kN r s t)))) := n_isIn (by omega) (by exact Nat.lt_trans m9 (by decide))
        rw [hi, Option.bind_some]
        by_cases d : (bw r s p q n (n - (t + 1))).testBit (mv x u (sW s (kN r s t))) = true
        · left
          rw [if_pos (by unfold ac1; rw [c, d]; rfl)] at h3
          cases h3
          rw [if_pos d]
          exact ⟨_, rfl, rfl, x3⟩
        · right
          rw [if_neg (by unfold ac1; rw [c]; simpa using d)] at h3
          rw [if_neg d]
          exact ⟨m, _, _, by omega, rfl, x3, u + 1, by omega, rfl, h3⟩
      · right
        rw [if_neg (by unfold ac1; simp [c])] at h3
        have := hi_lt (r := r) (p := p) (k := kN r s t) (f := fg s t) (x := x) (a := u) (l := sW s (kN r s t))
        rw [if_neg (show ¬ nI _ = (0 : Int32) from fun q => c ((nI_eq (b := 0) (by omega) (by decide)).mp q))]
        exact ⟨m, _, _, by omega, rfl, x3, u + 1, by omega, nI_up, h3⟩)
  obtain ⟨b, e1, e2, e3⟩ := L am_fu 7 (nI 0) h (by decide) ⟨am_ex.rf, 0, rfl, rfl, hff⟩
  obtain ⟨b1, b2⟩ := b
  try simp only at e2
  subst e2
  exact ⟨b2, e1, e3⟩
theorem n_laysWay {h : am_H} {r : sR} {s : sS} {p q : Nat} (V : mV (h.2.1 137) r s) (hp : p < rP r) (hq : vSp (rG r) q) :
    ∃ h', f_Mod_laysWay (nI p) (nI q) h = some (oI (hrs r s p q), h') ∧ am_ex [141, 142, 144, 145, 146, 147, 148] h h' ∧ ∀ n, hrs r s p q = some n → ∀ t, t < n → h'.2.1 148 t = nI (wat r s p q n t) := by
  have hP := V.hP
  have hG := V.hG
  have hH := V.hH
  have hsp := V.hsp hp
  have hq9 : q < 9 := by rcases hq with c | c <;> omega
  obtain ⟨h0, a1, a2, a3⟩ := n_soonestOf V hp (show q < 32 by omega)
  unfold f_Mod_laysWay
  rw [a1, Option.bind_some]
  unfold hrs
  try simp only
  cases hf : ff (fun n => (it r s (sW s) p 0 (1 <<< sP s p) n).testBit q) 0 61 with
  | none =>
    rw [oI_none, if_pos rfl]
    exact ⟨h0, rfl, a2.tr am_ex.rf (Y := []) (by decide) (by decide), fun n hn => by cases hn⟩
  | some n =>
    obtain ⟨_, f2, f3, _⟩ := ff_some hf
    rw [oI_some, if_neg (nI_nm1 (by omega)), shl1 (by omega), n_wr (by omega) (by decide), Option.bind_some]
    have x1 : am_ex [141, 142, 144, 145, 146, 147] h (am_sI h0 147 n (nI (1 <<< q))) := a2.tr (am_ex.sI (X := [147]) (by decide)) (by decide) (by decide)
    have V1 := V.ex x1 (by decide)
    have M1 : mT p r (am_sI h0 147 n (nI (1 <<< q))) := a3.cg (fun a q1 q2 => by rw [sI_row, if_neg (by omega)])
    obtain ⟨y, h1, g1, g2, g3⟩ := n_lw28 (p2 := nI q) V1 M1 hq (show n ≤ 60 by omega) (by rw [sI_row, if_pos rfl, up_s])
    have x2 := x1.tr g2 (Z := [141, 142, 144, 145, 146, 147]) (fun _ z => z) (by decide)
    have V2 := V.ex x2 (by decide)
    obtain ⟨b, e1, e2, e3⟩ := lpc3 (fun k (a1 : Int32) (a2 : Int32) (a3 : am_H) => f_Mod_laysWay_L138 (nI p) (nI q) k (nI n) a1 a2 a3) n
      (fun t a1 a2 a3 => a1 = nI (wps r s p q n t) ∧ a2 = nI t ∧ am_ex [141, 142, 148] h1 a3 ∧ ∀ u, u < t → a3.2.1 148 u = nI (wat r s p q n u))
      (fun b => am_ex [141, 142, 148] h1 b.2.2 ∧ ∀ u, u < n → b.2.2.2.1 148 u = nI (wat r s p q n u))
      (fun k t a1 a2 a3 ht hI => by
        obtain ⟨i1, i2, i3, i4⟩ := hI
        try simp only at i1 i2 i3 i4
        subst i1 i2
        have V3 := V2.ex i3 (by decide)
        obtain ⟨w1, w2⟩ := wps_b V.1 V.vw hsp f3 t (by omega)
        have w9 : wps r s p q n t < 9 := by rcases w1 with c | c <;> omega
        obtain ⟨_, o2, o3, _⟩ := ff_some (wac_ff V.1 V.vw ht w1 w2)
        unfold ac1 at o3
        simp only [Bool.and_eq_true, decide_eq_true_eq] at o3
        obtain ⟨h4, c1, c2⟩ := n_lw147 (p2 := nI q) (v3 := nI n) V3 hp ht (by omega) w1 hq w2 (by rw [i3.2.2 147 (by decide)]; exact g3 (t + 1) (by omega))
        have x3 : am_ex [141, 142, 148] h1 (am_sI h4 148 t (nI (wac r s p q n t (wps r s p q n t)))) := (i3.tr c2 (Z := [141, 142, 148]) (fun _ z => z) (by decide)).tr (am_ex.sI (X := [148]) (by decide)) (fun _ z => z) (by decide)
        have V4 := V2.ex x3 (by decide)
        have em : f_Mod_leads (nI (wps r s p q n t)) (nI (wac r s p q n t (wps r s p q n t))) (oI (sW s ((sH s + t) % rW r))) (am_sI h4 148 t (nI (wac r s p q n t (wps r s p q n t)))) = _ := n_leads' V4 w1 (V.vw _ (kN_lt V.1 s t)) (by omega) o3.1
        try simp only
        rw [f_Mod_laysWay_L138, if_neg (nI_ge ht (by omega)), c1, Option.bind_some]
        try simp only
        rw [n_wr (by omega) (by decide), Option.bind_some, rd_lit (by decide) (by decide), Option.bind_some, V4.ho, nI_add, n_spanIn V4 (by omega), Option.bind_some, em, Option.bind_some, nI_up]
        refine ⟨_, _, _, rfl, rfl, rfl, x3, fun u hu => ?_⟩
        try simp only
        rw [sI_row, if_pos rfl]
        by_cases c : u = t
        · subst c; rw [up_s]; rfl
        · rw [up_n c, c2.2.2 148 (by decide)]; exact i4 u (by omega))
      (fun k a1 a2 a3 hI => by
        obtain ⟨i1, i2, i3⟩ := hI
        try simp only at i1 i2 i3
        subst i1 i2
        try simp only
        rw [f_Mod_laysWay_L138, if_pos (nI_le (Nat.le_refl _) (by omega))]
        exact ⟨_, rfl, i3⟩) (by unfold am_fu; omega) (nI (sP s p)) 0 h1 ⟨rfl, rfl, am_ex.rf, fun u hu => by omega⟩
    have e1' : f_Mod_laysWay_L138 (nI p) (nI q) am_fu (nI n) (nI (sP s p)) 0 h1 = some b := e1
    have e35 : (35 : Int32) + nI p = nI (35 + p) := nI_add 35 p
    rw [g1, Option.bind_some]
    try simp only
    rw [e35, n_rd (by omega) (by decide), Option.bind_some, V2.sp hp, e1', Option.bind_some]
    refine ⟨_, rfl, x2.tr e2 (by decide) (by decide), fun m hm => ?_⟩
    cases hm
    exact e3
theorem hrs_le {r : sR} {s : sS} {p q n : Nat} (h : hrs r s p q = some n) : n ≤ 60 := by
  have := (ff_some h).2.1
  omega
theorem neg_le {x : Int32} (h : 0 ≤ x) : (-1 : Int32) ≤ x := Int32.le_trans (by decide) h
theorem pos_nI {x : Int32} (h : 0 ≤ x) : ∃ k, k < 2 ^ 31 ∧ x = nI k := by
  refine ⟨x.toInt.toNat, ?_, ?_⟩
  · have := Int32.toInt_lt x
    omega
  · have h2 : (0 : Int32).toInt ≤ x.toInt := Int32.le_iff_toInt_le.mp h
    have : (0 : Int32).toInt = 0 := by decide
    apply Int32.toInt_inj.mp
    have := Int32.toInt_lt x
    rw [nI_toInt (by omega)]
    omega
theorem ok_way (b : Nat) (hb : b ≤ 90000) (x y z : Int32) : ok2 b (f_Top_way x y z) (f_Mod_way x y z) := by
  refine ok2_of (fun g h v T M0 => ?_)
  have TV := T.tV v (by omega)
  have hP := TV.hP
  have hG := TV.hG
  unfold f_Top_way f_Mod_way
  simp only [am_let]
  rcases per2 TV x with ⟨p, hp, rfl, e1, e2⟩ | ⟨e1, e2⟩
  · rw [e1, Option.bind_some, if_tt]
    rcases spt2 TV (s0M M0 v hb).2 y with ⟨q, hq, rfl, e3, e4⟩ | ⟨e3, e4⟩
    · rw [e3, Option.bind_some, if_tt]
      by_cases c : 0 ≤ z
      · obtain ⟨h1, a1, a2, a3⟩ := n_findWay TV hp hq
        rw [if_pos c, a1, Option.bind_some]
        try simp only
        obtain ⟨k, hk, rfl⟩ := pos_nI c
        cases hh : hrs g.1.1 g.1.2.1 p q with
        | none =>
          rw [oI_none, if_pos (neg_le c)]
          refine ⟨_, ⟨h1, rfl, a2.keT (by unfold scr; simp)⟩, fun h' M _ => ?_⟩
          obtain ⟨k0, MV⟩ := s0M M v hb
          obtain ⟨h2, c1, c2, c3⟩ := n_laysWay MV hp hq
          rw [e2 MV, Option.bind_some, if_tt, e4 MV, Option.bind_some, if_tt, if_pos c, c1, Option.bind_some]
          try simp only
          rw [hh, oI_none, if_pos (neg_le c)]
          exact ⟨_, rfl, k0.tr (c2.keM (by decide))⟩
        | some n =>
          have hn := hrs_le hh
          rw [oI_some]
          by_cases d : n ≤ k
          · rw [if_pos (nI_le d hk)]
            refine ⟨_, ⟨h1, rfl, a2.keT (by unfold scr; simp)⟩, fun h' M _ => ?_⟩
            obtain ⟨k0, MV⟩ := s0M M v hb
            obtain ⟨h2, c1, c2, c3⟩ := n_laysWay MV hp hq
            rw [e2 MV, Option.bind_some, if_tt, e4 MV, Option.bind_some, if_tt, if_pos c, c1, Option.bind_some]
            try simp only
            rw [hh, oI_some, if_pos (nI_le d hk)]
            exact ⟨_, rfl, k0.tr (c2.keM (by decide))⟩
          · have ea : f_Ahead_actAt (nI k) h1 = some (nI (wat g.1.1 g.1.2.1 p q n k)) := by
              unfold f_Ahead_actAt
              rw [if_neg (nI_pos (by omega)), if_neg (show ¬ Int32.ofNat 60 ≤ nI k from nI_ge (b := 60) (by omega) (by omega)), n_rd (by omega) (by decide), Option.bind_some, a3 n hh k (by omega)]
            rw [if_neg (nI_ge (by omega) (by omega)), ea, Option.bind_some]
            refine ⟨_, ⟨h1, rfl, a2.keT (by unfold scr; simp)⟩, fun h' M _ => ?_⟩
            obtain ⟨k0, MV⟩ := s0M M v hb
            obtain ⟨h2, c1, c2, c3⟩ := n_laysWay MV hp hq
            rw [e2 MV, Option.bind_some, if_tt, e4 MV, Option.bind_some, if_tt, if_pos c, c1, Option.bind_some]
            try simp only
            rw [hh, oI_some, if_neg (nI_ge (by omega) (by omega)), n_rd (by omega) (by decide), Option.bind_some, c3 n hh k (by omega)]
            exact ⟨_, rfl, k0.tr (c2.keM (by decide))⟩
      · rw [if_neg c]
        refine ⟨_, ⟨h, rfl, keT.rf⟩, fun h' M _ => ?_⟩
        obtain ⟨k0, MV⟩ := s0M M v hb
        rw [e2 MV, Option.bind_some, if_tt, e4 MV, Option.bind_some, if_tt, if_neg c]
        exact ⟨_, rfl, k0⟩
    · rw [e3, Option.bind_some, if_ff]
      refine ⟨_, ⟨h, rfl, keT.rf⟩, fun h' M _ => ?_⟩
      obtain ⟨k0, MV⟩ := s0M M v hb
      rw [e2 MV, Option.bind_some, if_tt, e4 MV, Option.bind_some, if_ff]
      exact ⟨_, rfl, k0⟩
  · rw [e1, Option.bind_some, if_ff]
    refine ⟨_, ⟨h, rfl, keT.rf⟩, fun h' M _ => ?_⟩
    obtain ⟨k0, MV⟩ := s0M M v hb
    rw [e2 MV, Option.bind_some, if_ff]
    exact ⟨_, rfl, k0⟩
