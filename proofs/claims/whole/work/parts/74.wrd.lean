-- deps: 31.law 32.nat 33.bit 34.spec 35.riv 36.let 37.mod 38.mod 39.it 40.ahead 41.rel 42.ask 43.why 44.meet 45.err 46.err 47.wk
/-! ===== the words of a text ===== -/
def isL (b : Nat) : Bool := decide (97 ≤ b ∧ b ≤ 122)
def isD (b : Nat) : Bool := decide (48 ≤ b ∧ b ≤ 57)
def isW (b : Nat) : Bool := decide (b = 10 ∨ b = 32)
/-- the first place from k on where it fails, at most m further -/
def sk (c : Nat → Bool) : Nat → Nat → Nat
  | 0, k => k
  | m + 1, k => if c k then sk c m (k + 1) else k
theorem sk_ge {c : Nat → Bool} : ∀ (m k : Nat), k ≤ sk c m k
  | 0, k => Nat.le_refl _
  | m + 1, k => by
    unfold sk
    split
    · exact Nat.le_trans (Nat.le_succ _) (sk_ge m (k + 1))
    · exact Nat.le_refl _
theorem sk_le {c : Nat → Bool} : ∀ (m k : Nat), sk c m k ≤ k + m
  | 0, k => Nat.le_refl _
  | m + 1, k => by
    unfold sk
    split
    · have := sk_le (c := c) m (k + 1); omega
    · omega
theorem sk_all {c : Nat → Bool} : ∀ (m k i : Nat), k ≤ i → i < sk c m k → c i = true
  | 0, k, i, h1, h2 => by unfold sk at h2; omega
  | m + 1, k, i, h1, h2 => by
    unfold sk at h2
    by_cases d : c k
    · rw [if_pos d] at h2
      by_cases e : i = k
      · rw [e]; exact d
      · exact sk_all m (k + 1) i (by omega) h2
    · rw [if_neg d] at h2; omega
theorem sk_end {c : Nat → Bool} : ∀ (m k : Nat), sk c m k < k + m → c (sk c m k) = false
  | 0, k, h => by unfold sk at h; omega
  | m + 1, k, h => by
    unfold sk at h ⊢
    by_cases d : c k
    · rw [if_pos d] at h ⊢
      exact sk_end m (k + 1) (by omega)
    · rw [if_neg d] at h ⊢
      simpa using d
/-- it is the only such place -/
theorem sk_eq {c : Nat → Bool} {m k e : Nat} (h1 : k ≤ e) (h2 : e ≤ k + m) (h3 : ∀ i, k ≤ i → i < e → c i = true) (h4 : e < k + m → c e = false) : sk c m k = e := by
  rcases Nat.lt_trichotomy (sk c m k) e with d | d | d
  · have := sk_end m k (c := c) (by omega)
    rw [h3 _ (sk_ge m k) d] at this
    cases this
  · exact d
  · have := sk_le (c := c) m k
    have a := sk_all (c := c) m k e h1 d
    rw [h4 (by omega)] at a
    cases a
/-- the chars of a text's constant up to a space -/
def wdf (o : Nat) : Nat → Nat → List Int32
  | 0, _ => []
  | m + 1, a => if am_sb o a = 32 then [] else am_sb o a :: wdf o m (a + 1)
def wd (o a : Nat) : List Int32 := wdf o (am_sl o - a) a
def wl (B : Nat → Nat) (s : Nat) : Nat → List Int32
  | 0 => []
  | m + 1 => nI (B s) :: wl B (s + 1) m
def wmt (o a : Nat) (B : Nat → Nat) (s m : Nat) : Prop := a + m < am_sl o ∧ am_sb o (a + m) = 32 ∧ ∀ j, j < m → am_sb o (a + j) = nI (B (s + j))
theorem wd_nil {o a : Nat} (ha : a < am_sl o) (h : am_sb o a = 32) : wd o a = [] := by
  unfold wd
  obtain ⟨m, hm⟩ : ∃ m, am_sl o - a = m + 1 := ⟨am_sl o - a - 1, by omega⟩
  rw [hm, wdf, if_pos h]
theorem wd_cons {o a : Nat} (ha : a < am_sl o) (h : ¬ am_sb o a = 32) : wd o a = am_sb o a :: wd o (a + 1) := by
  unfold wd
  obtain ⟨m, hm⟩ : ∃ m, am_sl o - a = m + 1 := ⟨am_sl o - a - 1, by omega⟩
  rw [hm, wdf, if_neg h, show am_sl o - (a + 1) = m by omega]
theorem wd_iff {o : Nat} {B : Nat → Nat} (hz : am_sb o (am_sl o - 1) = 32) : ∀ (m s a : Nat), a < am_sl o → (∀ j, j < m → ¬ nI (B (s + j)) = 32) → (wl B s m = wd o a ↔ wmt o a B s m)
  | 0, s, a, ha, hb => by
    unfold wmt
    by_cases c : am_sb o a = 32
    · rw [wd_nil ha c]
      exact ⟨fun _ => ⟨ha, c, fun j hj => by omega⟩, fun _ => rfl⟩
    · rw [wd_cons ha c]
      exact ⟨fun e => (by cases e), fun e => absurd e.2.1 c⟩
  | m + 1, s, a, ha, hb => by
    have h0 := hb 0 (by omega)
    by_cases c : am_sb o a = 32
    · rw [wd_nil ha c]
      refine ⟨fun e => (by cases e), fun e => ?_⟩
      have e1 := e.2.2 0 (by omega)
      rw [Nat.add_zero, c] at e1
      exact absurd e1.symm h0
    · have ha1 : a + 1 < am_sl o := by
        apply Classical.byContradiction
        intro q
        apply c
        rw [show a = am_sl o - 1 by omega]
        exact hz
      have ih := wd_iff hz m (s + 1) (a + 1) ha1 (fun j hj => by
        have := hb (j + 1) (by omega)
        rwa [show s + (j + 1) = s + 1 + j by omega] at this)
      rw [wd_cons ha c, wl, List.cons.injEq, ih]
      unfold wmt
      rw [show a + 1 + m = a + (m + 1) by omega]
      constructor
      · rintro ⟨e1, e2, e3, e4⟩
        refine ⟨e2, e3, fun j hj => ?_⟩
        cases j with
        | zero => exact e1.symm
        | succ j =>
          have := e4 j (by omega)
          rwa [show a + 1 + j = a + (j + 1) by omega, show s + 1 + j = s + (j + 1) by omega] at this
      · rintro ⟨e2, e3, e4⟩
        refine ⟨(e4 0 (by omega)).symm, e2, e3, fun j hj => ?_⟩
        have := e4 (j + 1) (by omega)
        rwa [show a + (j + 1) = a + 1 + j by omega, show s + (j + 1) = s + 1 + j by omega] at this
def look (L : List Int32) : List (List Int32 × Nat) → Nat → Nat
  | [], d => d
  | (w, c) :: r, d => if L = w then c else look L r d
/-- the class's words; the reference's -/
def tbC : Nat → Nat → Nat → List (List Int32 × Nat)
  | 0, _, _ => []
  | c + 1, i, k => if am_sb 1 i = 32 then (wd 1 (i + 1), k) :: tbC c (i + 1) (k + 1) else tbC c (i + 1) k
def tbM : Nat → Nat → Nat → List (List Int32 × Nat)
  | 0, _, _ => []
  | c + 1, v, k => if am_sl 2 ≤ v then [] else (wd 2 v, k) :: tbM c (v + (wd 2 v).length + 1) (k + 1)
def rk (k : Nat) : Nat := ([(0, 24), (1, 25), (2, 23), (3, 22), (101, 0), (102, 1), (103, 2), (104, 3), (105, 4), (106, 5), (107, 6), (108, 7), (109, 8), (110, 9), (111, 10), (112, 11), (113, 12), (114, 13), (115, 14), (116, 20), (117, 19), (118, 21), (119, 15), (120, 16), (121, 17), (122, 18), (59, 30), (58, 31), (43, 32), (45, 33), (42, 34), (40, 35), (41, 36), (91, 37), (93, 38), (61, 39), (60, 40), (62, 41)].lookup k).getD 25
def kds : List Nat := [0, 1, 2, 3, 101, 102, 103, 104, 105, 106, 107, 108, 109, 110, 111, 112, 113, 114, 115, 116, 117, 118, 119, 120, 121, 122, 59, 58, 43, 45, 42, 40, 41, 91, 93, 61, 60, 62]
theorem rk_inj : ∀ a ∈ kds, ∀ b ∈ kds, rk a = rk b → a = b := by decide +kernel
theorem rk_lt : ∀ a ∈ kds, a < 123 ∧ rk a < 42 := by decide +kernel
theorem tb_map : (tbC (am_sl 1 - 1) 0 101).all (fun q => decide ((tbM 30 1 0).find? (fun q' => decide (q'.1 = q.1)) = some (q.1, rk q.2)) && decide (q.2 ∈ kds)) = true ∧ (tbM 30 1 0).all (fun q => (tbC (am_sl 1 - 1) 0 101).any (fun q' => decide (q'.1 = q.1))) = true := by decide +kernel
theorem look_find {L : List Int32} : ∀ (T : List (List Int32 × Nat)) (d : Nat), look L T d = ((T.find? (fun q => decide (q.1 = L))).map (·.2)).getD d
  | [], d => rfl
  | (w, c) :: r, d => by
    unfold look
    by_cases e : L = w
    · rw [if_pos e, List.find?_cons_of_pos (by simp [e])]
      rfl
    · rw [if_neg e, List.find?_cons_of_neg (by simp; exact fun q => e q.symm), look_find r d]
theorem look_map (L : List Int32) : look L (tbM 30 1 0) 22 = rk (look L (tbC (am_sl 1 - 1) 0 101) 3) ∧ look L (tbC (am_sl 1 - 1) 0 101) 3 ∈ kds := by
  rw [look_find, look_find]
  cases h : (tbC (am_sl 1 - 1) 0 101).find? (fun q => decide (q.1 = L)) with
  | some q =>
    have hm := List.mem_of_find?_eq_some h
    have hp := List.find?_some h
    have := List.all_eq_true.mp tb_map.1 q hm
    simp only [Bool.and_eq_true, decide_eq_true_eq] at this hp
    rw [hp] at this
    rw [this.1]
    exact ⟨rfl, this.2⟩
  | none =>
    have hn := List.find?_eq_none.mp h
    have : (tbM 30 1 0).find? (fun q => decide (q.1 = L)) = none := by
      apply List.find?_eq_none.mpr
      intro q hq e
      have a := List.all_eq_true.mp tb_map.2 q hq
      obtain ⟨q', h1, h2⟩ := List.any_eq_true.mp a
      simp only [decide_eq_true_eq] at h2 e
      exact hn q' h1 (by simp only [decide_eq_true_eq]; rw [h2, e])
    rw [this]
    exact ⟨by decide +kernel, by decide +kernel⟩
