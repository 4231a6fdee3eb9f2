-- deps: 73.eval 74.wrd 75.tok 76.next 77.cut 78.prs 79.rec 80.rd 81.unit 82.dd 83.line 84.law 85.read 86.head 87.fill
/-- rows at a place are right -/
def Gd (r : sR) (h : am_H) (j : Nat) : Prop := h.2.1 68 j = nI (gU r (j / 12) (j % 12 / 2) (j % 2)) ∧ h.2.1 69 j = nI (gD r (j / 12) (j % 12 / 2) (j % 2)) ∧ h.2.1 70 j = nI (gS r (j / 12) (j % 12 / 2) (j % 2))
theorem n_fL40 {G W i P C p k : Nat} {hc hm h : am_H} (D : DD G W i P P P C hc hm) (hi : i ≤ 900) (hp : p < 5) (hk : k < 6) (x : am_ex [68, 69, 70, 77, 78, 81, 82] hc h) : ∃ y, f_River_fillRows_L40 62 75 79 am_fu (((1 : Int32) <<< (((2 : Int32) * (nI G - (1 : Int32))) &&& 31)) - (1 : Int32)) (nI p) (nI k) 0 h = some y ∧ am_ex [68, 69, 70, 77, 78, 81, 82] hc y.2 ∧ (∀ j, Gd (rOf (hm.2.1 140)) h j → Gd (rOf (hm.2.1 140)) y.2 j) ∧ ∀ f, f < 2 → Gd (rOf (hm.2.1 140)) y.2 (12 * p + 2 * k + f) := by
  have hG := D.1.1
  have rG' : rG (rOf (hm.2.1 140)) = G := by
    show nt (hm.2.1 140 1) = G
    rw [D.G.2]
    exact nI_clamp (by omega)
  have key := lpc2 (fun m (a1 : Int32) (a2 : am_H) => f_River_fillRows_L40 62 75 79 m (((1 : Int32) <<< (((2 : Int32) * (nI G - (1 : Int32))) &&& 31)) - (1 : Int32)) (nI p) (nI k) a1 a2) 2
    (fun t a1 a2 => a1 = nI t ∧ am_ex [68, 69, 70, 77, 78, 81, 82] hc a2 ∧ (∀ j, Gd (rOf (hm.2.1 140)) h j → Gd (rOf (hm.2.1 140)) a2 j) ∧ ∀ f, f < t → Gd (rOf (hm.2.1 140)) a2 (12 * p + 2 * k + f))
    (fun y => am_ex [68, 69, 70, 77, 78, 81, 82] hc y.2 ∧ (∀ j, Gd (rOf (hm.2.1 140)) h j → Gd (rOf (hm.2.1 140)) y.2 j) ∧ ∀ f, f < 2 → Gd (rOf (hm.2.1 140)) y.2 (12 * p + 2 * k + f))
    (fun m t a1 a2 ht hI => by
      obtain ⟨rfl, x2, g1, g2⟩ := hI
      have e1 : (if nI t = (1 : Int32) then (1 : Int32) else (0 : Int32)) = nI t := by
        rcases (show t = 0 ∨ t = 1 by omega) with rfl | rfl <;> rfl
      obtain ⟨h3, a3, a4, a4'⟩ := n_walk (p := p) (k := k) (f := t) D hi hp hk ht x2
      rw [f_River_fillRows_L40, if_neg (show ¬ (2 : Int32) ≤ nI t from nI_ge (b := 2) ht (by decide)), e1, n_row ht, Option.bind_some, a3, Option.bind_some, n_wr (by omega) (by decide), Option.bind_some, n_wr (by omega) (by decide), Option.bind_some, msk_lo hG, msk_hi hG]
      have x4 : am_ex [68, 69, 70, 77, 78, 81, 82] hc (am_sI (am_sI h3 68 (12 * p + 2 * k + t) (nI (bts (2 * G) (fun s => slet (hm.2.1 140) 0 p (s / 2) k t (s % 2) && decide (s / 2 + 1 < G))))) 69 (12 * p + 2 * k + t) (nI (bts (2 * G) (fun s => slet (hm.2.1 140) 0 p (s / 2) k t (s % 2) && decide (2 ≤ s))))) := (a4.tr (am_ex.sI (X := [68]) (by decide)) (fun _ z => z) (by decide)).tr (am_ex.sI (X := [69]) (by decide)) (fun _ z => z) (by decide)
      obtain ⟨h5, a5, a6, a6'⟩ := n_serv (p := p) (k := k) (f := t) D hi hp hk ht x4
      rw [a5, Option.bind_some, n_wr (by omega) (by decide), Option.bind_some, nI_up]
      have q1 : (12 * p + 2 * k + t) / 12 = p := by omega
      have q2 : (12 * p + 2 * k + t) % 12 / 2 = k := by omega
      have q3 : (12 * p + 2 * k + t) % 2 = t := by omega
      have me : Gd (rOf (hm.2.1 140)) (am_sI h5 70 (12 * p + 2 * k + t) (nI (bts G (fun g => slet (hm.2.1 140) 1 p g k t 0)))) (12 * p + 2 * k + t) := by
        unfold Gd
        rw [q1, q2, q3]
        refine ⟨?_, ?_, ?_⟩
        · rw [sI_at (.inl (by decide)), a6'.2.2 68 (by decide), sI_at (.inl (by decide)), sI_me]
          unfold gU
          rw [rG']
          rfl
        · rw [sI_at (.inl (by decide)), a6'.2.2 69 (by decide), sI_me]
          unfold gD
          rw [rG']
          rfl
        · rw [sI_me]
          unfold gS
          rw [rG']
          rfl
      have kp : ∀ j, Gd (rOf (hm.2.1 140)) a2 j → Gd (rOf (hm.2.1 140)) (am_sI h5 70 (12 * p + 2 * k + t) (nI (bts G (fun g => slet (hm.2.1 140) 1 p g k t 0)))) j := fun j hj => by
        by_cases c : j = 12 * p + 2 * k + t
        · rw [c]; exact me
        · unfold Gd at hj ⊢
          rw [sI_at (.inl (by decide)), sI_at (.inl (by decide)), sI_at (.inr c), a6'.2.2 68 (by decide), a6'.2.2 69 (by decide), a6'.2.2 70 (by decide), sI_at (a := 68) (.inl (by decide)), sI_at (a := 68) (.inr c), sI_at (a := 69) (.inr c), sI_at (a := 69) (.inl (by decide)), sI_at (a := 70) (.inl (by decide)), sI_at (a := 70) (.inl (by decide)), a4'.2.2 68 (by decide), a4'.2.2 69 (by decide), a4'.2.2 70 (by decide)]
          exact hj
      refine ⟨_, _, rfl, rfl, a6.tr (am_ex.sI (X := [70]) (by decide)) (fun _ z => z) (by decide), fun j hj => kp j (g1 j hj), fun f hf => ?_⟩
      by_cases c : f = t
      · rw [c]; exact me
      · exact kp _ (g2 f (by omega)))
    (fun m a1 a2 hI => by
      obtain ⟨rfl, x2, g1, g2⟩ := hI
      rw [f_River_fillRows_L40, if_pos (show (2 : Int32) ≤ nI 2 by decide)]
      exact ⟨_, rfl, x2, g1, g2⟩)
    (by unfold am_fu; omega) (nI 0) h ⟨rfl, x, fun _ z => z, fun f hf => by omega⟩
  exact key
theorem n_fL28 {G W i P C p : Nat} {hc hm h : am_H} (D : DD G W i P P P C hc hm) (hi : i ≤ 900) (hp : p < 5) (x : am_ex [68, 69, 70, 77, 78, 81, 82] hc h) : ∃ y, f_River_fillRows_L28 62 75 79 am_fu (((1 : Int32) <<< (((2 : Int32) * (nI G - (1 : Int32))) &&& 31)) - (1 : Int32)) (nI p) 0 h = some y ∧ am_ex [68, 69, 70, 77, 78, 81, 82] hc y.2 ∧ (∀ j, Gd (rOf (hm.2.1 140)) h j → Gd (rOf (hm.2.1 140)) y.2 j) ∧ ∀ k f, k < W → f < 2 → Gd (rOf (hm.2.1 140)) y.2 (12 * p + 2 * k + f) := by
  have hW := D.1.2
  have key := lpc2 (fun m (a1 : Int32) (a2 : am_H) => f_River_fillRows_L28 62 75 79 m (((1 : Int32) <<< (((2 : Int32) * (nI G - (1 : Int32))) &&& 31)) - (1 : Int32)) (nI p) a1 a2) W
    (fun t a1 a2 => a1 = nI t ∧ am_ex [68, 69, 70, 77, 78, 81, 82] hc a2 ∧ (∀ j, Gd (rOf (hm.2.1 140)) h j → Gd (rOf (hm.2.1 140)) a2 j) ∧ ∀ k f, k < t → f < 2 → Gd (rOf (hm.2.1 140)) a2 (12 * p + 2 * k + f))
    (fun y => am_ex [68, 69, 70, 77, 78, 81, 82] hc y.2 ∧ (∀ j, Gd (rOf (hm.2.1 140)) h j → Gd (rOf (hm.2.1 140)) y.2 j) ∧ ∀ k f, k < W → f < 2 → Gd (rOf (hm.2.1 140)) y.2 (12 * p + 2 * k + f))
    (fun m t a1 a2 ht hI => by
      obtain ⟨rfl, x2, g1, g2⟩ := hI
      have w0 : a2.2.1 62 1 = nI W := by rw [x2.2.2 62 (by decide)]; exact D.W.1
      obtain ⟨y, a3, a4, a5, a6⟩ := n_fL40 (p := p) (k := t) D hi hp (by omega) x2
      rw [f_River_fillRows_L28, w0, if_neg (nI_ge ht (by omega)), a3, Option.bind_some, nI_up]
      refine ⟨_, _, rfl, rfl, a4, fun j hj => a5 j (g1 j hj), fun k f hk hf => ?_⟩
      by_cases c : k = t
      · rw [c]; exact a6 f hf
      · exact a5 _ (g2 k f (by omega) hf))
    (fun m a1 a2 hI => by
      obtain ⟨rfl, x2, g1, g2⟩ := hI
      have w0 : a2.2.1 62 1 = nI W := by rw [x2.2.2 62 (by decide)]; exact D.W.1
      rw [f_River_fillRows_L28, w0, if_pos (nI_le (by omega) (by omega))]
      exact ⟨_, rfl, x2, g1, g2⟩)
    (by unfold am_fu; omega) (nI 0) h ⟨rfl, x, fun _ z => z, fun k f hk hf => by omega⟩
  exact key
theorem n_fill {G W i P C : Nat} {hc hm : am_H} (D : DD G W i P P P C hc hm) (hi : i ≤ 900) (hP : P ≤ 5) : ∃ h', f_River_fillRows 62 75 79 hc = some h' ∧ am_ex [68, 69, 70, 77, 78, 81, 82] hc h' ∧ ∀ p k f, p < P → k < W → f < 2 → h'.2.1 68 (12 * p + 2 * k + f) = nI (gU (rOf (hm.2.1 140)) p k f) ∧ h'.2.1 69 (12 * p + 2 * k + f) = nI (gD (rOf (hm.2.1 140)) p k f) ∧ h'.2.1 70 (12 * p + 2 * k + f) = nI (gS (rOf (hm.2.1 140)) p k f) := by
  have hW := D.1.2
  have key := lpc2 (fun m (a1 : Int32) (a2 : am_H) => f_River_fillRows_L16 62 75 79 m (((1 : Int32) <<< (((2 : Int32) * (nI G - (1 : Int32))) &&& 31)) - (1 : Int32)) a1 a2) P
    (fun t a1 a2 => a1 = nI t ∧ am_ex [68, 69, 70, 77, 78, 81, 82] hc a2 ∧ ∀ p k f, p < t → k < W → f < 2 → Gd (rOf (hm.2.1 140)) a2 (12 * p + 2 * k + f))
    (fun y => am_ex [68, 69, 70, 77, 78, 81, 82] hc y.2 ∧ ∀ p k f, p < P → k < W → f < 2 → Gd (rOf (hm.2.1 140)) y.2 (12 * p + 2 * k + f))
    (fun m t a1 a2 ht hI => by
      obtain ⟨rfl, x2, g2⟩ := hI
      have w0 : a2.2.1 62 2 = nI P := by rw [x2.2.2 62 (by decide)]; exact D.2.2.2.1.1
      obtain ⟨y, a3, a4, a5, a6⟩ := n_fL28 (p := t) D hi (by omega) x2
      rw [f_River_fillRows_L16, w0, if_neg (nI_ge ht (by omega)), a3, Option.bind_some, nI_up]
      refine ⟨_, _, rfl, rfl, a4, fun p k f hp hk hf => ?_⟩
      by_cases c : p = t
      · rw [c]; exact a6 k f hk hf
      · exact a5 _ (g2 p k f (by omega) hk hf))
    (fun m a1 a2 hI => by
      obtain ⟨rfl, x2, g2⟩ := hI
      have w0 : a2.2.1 62 2 = nI P := by rw [x2.2.2 62 (by decide)]; exact D.2.2.2.1.1
      rw [f_River_fillRows_L16, w0, if_pos (nI_le (by omega) (by omega))]
      exact ⟨_, rfl, x2, g2⟩)
    (by unfold am_fu; omega) (nI 0) hc ⟨rfl, am_ex.rf, fun p k f hp hk hf => by omega⟩
  obtain ⟨y, z1, z2, z3⟩ := key
  have z1' : f_River_fillRows_L16 62 75 79 am_fu (((1 : Int32) <<< (((2 : Int32) * (nI G - (1 : Int32))) &&& 31)) - (1 : Int32)) 0 hc = some y := z1
  unfold f_River_fillRows
  simp only [am_let]
  rw [D.G.1, z1', Option.bind_some]
  refine ⟨_, rfl, z2, fun p k f hp hk hf => ?_⟩
  have := z3 p k f hp hk hf
  unfold Gd at this
  rw [show (12 * p + 2 * k + f) / 12 = p by omega, show (12 * p + 2 * k + f) % 12 / 2 = k by omega, show (12 * p + 2 * k + f) % 2 = f by omega] at this
  exact this
