-- deps: 31.law 32.nat 33.bit 34.spec 35.riv 36.let 37.mod 38.mod 39.it 40.ahead 41.rel 42.ask 43.why 44.meet 45.err 46.err 47.wk 48.chg 50.ways 51.way 57.undo
/-! ===== weeks: which is better ===== -/
def dg (G : Nat) : Option Nat → Nat
  | none => G
  | some g => g
/-- comes first -/
def lxl (r : sR) (v w : Nat → Option Nat) : Prop := ∃ i, i < rW r ∧ (∀ k, k < i → v k = w k) ∧ dg (rG r) (v i) < dg (rG r) (w i)
def bt (r : sR) (s : sS) (v w : Nat → Option Nat) : Prop := inT r s w < inT r s v ∨ inT r s v = inT r s w ∧ (mvs (rW r) v < mvs (rW r) w ∨ mvs (rW r) v = mvs (rW r) w ∧ lxl r v w)
theorem lxl_as {r : sR} {v w : Nat → Option Nat} (h : lxl r v w) : ¬ lxl r w v := fun ⟨j, j1, j2, j3⟩ => by
  obtain ⟨i, i1, i2, i3⟩ := h
  rcases Nat.lt_trichotomy i j with c | c | c
  · rw [j2 i c] at i3; omega
  · subst c; omega
  · rw [i2 j c] at j3; omega
theorem lxl_tr {r : sR} {u v w : Nat → Option Nat} (h : lxl r u v) (h' : lxl r v w) : lxl r u w := by
  obtain ⟨i, i1, i2, i3⟩ := h
  obtain ⟨j, j1, j2, j3⟩ := h'
  rcases Nat.lt_trichotomy i j with c | c | c
  · exact ⟨i, i1, fun k hk => (i2 k hk).trans (j2 k (by omega)), by rw [← j2 i c]; exact i3⟩
  · subst c; exact ⟨i, i1, fun k hk => (i2 k hk).trans (j2 k hk), by omega⟩
  · exact ⟨j, j1, fun k hk => (i2 k (by omega)).trans (j2 k hk), by rw [i2 j c]; exact j3⟩
theorem bt_tr {r : sR} {s : sS} {u v w : Nat → Option Nat} (h : bt r s u v) (h' : bt r s v w) : bt r s u w := by
  unfold bt at *
  rcases h with h | ⟨h1, h2⟩
  · rcases h' with h' | ⟨h1', _⟩
    · exact .inl (by omega)
    · exact .inl (by omega)
  · rcases h' with h' | ⟨h1', h2'⟩
    · exact .inl (by omega)
    · refine .inr ⟨by omega, ?_⟩
      rcases h2 with h2 | ⟨h2, h3⟩
      · rcases h2' with h2' | ⟨h2', _⟩ <;> exact .inl (by omega)
      · rcases h2' with h2' | ⟨h2', h3'⟩
        · exact .inl (by omega)
        · exact .inr ⟨by omega, lxl_tr h3 h3'⟩
/-- two weeks differ, or one comes first -/
theorem lxl_tri {r : sR} {v w : Nat → Option Nat} (hv : vW r v) (hw : vW r w) : (∀ k, k < rW r → v k = w k) ∨ lxl r v w ∨ lxl r w v := by
  by_cases h : ∀ k, k < rW r → v k = w k
  · exact .inl h
  · right
    have : ∃ i, i < rW r ∧ v i ≠ w i ∧ ∀ k, k < i → v k = w k := by
      generalize hN : rW r = N at h
      clear hN hv hw
      induction N with
      | zero => exact absurd (fun k hk => by omega) h
      | succ N ih =>
        by_cases c : ∀ k, k < N → v k = w k
        · refine ⟨N, by omega, fun e => h (fun k hk => ?_), c⟩
          by_cases q : k = N
          · rw [q]; exact e
          · exact c k (by omega)
        · obtain ⟨i, h1, h2⟩ := ih c
          exact ⟨i, by omega, h2⟩
    obtain ⟨i, i1, i2, i3⟩ := this
    have hd : dg (rG r) (v i) ≠ dg (rG r) (w i) := fun e => by
      apply i2
      cases hvi : v i with
      | none =>
        cases hwi : w i with
        | none => rfl
        | some g => rw [hvi, hwi] at e; have := hw i i1 g hwi; simp only [dg] at e; omega
      | some g =>
        have := hv i i1 g hvi
        cases hwi : w i with
        | none => rw [hvi, hwi] at e; simp only [dg] at e; omega
        | some g' => rw [hvi, hwi] at e; simp only [dg] at e; rw [e]
    rcases Nat.lt_or_gt_of_ne hd with q | q
    · exact .inl ⟨i, i1, i3, q⟩
    · exact .inr ⟨i, i1, fun k hk => (i3 k hk).symm, q⟩
theorem bt_uniq {r : sR} {s : sS} {v w : Nat → Option Nat} (hv : vW r v) (hw : vW r w) (h1 : ¬ bt r s v w) (h2 : ¬ bt r s w v) : inT r s v = inT r s w ∧ mvs (rW r) v = mvs (rW r) w ∧ ∀ k, k < rW r → v k = w k := by
  have a1 : inT r s v = inT r s w := by
    apply Classical.byContradiction
    intro c
    rcases Nat.lt_or_gt_of_ne c with q | q
    · exact h2 (.inl q)
    · exact h1 (.inl q)
  have a2 : mvs (rW r) v = mvs (rW r) w := by
    apply Classical.byContradiction
    intro c
    rcases Nat.lt_or_gt_of_ne c with q | q
    · exact h1 (.inr ⟨a1, .inl q⟩)
    · exact h2 (.inr ⟨a1.symm, .inl q⟩)
  refine ⟨a1, a2, ?_⟩
  rcases lxl_tri hv hw with h | h | h
  · exact h
  · exact absurd (.inr ⟨a1, .inr ⟨a2, h⟩⟩) h1
  · exact absurd (.inr ⟨a1.symm, .inr ⟨a2.symm, h⟩⟩) h2
/-! weeks that agree -/
theorem it_cg {r : sR} {s : sS} {v w : Nat → Option Nat} {p fr x : Nat} (hr : vR r) (h : ∀ k, k < rW r → v k = w k) : ∀ n, it r s v p fr x n = it r s w p fr x n
  | 0 => rfl
  | n + 1 => by
    have hm : (sH s + (fr + n)) % rW r < rW r := Nat.mod_lt _ (by have := hr.2.1; omega)
    rw [it, it, it_cg hr h n]
    unfold stp
    rw [h _ hm]
theorem iT_cg {r : sR} {s : sS} {v w : Nat → Option Nat} {p : Nat} (hr : vR r) (h : ∀ k, k < rW r → v k = w k) : iT r s v p 0 = iT r s w p 0 := by
  unfold iT
  simp only [it_cg hr h]
theorem inT_cg {r : sR} {s : sS} {v w : Nat → Option Nat} (hr : vR r) (h : ∀ k, k < rW r → v k = w k) : inT r s v = inT r s w := by
  unfold inT
  simp only [iT_cg hr h]
theorem cnt_cg {f g : Nat → Bool} : ∀ {n : Nat}, (∀ p, p < n → f p = g p) → cnt f n = cnt g n
  | 0, _ => rfl
  | n + 1, e => by rw [cnt_s, cnt_s, cnt_cg (fun p hp => e p (by omega)), e n (by omega)]
theorem mvs_cg {r : sR} {v w : Nat → Option Nat} (hr : vR r) (h : ∀ k, k < rW r → v k = w k) : mvs (rW r) v = mvs (rW r) w := by
  unfold mvs
  refine cnt_cg (fun k hk => ?_)
  rw [h k hk, h _ (Nat.mod_lt _ (by have := hr.2.1; omega))]
theorem bt_cg {r : sR} {s : sS} {u v w : Nat → Option Nat} (hr : vR r) (h : ∀ k, k < rW r → v k = w k) (b : bt r s v u) : bt r s w u := by
  unfold bt at *
  rw [inT_cg hr h, mvs_cg hr h] at b
  rcases b with b | ⟨b1, b2⟩
  · exact .inl b
  · refine .inr ⟨b1, ?_⟩
    rcases b2 with b2 | ⟨b2, i, i1, i2, i3⟩
    · exact .inl b2
    · exact .inr ⟨b2, i, i1, fun k hk => by rw [← h k (by omega)]; exact i2 k hk, by rw [← h i i1]; exact i3⟩
/-! more of the span is never worse -/
def lew (r : sR) (v w : Nat → Option Nat) : Prop := ∀ k, k < rW r → v k = none ∨ v k = w k
theorem nx_le {r : sR} {p k f x j : Nat} {l : Option Nat} (h : nx r p k f none x j = true) : nx r p k f l x j = true := by
  unfold nx at h ⊢
  simp only [Bool.or_eq_true] at h ⊢
  rcases h with h | h
  · exact .inl h
  · exact absurd h jb_none
theorem stp_mono {r : sR} {s : sS} {v w : Nat → Option Nat} {p n x y : Nat} (hr : vR r) (hv : vW r v) (hw : vW r w) (h : lew r v w) (hx : ∀ j, x.testBit j = true → y.testBit j = true) (j : Nat) (hj : (stp r s v p n x).testBit j = true) : (stp r s w p n y).testBit j = true := by
  have hm : (sH s + n) % rW r < rW r := Nat.mod_lt _ (by have := hr.2.1; omega)
  have hG := hr.1
  unfold stp at hj ⊢
  rw [go_nx (fun g hg => by have := hv _ hm g hg; omega)] at hj
  rw [go_nx (fun g hg => by have := hw _ hm g hg; omega)]
  obtain ⟨i, h1, h2⟩ := hj
  refine ⟨i, hx i h1, ?_⟩
  rcases h _ hm with e | e
  · rw [e] at h2; exact nx_le h2
  · rw [← e]; exact h2
theorem it_mono {r : sR} {s : sS} {v w : Nat → Option Nat} {p fr x : Nat} (hr : vR r) (hv : vW r v) (hw : vW r w) (h : lew r v w) : ∀ n j, (it r s v p fr x n).testBit j = true → (it r s w p fr x n).testBit j = true
  | 0, j, hj => hj
  | n + 1, j, hj => stp_mono hr hv hw h (fun i => it_mono hr hv hw h n i) j hj
/-- come in time: an hour at which one is there -/
theorem cm_iff {r : sR} {s : sS} {wk : Nat → Option Nat} {p g b : Nat} (hg : rTo r p = some g) (hb : rBy r p = some b) : cm r s wk p = true ↔ ∃ n, n ≤ 60 ∧ (it r s wk p 0 (1 <<< sP s p) n).testBit g = true ∧ sH s + n ≤ b := by
  unfold cm
  rw [hg, hb]
  simp only
  constructor
  · intro h
    cases hf : ff (fun n => (it r s wk p 0 (1 <<< sP s p) n).testBit g) 0 61 with
    | none => rw [hf] at h; cases h
    | some n =>
      rw [hf] at h
      obtain ⟨_, f2, f3, _⟩ := ff_some hf
      simp only [decide_eq_true_eq] at h
      exact ⟨n, by omega, f3, h⟩
  · rintro ⟨n, h1, h2, h3⟩
    cases hf : ff (fun n => (it r s wk p 0 (1 <<< sP s p) n).testBit g) 0 61 with
    | none =>
      have := ff_none hf n (by omega) (by omega)
      rw [h2] at this; cases this
    | some m =>
      obtain ⟨_, f2, f3, f4⟩ := ff_some hf
      simp only [decide_eq_true_eq]
      by_cases c : n < m
      · have := f4 n (by omega) c
        rw [h2] at this; cases this
      · omega
theorem cm_mono {r : sR} {s : sS} {v w : Nat → Option Nat} {p : Nat} (hr : vR r) (hv : vW r v) (hw : vW r w) (h : lew r v w) (hc : cm r s v p = true) : cm r s w p = true := by
  cases hg : rTo r p with
  | none => unfold cm at hc; rw [hg] at hc; cases hc
  | some g =>
    cases hb : rBy r p with
    | none => unfold cm at hc; rw [hg, hb] at hc; cases hc
    | some b =>
      rw [cm_iff hg hb] at hc ⊢
      obtain ⟨n, h1, h2, h3⟩ := hc
      exact ⟨n, h1, it_mono hr hv hw h n g h2, h3⟩
theorem cnt_mono {f g : Nat → Bool} : ∀ {n : Nat}, (∀ p, p < n → f p = true → g p = true) → cnt f n ≤ cnt g n
  | 0, _ => Nat.le_refl _
  | n + 1, e => by
    have := cnt_mono (fun p hp => e p (show p < n + 1 by omega)) (n := n)
    rw [cnt_s, cnt_s]
    have h2 := e n (by omega)
    cases hf : f n with
    | true => rw [h2 hf]; omega
    | false => rw [if_ff]; omega
theorem inT_mono {r : sR} {s : sS} {v w : Nat → Option Nat} (hr : vR r) (hv : vW r v) (hw : vW r w) (h : lew r v w) : inT r s v ≤ inT r s w := by
  unfold inT
  refine cnt_mono (fun p hp hc => ?_)
  rw [Bool.and_eq_true, iT_cm, Bool.or_eq_true] at hc ⊢
  refine ⟨hc.1, ?_⟩
  rcases hc.2 with q | q
  · exact .inl q
  · exact .inr (cm_mono hr hv hw h q)
/-! a week without rest is better than one with it -/
def wG (r : sR) (w : Nat → Option Nat) : Prop := ∀ k, k < rW r → ∃ g, w k = some g ∧ g < rG r
theorem wG.v {r : sR} {w : Nat → Option Nat} (h : wG r w) : vW r w := fun k hk g hg => by
  obtain ⟨g', e, h2⟩ := h k hk
  rw [e] at hg; cases hg; exact h2
def prv (W : Nat) (w : Nat → Option Nat) : Nat → Nat → Option Nat
  | _, 0 => none
  | k, n + 1 => match w k with
    | some g => some g
    | none => prv W w ((k + W - 1) % W) n
theorem prv_s {W : Nat} {w : Nat → Option Nat} : ∀ {n k g : Nat}, prv W w k n = some g → prv W w k (n + 1) = some g
  | 0, k, g, h => by cases h
  | n + 1, k, g, h => by
    rw [prv] at h ⊢
    cases hk : w k with
    | some g' => rw [hk] at h; exact h
    | none => rw [hk] at h; exact prv_s h
theorem prv_v {W : Nat} {w : Nat → Option Nat} {P : Nat → Prop} (hw : ∀ k g, w k = some g → k < W → P g) (hW : 0 < W) : ∀ {n k g : Nat}, k < W → prv W w k n = some g → P g
  | 0, k, g, _, h => by cases h
  | n + 1, k, g, hk, h => by
    rw [prv] at h
    cases e : w k with
    | some g' => rw [e] at h; cases h; exact hw k g e hk
    | none => rw [e] at h; exact prv_v hw hW (Nat.mod_lt _ hW) h
theorem prv_n {W : Nat} {w : Nat → Option Nat} (hW : 0 < W) : ∀ {n k : Nat}, k < W → prv W w k n = none → ∀ j, j < n → w ((k + (W - 1) * j) % W) = none
  | 0, k, _, _, j, hj => by omega
  | n + 1, k, hk, h, j, hj => by
    rw [prv] at h
    cases e : w k with
    | some g' => rw [e] at h; cases h
    | none =>
      rw [e] at h
      cases j with
      | zero => rw [Nat.mul_zero, Nat.add_zero, Nat.mod_eq_of_lt hk]; exact e
      | succ j =>
        have := prv_n hW (Nat.mod_lt _ hW) h j (by omega)
        have e2 : ((k + W - 1) % W + (W - 1) * j) % W = (k + (W - 1) * (j + 1)) % W := by
          rw [Nat.mod_add_mod, Nat.mul_succ]
          congr 1
          omega
        rw [e2] at this
        exact this
theorem back6 : ∀ W, W < 7 → ∀ k, k < W → ∀ q, q < W → (k + (W - 1) * ((k + W - q) % W)) % W = q := by decide +kernel
theorem rest_free {r : sR} {s : sS} {w : Nat → Option Nat} (hr : vR r) (hw : vW r w) (hn : ¬ wG r w) : ∃ v, wG r v ∧ bt r s v w := by
  have hW := hr.2.1
  have hG := hr.1
  -- it is enough to fill the rest, with no more moves
  have key : ∀ v, wG r v → (∀ k, k < rW r → w k = none ∨ w k = v k) → (∀ k, k < rW r → w k = none → v k = v ((k + rW r - 1) % rW r)) → bt r s v w := fun v hv h1 h2 => by
    have a1 := inT_mono (s := s) hr hw hv.v h1
    have a2 : mvs (rW r) v ≤ mvs (rW r) w := by
      unfold mvs
      refine cnt_mono (fun k hk hc => ?_)
      rw [decide_eq_true_eq] at hc ⊢
      have hm : (k + rW r - 1) % rW r < rW r := Nat.mod_lt _ (by omega)
      intro e
      rcases h1 k hk with q | q
      · exact hc (h2 k hk q)
      · rcases h1 _ hm with q' | q'
        · rw [q'] at e
          exact hc (h2 k hk e)
        · exact hc (by rw [← q, ← q']; exact e)
    have a3 : lxl r v w := by
      rcases lxl_tri hv.v hw with h | h | ⟨i, i1, i2, i3⟩
      · exfalso
        apply hn
        intro k hk
        obtain ⟨g, e, hg⟩ := hv k hk
        exact ⟨g, by rw [← h k hk]; exact e, hg⟩
      · exact h
      · exfalso
        obtain ⟨g, e, hg⟩ := hv i i1
        rcases h1 i i1 with q | q
        · rw [q, e] at i3; simp only [dg] at i3; omega
        · rw [q] at i3; omega
    by_cases c : inT r s w < inT r s v
    · exact .inl c
    · refine .inr ⟨by omega, ?_⟩
      by_cases d : mvs (rW r) v < mvs (rW r) w
      · exact .inl d
      · exact .inr ⟨by omega, a3⟩
  by_cases c : ∃ q, q < rW r ∧ w q ≠ none
  · obtain ⟨q, hq, hq2⟩ := c
    have hsome : ∀ k, k < rW r → ∃ g, prv (rW r) w k (rW r) = some g := fun k hk => by
      cases e : prv (rW r) w k (rW r) with
      | some g => exact ⟨g, rfl⟩
      | none =>
        have := prv_n (by omega) hk e ((k + rW r - q) % rW r) (Nat.mod_lt _ (by omega))
        rw [back6 (rW r) (by omega) k hk q hq] at this
        exact absurd this hq2
    refine ⟨fun k => prv (rW r) w k (rW r), fun k hk => ?_, key _ (fun k hk => ?_) (fun k hk => ?_) (fun k hk e => ?_)⟩
    · obtain ⟨g, e⟩ := hsome k hk
      exact ⟨g, e, prv_v (P := fun g => g < rG r) (fun k g h1 h2 => hw k h2 g h1) (by omega) hk e⟩
    · obtain ⟨g, e⟩ := hsome k hk
      exact ⟨g, e, prv_v (P := fun g => g < rG r) (fun k g h1 h2 => hw k h2 g h1) (by omega) hk e⟩
    · cases e : w k with
      | none => exact .inl rfl
      | some g =>
        right
        show some g = prv (rW r) w k (rW r)
        obtain ⟨m, hm⟩ : ∃ m, rW r = m + 1 := ⟨rW r - 1, by omega⟩
        rw [hm, prv, e]
    · show prv (rW r) w k (rW r) = prv (rW r) w ((k + rW r - 1) % rW r) (rW r)
      obtain ⟨g, hg⟩ := hsome k hk
      rw [hg]
      obtain ⟨m, hm⟩ : ∃ m, rW r = m + 1 := ⟨rW r - 1, by omega⟩
      have h3 : prv (rW r) w k (m + 1) = some g := by rw [← hm]; exact hg
      rw [prv, e] at h3
      have h4 := prv_s h3
      rw [← hm] at h4
      exact h4.symm
  · have hall : ∀ k, k < rW r → w k = none := fun k hk => by
      cases e : w k with
      | none => rfl
      | some g => exact absurd ⟨k, hk, by rw [e]; simp⟩ c
    exact ⟨fun _ => some 0, fun k hk => ⟨0, rfl, by omega⟩, key _ (fun k hk => ⟨0, rfl, by omega⟩) (fun k hk => .inl (hall k hk)) (fun k hk _ => rfl)⟩
