-- deps: 31.law 32.nat 33.bit 34.spec 35.riv 36.let 37.mod 38.mod 39.it 40.ahead 41.rel 42.ask 43.why 44.meet 45.err 46.err 47.wk 48.chg 50.ways 51.way 52.tray 54.past 55.hour 56.act 57.undo 59.deed 60.judge 63.seen
/-! ===== chances ===== -/
/-- the greatest among those that have it -/
def mxB (c : Nat → Bool) (V : Nat → Nat) : Nat → Nat
  | 0 => 0
  | n + 1 => if c n then max (mxB c V n) (V n) else mxB c V n
theorem mxB_ge {c : Nat → Bool} {V : Nat → Nat} : ∀ {n j : Nat}, j < n → c j = true → V j ≤ mxB c V n
  | 0, j, h, _ => by omega
  | n + 1, j, h, hc => by
    rw [mxB]
    by_cases e : j = n
    · subst e; rw [if_pos hc]; omega
    · have := mxB_ge (V := V) (show j < n by omega) hc
      split <;> omega
theorem mxB_at {c : Nat → Bool} {V : Nat → Nat} : ∀ n, mxB c V n = 0 ∨ ∃ j, j < n ∧ c j = true ∧ V j = mxB c V n
  | 0 => .inl rfl
  | n + 1 => by
    rw [mxB]
    by_cases e : c n = true
    · rw [if_pos e]
      by_cases d : mxB c V n ≤ V n
      · exact .inr ⟨n, by omega, e, by omega⟩
      · rcases mxB_at (c := c) (V := V) n with h | ⟨j, h1, h2, h3⟩
        · omega
        · exact .inr ⟨j, by omega, h2, by omega⟩
    · rw [if_neg e]
      rcases mxB_at (c := c) (V := V) n with h | ⟨j, h1, h2, h3⟩
      · exact .inl h
      · exact .inr ⟨j, by omega, h2, h3⟩
theorem mxB_le {c : Nat → Bool} {V : Nat → Nat} {n b : Nat} (h : ∀ j, j < n → c j = true → V j ≤ b) : mxB c V n ≤ b := by
  rcases mxB_at (c := c) (V := V) n with e | ⟨j, h1, h2, h3⟩
  · omega
  · rw [← h3]; exact h j h1 h2
/-- by acts, or by spots: the same -/
theorem mx_eq {r : sR} {p k f x : Nat} {l : Option Nat} {V : Nat → Nat} (hr : vR r) (hx : vSp (rG r) x) (hl : ∀ g, l = some g → g < rG r) :
    mxB (fun a => decide (hi r p k f x a l = 0)) (fun a => V (mv x a l)) 7 = mxB (fun j => (go r p k f l (1 <<< x)).testBit j) V 9 := by
  have hG := hr.1
  have hl4 : ∀ g, l = some g → g < 4 := fun g q => by have := hl g q; omega
  have key : ∀ j, (go r p k f l (1 <<< x)).testBit j = true ↔ ∃ a, a ≤ 6 ∧ hi r p k f x a l = 0 ∧ mv x a l = j := fun j => by
    rw [← nx_act hr hx hl, go_nx hl4]
    constructor
    · rintro ⟨y, h1, h2⟩
      rw [Nat.one_shiftLeft, Nat.testBit_two_pow] at h1
      have : x = y := by simpa using h1
      rw [this]; exact h2
    · intro h
      exact ⟨x, by rw [Nat.one_shiftLeft, Nat.testBit_two_pow]; simp, h⟩
  apply Nat.le_antisymm
  · apply mxB_le
    intro a ha hc
    rw [decide_eq_true_eq] at hc
    have m3 := (hi_mv hr hx hl (show a ≤ 6 by omega) hc).2.2
    have m9 : mv x a l < 9 := by rcases m3 with c | c <;> omega
    exact mxB_ge m9 ((key _).mpr ⟨a, by omega, hc, rfl⟩)
  · apply mxB_le
    intro j hj hc
    obtain ⟨a, h1, h2, h3⟩ := (key j).mp hc
    rw [← h3]
    exact mxB_ge (c := fun a => decide (hi r p k f x a l = 0)) (V := fun a => V (mv x a l)) (show a < 7 by omega) (decide_eq_true h2)
/-- how likely one comes from a spot in time, times ten to the hours -/
def chv (r : sR) (s : sS) (p q n : Nat) : Nat → Nat → Nat
  | 0, x => if x = q then 1 else 0
  | d + 1, x => if x = q then 10 ^ (d + 1) else
    rF r * mxB (fun j => (go r p (kN r s (n - (d + 1))) 1 (sW s (kN r s (n - (d + 1)))) (1 <<< x)).testBit j) (chv r s p q n d) 9 +
    (10 - rF r) * mxB (fun j => (go r p (kN r s (n - (d + 1))) 0 (sW s (kN r s (n - (d + 1)))) (1 <<< x)).testBit j) (chv r s p q n d) 9
theorem chv_le {r : sR} {s : sS} {p q n : Nat} (hr : vR r) : ∀ d x, chv r s p q n d x ≤ 10 ^ d
  | 0, x => by
    rw [chv]
    split <;> decide
  | d + 1, x => by
    have hF := hr.2.2.2.1
    have ih := chv_le (s := s) (p := p) (q := q) (n := n) hr d
    rw [chv]
    split
    · exact Nat.le_refl _
    · have h1 : mxB (fun j => (go r p (kN r s (n - (d + 1))) 1 (sW s (kN r s (n - (d + 1)))) (1 <<< x)).testBit j) (chv r s p q n d) 9 ≤ 10 ^ d := mxB_le (fun j _ _ => ih j)
      have h2 : mxB (fun j => (go r p (kN r s (n - (d + 1))) 0 (sW s (kN r s (n - (d + 1)))) (1 <<< x)).testBit j) (chv r s p q n d) 9 ≤ 10 ^ d := mxB_le (fun j _ _ => ih j)
      have h3 := Nat.mul_le_mul_left (rF r) h1
      have h4 := Nat.mul_le_mul_left (10 - rF r) h2
      have h5 : rF r * 10 ^ d + (10 - rF r) * 10 ^ d = 10 ^ (d + 1) := by
        rw [← Nat.add_mul, Nat.pow_succ, show rF r + (10 - rF r) = 10 by omega, Nat.mul_comm]
      omega
theorem p10_lt {d : Nat} (h : d ≤ 9) : 10 ^ d < 2 ^ 30 := by
  have := Nat.pow_le_pow_right (n := 10) (by omega) h
  exact Nat.lt_of_le_of_lt this (by decide)
theorem max_l {a b : Nat} (ha : a < 2 ^ 31) (hb : b < 2 ^ 31) : (if lN b < lN a then lN a else lN b) = lN (max a b) := by
  by_cases c : b < a
  · rw [if_pos ((lN_lt hb ha).mpr c), show max a b = a by omega]
  · rw [if_neg (fun q => c ((lN_lt hb ha).mp q)), show max a b = b by omega]
def tC (h : am_H) (cu nx : Nat) : Prop := (cu = 100 ∧ nx = 101 ∨ cu = 101 ∧ nx = 100) ∧ am_rf h 99 2 = cu ∧ am_rf h 99 3 = nx
theorem tC.eq {h h' : am_H} {cu nx : Nat} (N : tC h cu nx) (e : h'.2.2.2 = h.2.2.2) : tC h' cu nx := by unfold tC am_rf at N ⊢; rw [e]; exact N
def eqv (G : Nat) (f : Nat → Int64) (V : Nat → Nat) : Prop := ∀ j, vSp G j → f j = lN (V j)
theorem n_lik {h : am_H} {r : sR} {s : sS} {p k f x o : Nat} {V : Nat → Nat} (T : tV h r s) (hp : p < rP r) (hk : k < rW r) (hf : f < 2) (hx : vSp (rG r) x) (ho : am_rf h 99 3 = o) (hV : ∀ j, V j < 2 ^ 31) (e : eqv (rG r) (h.2.2.1 o) V) :
    f_Chances_likeliest (nI (12 * p + 2 * k + f)) (nI x) (oI (sW s k)) h = some (lN (mxB (fun j => (go r p k f (sW s k) (1 <<< x)).testBit j) V 9)) := by
  have hG := T.hG
  have hl := T.vw k hk
  have hx9 : x < 9 := by rcases hx with c | c <;> omega
  rw [← mx_eq T.1 hx hl]
  obtain ⟨c, f1, f2⟩ := lpc2 (fun m (a1 : Int64) (a2 : Int32) => f_Chances_likeliest_L6 (nI (12 * p + 2 * k + f)) (nI x) (oI (sW s k)) m a1 a2 h) 7
    (fun t a1 a2 => a1 = lN (mxB (fun a => decide (hi r p k f x a (sW s k) = 0)) (fun a => V (mv x a (sW s k))) t) ∧ a2 = nI t)
    (fun d => d.1 = lN (mxB (fun a => decide (hi r p k f x a (sW s k) = 0)) (fun a => V (mv x a (sW s k))) 7))
    (fun m t a1 a2 ht hI => by
      obtain ⟨rfl, rfl⟩ := hI
      rw [f_Chances_likeliest_L6, if_neg (show ¬ (7 : Int32) ≤ nI t from nI_ge (b := 7) ht (by decide)), n_hind T.1 T.2.2.1 hp hk hf hx hl (by omega), Option.bind_some, nI_up]
      by_cases c : hi r p k f x t (sW s k) = 0
      · obtain ⟨m1, m2, m3⟩ := hi_mv T.1 hx hl (show t ≤ 6 by omega) c
        have m9 : mv x t (sW s k) < 9 := by rcases m3 with c | c <;> omega
        have hb : mxB (fun a => decide (hi r p k f x a (sW s k) = 0)) (fun a => V (mv x a (sW s k))) t < 2 ^ 31 := by
          have := mxB_le (c := fun a => decide (hi r p k f x a (sW s k) = 0)) (V := fun a => V (mv x a (sW s k))) (n := t) (b := 2 ^ 31 - 1) (fun j _ _ => by have := hV (mv x j (sW s k)); omega)
          omega
        rw [c, if_pos (show nI 0 = 0 from rfl), n_moved (G := rG r) hx9 (by omega) m1 m2, Option.bind_some, ho, n_rd m9 (by decide), Option.bind_some, e _ m3, max_l hb (hV _)]
        exact ⟨_, _, rfl, by rw [mxB, if_pos (decide_eq_true c)], rfl⟩
      · have := hi_lt (r := r) (p := p) (k := k) (f := f) (x := x) (a := t) (l := sW s k)
        rw [if_neg (show ¬ nI _ = (0 : Int32) from fun q => c ((nI_eq (b := 0) (by omega) (by decide)).mp q))]
        exact ⟨_, _, rfl, by rw [mxB, if_neg (by simpa using c)], rfl⟩)
    (fun m a1 a2 hI => by
      obtain ⟨rfl, rfl⟩ := hI
      rw [f_Chances_likeliest_L6, if_pos (show (7 : Int32) ≤ nI 7 by decide)]
      exact ⟨_, rfl, rfl⟩) (by decide) 0 0 ⟨rfl, rfl⟩
  unfold f_Chances_likeliest
  rw [f1, Option.bind_some, f2]
theorem lN_p (n : Nat) : lN n * (10 : Int64) = lN (n * 10) := lN_mul n 10
theorem n_power {h : am_H} {n : Nat} (hn : n ≤ 100) : f_Chances_power (nI n) h = some (lN (10 ^ n)) := by
  obtain ⟨c, f1, f2⟩ := lpc2 (fun m (a1 : Int64) (a2 : Int32) => f_Chances_power_L4 (nI n) m a1 a2 h) n
    (fun t a1 a2 => a1 = lN (10 ^ t) ∧ a2 = nI t) (fun d => d.1 = lN (10 ^ n))
    (fun m t a1 a2 ht hI => by
      obtain ⟨rfl, rfl⟩ := hI
      rw [f_Chances_power_L4, if_neg (nI_ge ht (by omega))]
      exact ⟨_, _, rfl, lN_p _, nI_up⟩)
    (fun m a1 a2 hI => by
      obtain ⟨rfl, rfl⟩ := hI
      rw [f_Chances_power_L4, if_pos (nI_le (Nat.le_refl _) (by omega))]
      exact ⟨_, rfl, rfl⟩) (by unfold am_fu; omega) 1 0 ⟨rfl, rfl⟩
  unfold f_Chances_power
  rw [f1, Option.bind_some, f2]
theorem n_tens {h : am_H} {n : Nat} (hn : n ≤ 100) : f_Mod_tens (nI n) h = some (lN (10 ^ n)) := by
  obtain ⟨c, f1, f2⟩ := lpc2 (fun m (a1 : Int64) (a2 : Int32) => f_Mod_tens_L4 (nI n) m a1 a2 h) n
    (fun t a1 a2 => a1 = lN (10 ^ t) ∧ a2 = nI t) (fun d => d.1 = lN (10 ^ n))
    (fun m t a1 a2 ht hI => by
      obtain ⟨rfl, rfl⟩ := hI
      rw [f_Mod_tens_L4, if_neg (nI_ge ht (by omega))]
      exact ⟨_, _, rfl, lN_p _, nI_up⟩)
    (fun m a1 a2 hI => by
      obtain ⟨rfl, rfl⟩ := hI
      rw [f_Mod_tens_L4, if_pos (nI_le (Nat.le_refl _) (by omega))]
      exact ⟨_, rfl, rfl⟩) (by unfold am_fu; omega) 1 0 ⟨rfl, rfl⟩
  unfold f_Mod_tens
  rw [f1, Option.bind_some, f2]
/-- an hour of the class -/
theorem n_cp67 {h : am_H} {r : sR} {s : sS} {p q n d cu nx k : Nat} {p2 p3 v4 : Int32} (V : tV h r s) (N : tC h nx cu) (hp : p < rP r) (hd : d ≤ 8) (hk : k = kN r s (n - (d + 1))) (e : eqv (rG r) (h.2.2.1 cu) (chv r s p q n d)) :
    ∃ y h', f_Chances_outOfPower_L67 (nI p) p2 p3 am_fu v4 (nI k) 0 h = some (y, h') ∧ keT h h' ∧ h'.2.2.2 = h.2.2.2 ∧ ∀ j, vSp (rG r) j → j ≠ q → h'.2.2.1 nx j = lN (chv r s p q n (d + 1) j) := by
  have hG := V.hG
  have hW := V.hW
  have hF := V.1.2.2.2.1
  have hkW : k < rW r := by rw [hk]; exact kN_lt V.1 s _
  have hV : ∀ j, chv r s p q n d j < 2 ^ 31 := fun j => by
    have h1 := chv_le (s := s) (p := p) (q := q) (n := n) V.1 d j
    have h2 := p10_lt (show d ≤ 9 by omega)
    omega
  have hne : cu ≠ nx := by have := N.1; omega
  have snx : scr nx := by unfold scr; have := N.1; omega
  obtain ⟨c, f1, f2, f3, f4, f5⟩ := lpc2 (fun m (a1 : Int32) (a2 : am_H) => f_Chances_outOfPower_L67 (nI p) p2 p3 m v4 (nI k) a1 a2) 9
    (fun t a1 a2 => a1 = nI t ∧ keT h a2 ∧ a2.2.2.2 = h.2.2.2 ∧ a2.2.2.1 cu = h.2.2.1 cu ∧ ∀ j, j < t → vSp (rG r) j → j ≠ q → a2.2.2.1 nx j = lN (chv r s p q n (d + 1) j))
    (fun c => keT h c.2 ∧ c.2.2.2.2 = h.2.2.2 ∧ c.2.2.2.1 cu = h.2.2.1 cu ∧ ∀ j, j < 9 → vSp (rG r) j → j ≠ q → c.2.2.2.1 nx j = lN (chv r s p q n (d + 1) j))
    (fun m t a1 a2 ht hI => by
      obtain ⟨rfl, i1, i2, i3, i4⟩ := hI
      have V2 := V.ke i1
      have N2 := N.eq i2
      have hval : ∃ x, ((if decide (t = 8 ∨ t < 2 * rG r) = true then (f_Chances_weighed (nI p) (nI k) (nI t) a2).bind fun q15 => some q15 else some (0 : Int64)) : Option Int64) = some x ∧ (vSp (rG r) t → t ≠ q → x = lN (chv r s p q n (d + 1) t)) := by
        by_cases c : t = 8 ∨ t < 2 * rG r
        · rw [if_pos (by simpa using c)]
          have eF : ((10 : Int32) - nI (rF r)).toInt64 = lN (10 - rF r) := by
            have : (10 : Int32) - nI (rF r) = nI (10 - rF r) := nI_sub (a := 10) hF
            rw [this, nI_l (by omega)]
          have r1 : f_River_row (nI p) (nI k) 1 a2 = some (nI (12 * p + 2 * k + 1)) := n_row (f := 1) (by decide)
          have r0 : f_River_row (nI p) (nI k) 0 a2 = some (nI (12 * p + 2 * k + 0)) := n_row (f := 0) (by decide)
          unfold f_Chances_weighed
          rw [r1, Option.bind_some, n_rd (by omega) (by decide), Option.bind_some, V2.wk hkW, n_lik V2 hp hkW (by decide) c N2.2.2 hV (by rw [i3]; exact e), Option.bind_some, r0, Option.bind_some, Option.bind_some, n_lik V2 hp hkW (by decide) c N2.2.2 hV (by rw [i3]; exact e), Option.bind_some, V2.f, nI_l (by omega), eF, lN_mul, lN_mul, lN_add, Option.bind_some]
          refine ⟨_, rfl, fun _ hq => ?_⟩
          rw [chv, if_neg hq, ← hk, Nat.mul_comm, Nat.mul_comm (10 - rF r)]
        · rw [if_neg (by simpa using c)]
          exact ⟨_, rfl, fun hv _ => absurd hv c⟩
      obtain ⟨x, hx1, hx2⟩ := hval
      rw [f_Chances_outOfPower_L67, if_neg (show ¬ (9 : Int32) ≤ nI t from nI_ge (b := 9) ht (by decide)), hasSpot_t V2 (by omega), Option.bind_some, hx1, Option.bind_some, N2.2.1, n_wrJ ht (by decide), Option.bind_some]
      refine ⟨_, _, rfl, nI_up, i1.tr (keT.sJ snx), i2, ?_, fun j hj hv hq => ?_⟩
      · rw [sJ_row, if_neg hne]; exact i3
      · rw [sJ_row, if_pos rfl]
        by_cases z : j = t
        · subst z; rw [up_s]; exact hx2 hv hq
        · rw [up_n z]; exact i4 j (by omega) hv hq)
    (fun m a1 a2 hI => by
      obtain ⟨rfl, i1⟩ := hI
      rw [f_Chances_outOfPower_L67, if_pos (show (9 : Int32) ≤ nI 9 by decide)]
      exact ⟨_, rfl, i1⟩) (by decide) 0 h ⟨rfl, keT.rf, rfl, rfl, fun j hj => by omega⟩
  obtain ⟨c1, c2⟩ := c
  exact ⟨c1, c2, f1, f2, f3, fun j hj hq => f5 j (by rcases hj with z | z <;> omega) hj hq⟩
theorem tRef.c {h : am_H} (t : tRef h) : ∃ cu nx, tC h cu nx := by
  rcases t.2 with ⟨a, b⟩ | ⟨a, b⟩
  · exact ⟨100, 101, .inl ⟨rfl, rfl⟩, a, b⟩
  · exact ⟨101, 100, .inr ⟨rfl, rfl⟩, a, b⟩
theorem n_out {h : am_H} {r : sR} {s : sS} {p q n : Nat} (V : tV h r s) (t : tRef h) (hp : p < rP r) (hq : vSp (rG r) q) (hn : n ≤ 9) :
    ∃ h', f_Chances_outOfPower (nI p) (nI q) (nI n) h = some (lN (chv r s p q n n (sP s p)), h') ∧ keT h h' := by
  have hP := V.hP
  have hG := V.hG
  have hW := V.hW
  have hH := V.hH
  have hsp := V.hsp hp
  have hx9 : sP s p < 9 := by rcases hsp with c | c <;> omega
  have hq9 : q < 9 := by rcases hq with c | c <;> omega
  obtain ⟨cu, nx, N⟩ := t.c
  have scu : scr cu := by unfold scr; have := N.1; omega
  obtain ⟨h1, g1, g2, g3, g4, g5, g6, g7⟩ := n_fillJ (h := h) (o := cu) (L := 9) (v := 0) (by decide)
  have k1 := keT.fillJ scu g3 g4 g5
  have N1 := N.eq g4
  have k2 : keT h (am_sJ h1 cu q 1) := k1.tr (keT.sJ scu)
  have L := lq2 (fun k (a1 : Int32) (a2 : am_H) => f_Chances_outOfPower_L20 (nI p) (nI q) (nI n) k a1 a2)
    (fun m a1 a2 => m ≤ n ∧ (m = 0 ∧ a1 = -1 ∨ 0 < m ∧ a1 = nI (m - 1)) ∧ keT h a2 ∧ ∃ cu nx, tC a2 cu nx ∧ eqv (rG r) (a2.2.2.1 cu) (chv r s p q n (n - m)))
    (fun d => keT h d.2 ∧ ∃ cu nx, tC d.2 cu nx ∧ eqv (rG r) (d.2.2.2.1 cu) (chv r s p q n n))
    (fun k m a1 a2 hI => by
      obtain ⟨hm, ha, i2, cu, nx, i3, i4⟩ := hI
      rcases ha with ⟨rfl, rfl⟩ | ⟨hm0, rfl⟩
      · left
        rw [f_Chances_outOfPower_L20, if_pos (by decide)]
        exact ⟨_, rfl, i2, cu, nx, i3, i4⟩
      · right
        rw [f_Chances_outOfPower_L20, if_neg (nI_pos (by omega))]
        simp only [am_let]
        rw [i3.2.1, i3.2.2]
        have kk : keT h (am_sR (am_sR a2 99 3 (some cu)) 99 2 (some nx)) := ⟨i2.1, fun t => by
          have t2 := i2.2 t
          refine ⟨?_, ?_⟩
          · simp only [rf_sR]
            simpa using t2.1
          · simp only [rf_sR]
            have := i3.1
            simp
            omega⟩
        have N9 : tC (am_sR (am_sR a2 99 3 (some cu)) 99 2 (some nx)) nx cu := ⟨by have := i3.1; omega, by simp [rf_sR], by simp [rf_sR]⟩
        have V9 := V.ke kk
        have hk : (sH s + (m - 1)) % rW r = kN r s (n - (n - m + 1)) := by
          show _ = (sH s + (n - (n - m + 1))) % rW r
          rw [show n - (n - m + 1) = m - 1 by omega]
        obtain ⟨y, h2, j1, j2, j3, j4⟩ := n_cp67 (q := q) (p2 := nI q) (p3 := nI n) (v4 := nI (m - 1)) (d := n - m) V9 N9 hp (by omega) hk i4
        have N2 := N9.eq j3
        have snx : scr nx := by unfold scr; have := i3.1; omega
        have e1 : nI n - nI (m - 1) = nI (n - m + 1) := by rw [nI_sub (by omega)]; congr 1; omega
        rw [V9.ho, nI_add, n_hourOfWeek V9.1 V9.2.2.1 (by omega), Option.bind_some, j1, Option.bind_some]
        simp only
        rw [e1, n_power (by omega), Option.bind_some, N2.2.1, n_wrJ hq9 (by decide), Option.bind_some]
        refine ⟨m - 1, _, _, by omega, rfl, by omega, ?_, (kk.tr j2).tr (keT.sJ snx), nx, cu, N2.eq rfl, fun j hj => ?_⟩
        · by_cases c : m = 1
          · subst c; exact .inl ⟨rfl, rfl⟩
          · exact .inr ⟨by omega, nI_m1 (by omega)⟩
        · rw [sJ_row, if_pos rfl, show n - (m - 1) = n - m + 1 by omega]
          by_cases z : j = q
          · subst z; rw [up_s, chv, if_pos rfl]
          · rw [up_n z]; exact j4 j hj z)
  obtain ⟨b, f1, f2, cu', nx', f3, f4⟩ := L am_fu n (nI n - 1) (am_sJ h1 cu q 1) (by unfold am_fu; omega) ⟨Nat.le_refl _, by
      by_cases c : n = 0
      · subst c; exact .inl ⟨rfl, rfl⟩
      · exact .inr ⟨by omega, nI_sub (b := 1) (by omega)⟩, k2, cu, nx, N1.eq rfl, fun j hj => by
      rw [Nat.sub_self, chv, sJ_row, if_pos rfl]
      by_cases z : j = q
      · subst z; rw [up_s, if_pos rfl]; rfl
      · rw [up_n z, if_neg z, g6 j (by rcases hj with z | z <;> omega)]; rfl⟩
  have V3 := V.ke f2
  unfold f_Chances_outOfPower
  rw [N.2.1, g1, Option.bind_some, N1.2.1, n_wrJ hq9 (by decide), Option.bind_some, f1, Option.bind_some, n_rd (by omega) (by decide), Option.bind_some, V3.sp hp, f3.2.1, n_rd hx9 (by decide), Option.bind_some, f4 _ hsp]
  exact ⟨_, rfl, f2⟩
/-! the reference -/
theorem n_bestOn {h : am_H} {r : sR} {s : sS} {p x t f : Nat} {W : Nat → Nat} (V : mV (h.2.1 137) r s) (M : mT p r h) (hx : vSp (rG r) x) (ht : t < 2 ^ 31) (hf : f < 2) (hW : ∀ j, W j < 2 ^ 31) (e : eqv (rG r) (h.2.2.1 156) W) :
    f_Mod_bestOn (nI x) (nI t) (nI f) h = some (lN (mxB (fun j => (go r p (t % rW r) f (sW s (t % rW r)) (1 <<< x)).testBit j) W 9)) := by
  have hG := V.hG
  have hx9 : x < 9 := by rcases hx with c | c <;> omega
  have hkW : t % rW r < rW r := Nat.mod_lt _ (by have := V.hW; omega)
  have e12 : 1 <<< x < 512 := (one_v (G := rG r) hx).lt hG.2
  have hv := go_v (p := p) (k := t % rW r) (f := f) V.1 (V.vw _ hkW) (one_v hx)
  have hg5 := hv.lt hG.2
  generalize hgo : go r p (t % rW r) f (sW s (t % rW r)) (1 <<< x) = S at *
  obtain ⟨c, f1, f2⟩ := lpc2 (fun m (a1 : Int64) (a2 : Int32) => f_Mod_bestOn_L17 (nI x) (nI t) (nI f) m (nI S) a1 a2 h) 9
    (fun u a1 a2 => a1 = lN (mxB (fun j => S.testBit j) W u) ∧ a2 = nI u) (fun d => d.1 = lN (mxB (fun j => S.testBit j) W 9))
    (fun m u a1 a2 hu hI => by
      obtain ⟨rfl, rfl⟩ := hI
      have hb : mxB (fun j => S.testBit j) W u < 2 ^ 31 := by
        have := mxB_le (c := fun j => S.testBit j) (V := W) (n := u) (b := 2 ^ 31 - 1) (fun j _ _ => by have := hW j; omega)
        omega
      rw [f_Mod_bestOn_L17, if_neg (show ¬ (9 : Int32) ≤ nI u from nI_ge (b := 9) hu (by decide)), n_isIn (by omega) (by omega), Option.bind_some, nI_up]
      cases hc : S.testBit u with
      | true =>
        have hcle : (lg_cmp (lN (W u)) (lN (mxB (fun j => S.testBit j) W u)) ≤ 0) = (W u ≤ mxB (fun j => S.testBit j) W u) := by
          apply propext
          rw [← Int32.not_lt, cq_gt, lN_toInt hb, lN_toInt (hW u)]
          omega
        rw [if_tt, n_rd hu (by decide), Option.bind_some, e u (hv u hc), Option.bind_some]
        simp only [hcle]
        by_cases d : W u ≤ mxB (fun j => S.testBit j) W u
        · rw [if_pos d]
          exact ⟨_, _, rfl, by rw [mxB, if_pos hc, show max (mxB (fun j => S.testBit j) W u) (W u) = mxB (fun j => S.testBit j) W u by omega], rfl⟩
        · rw [if_neg d]
          exact ⟨_, _, rfl, by rw [mxB, if_pos hc, show max (mxB (fun j => S.testBit j) W u) (W u) = W u by omega], rfl⟩
      | false =>
        rw [if_ff]
        exact ⟨_, _, rfl, by rw [mxB, if_neg (by simp [hc])], rfl⟩)
    (fun m a1 a2 hI => by
      obtain ⟨rfl, rfl⟩ := hI
      rw [f_Mod_bestOn_L17, if_pos (show (9 : Int32) ≤ nI 9 by decide)]
      exact ⟨_, rfl, rfl⟩) (by decide) 0 0 ⟨rfl, rfl⟩
  unfold f_Mod_bestOn
  rw [shl1 (by omega), n_goesOn V M e12 ht hf, Option.bind_some, hgo, f1, Option.bind_some, f2]
theorem n_mc63 {h : am_H} {r : sR} {s : sS} {p q n d t : Nat} {p3 : Int32} (V : mV (h.2.1 137) r s) (M : mT p r h) (hq9 : q < 9) (hd : d ≤ 8) (ht : t = n - (d + 1)) (ht9 : t ≤ 9) (e : eqv (rG r) (h.2.2.1 156) (chv r s p q n d)) :
    ∃ y h', f_Mod_chanceOf_L63 (nI p) (nI q) p3 am_fu (lN (10 ^ (d + 1))) (nI t) 0 h = some (y, h') ∧ keM h h' ∧ h'.2.1 = h.2.1 ∧ eqv (rG r) (h'.2.2.1 157) (chv r s p q n (d + 1)) := by
  have hG := V.hG
  have hH := V.hH
  have hF := V.1.2.2.2.1
  have hV : ∀ j, chv r s p q n d j < 2 ^ 31 := fun j => by
    have h1 := chv_le (s := s) (p := p) (q := q) (n := n) V.1 d j
    have h2 := p10_lt (show d ≤ 9 by omega)
    omega
  obtain ⟨c, f1, f2, f3, f4, f5⟩ := lpc2 (fun m (a1 : Int32) (a2 : am_H) => f_Mod_chanceOf_L63 (nI p) (nI q) p3 m (lN (10 ^ (d + 1))) (nI t) a1 a2) 9
    (fun u a1 a2 => a1 = nI u ∧ keM h a2 ∧ a2.2.1 = h.2.1 ∧ a2.2.2.1 156 = h.2.2.1 156 ∧ ∀ j, j < u → vSp (rG r) j → a2.2.2.1 157 j = lN (chv r s p q n (d + 1) j))
    (fun c => keM h c.2 ∧ c.2.2.1 = h.2.1 ∧ c.2.2.2.1 156 = h.2.2.1 156 ∧ ∀ j, j < 9 → vSp (rG r) j → c.2.2.2.1 157 j = lN (chv r s p q n (d + 1) j))
    (fun m u a1 a2 hu hI => by
      obtain ⟨rfl, i1, i2, i3, i4⟩ := hI
      have V2 : mV (a2.2.1 137) r s := by rw [i2]; exact V
      have M2 : mT p r a2 := M.cg (fun a _ _ => by rw [i2])
      rw [f_Mod_chanceOf_L63, if_neg (show ¬ (9 : Int32) ≤ nI u from nI_ge (b := 9) hu (by decide)), isSpot_t V2 hu, Option.bind_some, nI_up]
      by_cases c : u = 8 ∨ u < 2 * rG r
      · have hval : ((if nI u = nI q then some (lN (10 ^ (d + 1))) else (am_rd (a2.2.1 137) 3411 (4 : Int32)).bind fun x12 => (f_Mod_bestOn (nI u) (nI (sH s) + nI t) (1 : Int32) a2).bind fun q13 => (am_rd (a2.2.1 137) 3411 (4 : Int32)).bind fun x14 => (f_Mod_bestOn (nI u) (nI (sH s) + nI t) (0 : Int32) a2).bind fun q15 => some ((((x12).toInt64) * q13) + (((((10 : Int32) - x14)).toInt64) * q15))) : Option Int64) = some (lN (chv r s p q n (d + 1) u)) := by
          by_cases z : u = q
          · rw [if_pos (by rw [z]), z, chv, if_pos rfl]
          · have eF : ((10 : Int32) - nI (rF r)).toInt64 = lN (10 - rF r) := by
              have : (10 : Int32) - nI (rF r) = nI (10 - rF r) := nI_sub (a := 10) hF
              rw [this, nI_l (by omega)]
            have b1 : f_Mod_bestOn (nI u) (nI (sH s + t)) 1 a2 = _ := n_bestOn (f := 1) V2 M2 c (show sH s + t < 2 ^ 31 by omega) (by decide) hV (by rw [i3]; exact e)
            have b0 : f_Mod_bestOn (nI u) (nI (sH s + t)) 0 a2 = _ := n_bestOn (f := 0) V2 M2 c (show sH s + t < 2 ^ 31 by omega) (by decide) hV (by rw [i3]; exact e)
            rw [if_neg (fun w => z ((nI_eq (by omega) (by omega)).mp w)), rd_lit (by decide) (by decide), Option.bind_some, nI_add, b1, Option.bind_some, Option.bind_some, b0, Option.bind_some, V2.f, nI_l (by omega), eF, lN_mul, lN_mul, lN_add, chv, if_neg z, ← ht]
            rfl
        rw [if_pos (by simpa using c), rd_lit (by decide) (by decide), Option.bind_some, V2.ho, hval, Option.bind_some, n_wrJ hu (by decide), Option.bind_some]
        refine ⟨_, _, rfl, rfl, i1.tr (keM.sJ (by decide) (by decide)), i2, ?_, fun j hj hv => ?_⟩
        · rw [sJ_row, if_neg (by decide)]; exact i3
        · rw [sJ_row, if_pos rfl]
          by_cases z : j = u
          · subst z; rw [up_s]
          · rw [up_n z]; exact i4 j (by omega) hv
      · rw [if_neg (by simpa using c)]
        refine ⟨_, _, rfl, rfl, i1, i2, i3, fun j hj hv => ?_⟩
        by_cases z : j = u
        · subst z; exact absurd hv c
        · exact i4 j (by omega) hv)
    (fun m a1 a2 hI => by
      obtain ⟨rfl, i1⟩ := hI
      rw [f_Mod_chanceOf_L63, if_pos (show (9 : Int32) ≤ nI 9 by decide)]
      exact ⟨_, rfl, i1⟩) (by decide) 0 h ⟨rfl, keM.rf, rfl, rfl, fun j hj => by omega⟩
  obtain ⟨c1, c2⟩ := c
  exact ⟨c1, c2, f1, f2, f3, fun j hj => f5 j (by rcases hj with z | z <;> omega) hj⟩
theorem n_mc160 {h : am_H} {p1 p2 p3 v6 : Int32} {v4 : Int64} : ∃ y h', f_Mod_chanceOf_L160 p1 p2 p3 am_fu v4 v6 0 h = some (y, h') ∧ keM h h' ∧ h'.2.1 = h.2.1 ∧ ∀ j, j < 9 → h'.2.2.1 156 j = h.2.2.1 157 j := by
  obtain ⟨c, f1, f2, f3, f4, f5⟩ := lpc2 (fun m (a1 : Int32) (a2 : am_H) => f_Mod_chanceOf_L160 p1 p2 p3 m v4 v6 a1 a2) 9
    (fun u a1 a2 => a1 = nI u ∧ keM h a2 ∧ a2.2.1 = h.2.1 ∧ a2.2.2.1 157 = h.2.2.1 157 ∧ ∀ j, j < u → a2.2.2.1 156 j = h.2.2.1 157 j)
    (fun c => keM h c.2 ∧ c.2.2.1 = h.2.1 ∧ c.2.2.2.1 157 = h.2.2.1 157 ∧ ∀ j, j < 9 → c.2.2.2.1 156 j = h.2.2.1 157 j)
    (fun m u a1 a2 hu hI => by
      obtain ⟨rfl, i1, i2, i3, i4⟩ := hI
      rw [f_Mod_chanceOf_L160, if_neg (show ¬ (9 : Int32) ≤ nI u from nI_ge (b := 9) hu (by decide)), n_rd hu (by decide), Option.bind_some, i3, n_wrJ hu (by decide), Option.bind_some]
      refine ⟨_, _, rfl, nI_up, i1.tr (keM.sJ (by decide) (by decide)), i2, ?_, fun j hj => ?_⟩
      · rw [sJ_row, if_neg (by decide)]; exact i3
      · rw [sJ_row, if_pos rfl]
        by_cases z : j = u
        · subst z; rw [up_s]
        · rw [up_n z]; exact i4 j (by omega))
    (fun m a1 a2 hI => by
      obtain ⟨rfl, i1⟩ := hI
      rw [f_Mod_chanceOf_L160, if_pos (show (9 : Int32) ≤ nI 9 by decide)]
      exact ⟨_, rfl, i1⟩) (by decide) 0 h ⟨rfl, keM.rf, rfl, rfl, fun j hj => by omega⟩
  obtain ⟨c1, c2⟩ := c
  exact ⟨c1, c2, f1, f2, f3, f5⟩
theorem n_chanceOf {h : am_H} {r : sR} {s : sS} {p q n : Nat} (V : mV (h.2.1 137) r s) (hp : p < rP r) (hq : vSp (rG r) q) (hn : n ≤ 9) :
    ∃ h', f_Mod_chanceOf (nI p) (nI q) (nI n) h = some (lN (chv r s p q n n (sP s p)), h') ∧ keM h h' := by
  have hP := V.hP
  have hG := V.hG
  have hsp := V.hsp hp
  have hx9 : sP s p < 9 := by rcases hsp with c | c <;> omega
  have hq9 : q < 9 := by rcases hq with c | c <;> omega
  obtain ⟨h1, a1, a2, a3⟩ := n_laysLets hp V
  have V1 := V.ex a2 (by decide)
  obtain ⟨b, f1, f2, f3, f4⟩ := lpc2 (fun m (c1 : Int32) (c2 : am_H) => f_Mod_chanceOf_L11 (nI p) (nI q) (nI n) m 1 c1 c2) 9
    (fun u c1 c2 => c1 = nI u ∧ keM h1 c2 ∧ c2.2.1 = h1.2.1 ∧ ∀ j, j < u → c2.2.2.1 156 j = lN (chv r s p q n 0 j))
    (fun d => keM h1 d.2 ∧ d.2.2.1 = h1.2.1 ∧ ∀ j, j < 9 → d.2.2.2.1 156 j = lN (chv r s p q n 0 j))
    (fun m u c1 c2 hu hI => by
      obtain ⟨rfl, i1, i2, i3⟩ := hI
      rw [f_Mod_chanceOf_L11, if_neg (show ¬ (9 : Int32) ≤ nI u from nI_ge (b := 9) hu (by decide)), n_wrJ hu (by decide), Option.bind_some]
      refine ⟨_, _, rfl, nI_up, i1.tr (keM.sJ (by decide) (by decide)), i2, fun j hj => ?_⟩
      rw [sJ_row, if_pos rfl]
      by_cases z : j = u
      · subst z
        rw [up_s, chv]
        by_cases w : j = q
        · rw [if_pos (by rw [w]), if_pos w]; rfl
        · rw [if_neg (fun y => w ((nI_eq (by omega) (by omega)).mp y)), if_neg w]; rfl
      · rw [up_n z]; exact i3 j (by omega))
    (fun m c1 c2 hI => by
      obtain ⟨rfl, i1⟩ := hI
      rw [f_Mod_chanceOf_L11, if_pos (show (9 : Int32) ≤ nI 9 by decide)]
      exact ⟨_, rfl, i1⟩) (by decide) 0 h1 ⟨rfl, keM.rf, rfl, fun j hj => by omega⟩
  have L := lq3 (fun k (c1 : Int64) (c2 : Int32) (c3 : am_H) => f_Mod_chanceOf_L47 (nI p) (nI q) (nI n) k c1 c2 c3)
    (fun m c1 c2 c3 => m ≤ n ∧ c1 = lN (10 ^ (n - m)) ∧ (m = 0 ∧ c2 = -1 ∨ 0 < m ∧ c2 = nI (m - 1)) ∧ keM h1 c3 ∧ c3.2.1 = h1.2.1 ∧ eqv (rG r) (c3.2.2.1 156) (chv r s p q n (n - m)))
    (fun d => keM h1 d.2.2 ∧ d.2.2.2.1 = h1.2.1 ∧ eqv (rG r) (d.2.2.2.2.1 156) (chv r s p q n n))
    (fun k m c1 c2 c3 hI => by
      obtain ⟨hm, rfl, ha, i2, i3, i4⟩ := hI
      rcases ha with ⟨rfl, rfl⟩ | ⟨hm0, rfl⟩
      · left
        rw [f_Mod_chanceOf_L47, if_pos (by decide)]
        exact ⟨_, rfl, i2, i3, i4⟩
      · right
        have V2 : mV (c3.2.1 137) r s := by rw [i3]; exact V1
        have M2 : mT p r c3 := a3.cg (fun a _ _ => by rw [i3])
        obtain ⟨y, h2, j1, j2, j3, j4⟩ := n_mc63 (p3 := nI n) (d := n - m) (t := m - 1) V2 M2 hq9 (by omega) (by omega) (by omega) i4
        obtain ⟨y', h3, l1, l2, l3, l4⟩ := n_mc160 (h := h2) (p1 := nI p) (p2 := nI q) (p3 := nI n) (v4 := lN (10 ^ (n - m + 1))) (v6 := nI (m - 1))
        have e10 : lN (10 ^ (n - m)) * (10 : Int64) = lN (10 ^ (n - m + 1)) := by rw [lN_p, Nat.pow_succ]
        rw [f_Mod_chanceOf_L47, if_neg (nI_pos (by omega)), e10, j1, Option.bind_some]
        simp only
        rw [l1, Option.bind_some]
        refine ⟨m - 1, _, _, _, by omega, rfl, by omega, by rw [show n - (m - 1) = n - m + 1 by omega], ?_, (i2.tr j2).tr l2, by rw [l3, j3, i3], fun j hj => ?_⟩
        · by_cases c : m = 1
          · subst c; exact .inl ⟨rfl, rfl⟩
          · exact .inr ⟨by omega, nI_m1 (by omega)⟩
        · rw [show n - (m - 1) = n - m + 1 by omega, l4 j (by rcases hj with z | z <;> omega)]
          exact j4 j hj)
  obtain ⟨d, g1, g2, g3, g4⟩ := L am_fu n 1 (nI n - 1) b.2 (by unfold am_fu; omega) ⟨Nat.le_refl _, by rw [Nat.sub_self]; rfl, by
      by_cases c : n = 0
      · subst c; exact .inl ⟨rfl, rfl⟩
      · exact .inr ⟨by omega, nI_sub (b := 1) (by omega)⟩, f2, f3, fun j hj => by
      rw [Nat.sub_self]
      exact f4 j (by rcases hj with z | z <;> omega)⟩
  have V3 : mV (d.2.2.2.1 137) r s := by rw [g3]; exact V1
  have e35 : (35 : Int32) + nI p = nI (35 + p) := nI_add 35 p
  unfold f_Mod_chanceOf
  rw [a1, Option.bind_some, f1, Option.bind_some, g1, Option.bind_some, e35, n_rd (by omega) (by decide), Option.bind_some, V3.sp hp, n_rd hx9 (by decide), Option.bind_some, g4 _ hsp]
  exact ⟨_, rfl, (a2.keM (by decide)).tr g2⟩
