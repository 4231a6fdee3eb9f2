-- deps: 91.river
/-! ===== the law's loop ===== -/
theorem cl1 {b : Nat} {t : am_H → Option Int32} {m : am_H → Option (Int32 × am_H)} {F : am_H → Option (Bool × am_H)} {h : am_H} (o : ok1 b t m) (R : RR b h) : ∃ h', RR (b + 48) h' ∧ ((t h).bind fun q => (m h).bind fun q2 => if q = q2.1 then F q2.2 else some (false, q2.2)) = F h' := by
  obtain ⟨x, h', e1, e2, R'⟩ := o h R
  refine ⟨h', R', ?_⟩
  rw [e1, Option.bind_some, e2, Option.bind_some, if_pos rfl]
theorem cl2 {b : Nat} {t m : am_H → Option (Int32 × am_H)} {F : am_H → Option (Bool × am_H)} {h : am_H} (o : ok2 b t m) (R : RR b h) : ∃ h', RR (b + 48) h' ∧ ((t h).bind fun q => (m q.2).bind fun q2 => if q.1 = q2.1 then F q2.2 else some (false, q2.2)) = F h' := by
  obtain ⟨x, h', h'', e1, e2, R'⟩ := o h R
  refine ⟨h'', R', ?_⟩
  rw [e1, Option.bind_some, e2, Option.bind_some, if_pos rfl]
theorem lg_rf (x : Int64) : lg_cmp x x = 0 := by
  have h1 : lg_cmp x x ≤ 0 := by rw [lg_le]; exact Int.le_refl _
  have h2 : 0 ≤ lg_cmp x x := by rw [lg_ge]; exact Int.le_refl _
  exact Int32.le_antisymm h1 h2
theorem cl3 {b : Nat} {t m : am_H → Option (Int64 × am_H)} {F : am_H → Option (Bool × am_H)} {h : am_H} (o : ok2 b t m) (R : RR b h) : ∃ h', RR (b + 48) h' ∧ ((t h).bind fun q => (m q.2).bind fun q2 => if lg_cmp q.1 q2.1 = 0 then F q2.2 else some (false, q2.2)) = F h' := by
  obtain ⟨x, h', h'', e1, e2, R'⟩ := o h R
  refine ⟨h'', R', ?_⟩
  rw [e1, Option.bind_some, e2, Option.bind_some, if_pos (lg_rf x)]
theorem RR.up {b b' : Nat} {h : am_H} (R : RR b h) (hb : b ≤ b') : RR b' h := by
  obtain ⟨g, v, T, M⟩ := R
  exact ⟨g, v.up hb, T, M⟩
theorem sub6 {L k : Nat} (hL : L ≤ 3072) (hk : k ≤ 3072) : (nI L - (6 : Int32) < nI k) = (L < k + 6) := by
  apply propext
  have e6 : (6 : Int32).toInt = 6 := by decide
  rw [Int32.lt_iff_toInt_lt, Int32.toInt_sub, nI_toInt (by omega), nI_toInt (by omega), e6, Int.bmod_eq_of_le (by omega) (by omega)]
  omega
set_option maxHeartbeats 4000000 in
theorem lw_step {L : Nat} {xs : Nat → Int32} {n i b : Nat} {h : am_H} (hL : L ≤ 3072) (hi : 6 * i + 6 ≤ L) (hb0 : 1000 ≤ b) (hb : b ≤ 90000) (R : RR b h) : ∃ h', RR (b + 48) h' ∧ f_Lw_law_L18 L xs (n + 1) (nI (6 * i)) h = f_Lw_law_L18 L xs n (nI (6 * i + 6)) h' := by
  have r0 : am_rd xs L (nI (6 * i)) = some (xs (6 * i)) := n_rd (by omega) (by omega)
  have r1 : am_rd xs L (nI (6 * i) + (1 : Int32)) = some (xs (6 * i + 1)) := by rw [show nI (6 * i) + (1 : Int32) = nI (6 * i + 1) from nI_add _ 1]; exact n_rd (by omega) (by omega)
  have r2 : am_rd xs L (nI (6 * i) + (2 : Int32)) = some (xs (6 * i + 2)) := by rw [show nI (6 * i) + (2 : Int32) = nI (6 * i + 2) from nI_add _ 2]; exact n_rd (by omega) (by omega)
  have r3 : am_rd xs L (nI (6 * i) + (3 : Int32)) = some (xs (6 * i + 3)) := by rw [show nI (6 * i) + (3 : Int32) = nI (6 * i + 3) from nI_add _ 3]; exact n_rd (by omega) (by omega)
  have r4 : am_rd xs L (nI (6 * i) + (4 : Int32)) = some (xs (6 * i + 4)) := by rw [show nI (6 * i) + (4 : Int32) = nI (6 * i + 4) from nI_add _ 4]; exact n_rd (by omega) (by omega)
  have r5 : am_rd xs L (nI (6 * i) + (5 : Int32)) = some (xs (6 * i + 5)) := by rw [show nI (6 * i) + (5 : Int32) = nI (6 * i + 5) from nI_add _ 5]; exact n_rd (by omega) (by omega)
  have e6 : nI (6 * i) + (6 : Int32) = nI (6 * i + 6) := nI_add _ 6
  have c0 : ¬ Int32.ofNat L - (6 : Int32) < nI (6 * i) := by
    have := sub6 (L := L) (k := 6 * i) hL (by omega)
    intro q
    have q' : nI L - (6 : Int32) < nI (6 * i) := q
    rw [this] at q'
    omega
  rw [f_Lw_law_L18, if_neg c0, r0, Option.bind_some, e6]
  generalize xs (6 * i) &&& (63 : Int32) = w
  by_cases c1 : w = (0 : Int32)
  · rw [if_pos c1]
    simp only [r1, r2, r3, r4, r5, Option.bind_some]
    exact cl2 (F := f_Lw_law_L18 L xs n (nI (6 * i + 6))) (ok_feed b hb (xs (6 * i + 1)) (xs (6 * i + 2)) (xs (6 * i + 3)) (xs (6 * i + 4)) (xs (6 * i + 5))) R
  rw [if_neg c1]
  by_cases c2 : w = (1 : Int32)
  · rw [if_pos c2]
    simp only [r1, Option.bind_some]
    exact cl2 (F := f_Lw_law_L18 L xs n (nI (6 * i + 6))) (ok_river b hb0 hb (xs (6 * i + 1))) R
  rw [if_neg c2]
  by_cases c3 : w = (2 : Int32)
  · rw [if_pos c3]
    simp only [r1, Option.bind_some]
    exact cl1 (F := f_Lw_law_L18 L xs n (nI (6 * i + 6))) (ok_fault b (xs (6 * i + 1))) R
  rw [if_neg c3]
  by_cases c4 : w = (3 : Int32)
  · rw [if_pos c4]
    simp only [r1, Option.bind_some]
    exact cl1 (F := f_Lw_law_L18 L xs n (nI (6 * i + 6))) (ok_span b hb (xs (6 * i + 1))) R
  rw [if_neg c4]
  by_cases c5 : w = (4 : Int32)
  · rw [if_pos c5]
    simp only [r1, r2, Option.bind_some]
    exact cl1 (F := f_Lw_law_L18 L xs n (nI (6 * i + 6))) (ok_person b hb (xs (6 * i + 1)) (xs (6 * i + 2))) R
  rw [if_neg c5]
  by_cases c6 : w = (5 : Int32)
  · rw [if_pos c6]
    simp only [r1, r2, Option.bind_some]
    exact cl1 (F := f_Lw_law_L18 L xs n (nI (6 * i + 6))) (ok_why b hb (xs (6 * i + 1)) (xs (6 * i + 2))) R
  rw [if_neg c6]
  by_cases c7 : w = (6 : Int32)
  · rw [if_pos c7]
    simp only [r1, r2, Option.bind_some]
    exact cl2 (F := f_Lw_law_L18 L xs n (nI (6 * i + 6))) (ok_act b hb (xs (6 * i + 1)) (xs (6 * i + 2))) R
  rw [if_neg c7]
  by_cases c8 : w = (7 : Int32)
  · rw [if_pos c8]
    simp only [r1, r2, Option.bind_some]
    exact cl2 (F := f_Lw_law_L18 L xs n (nI (6 * i + 6))) (ok_tell b hb (xs (6 * i + 1)) (xs (6 * i + 2))) R
  rw [if_neg c8]
  by_cases c9 : w = (8 : Int32)
  · rw [if_pos c9]
    simp only [r1, Option.bind_some]
    exact cl2 (F := f_Lw_law_L18 L xs n (nI (6 * i + 6))) (ok_fog b hb (xs (6 * i + 1))) R
  rw [if_neg c9]
  by_cases c10 : w = (9 : Int32)
  · rw [if_pos c10]
    simp only [r1, Option.bind_some]
    exact cl2 (F := f_Lw_law_L18 L xs n (nI (6 * i + 6))) (ok_hours b hb (xs (6 * i + 1))) R
  rw [if_neg c10]
  by_cases c11 : w = (10 : Int32)
  · rw [if_pos c11]
    simp only [r1, Option.bind_some]
    exact cl2 (F := f_Lw_law_L18 L xs n (nI (6 * i + 6))) (ok_undo b hb (xs (6 * i + 1))) R
  rw [if_neg c11]
  by_cases c12 : w = (11 : Int32)
  · rw [if_pos c12]
    simp only [r1, r2, Option.bind_some]
    exact cl2 (F := f_Lw_law_L18 L xs n (nI (6 * i + 6))) (ok_judge b hb (xs (6 * i + 1)) (xs (6 * i + 2))) R
  rw [if_neg c12]
  by_cases c13 : w = (12 : Int32)
  · rw [if_pos c13]
    simp only [r1, Option.bind_some]
    exact cl2 (F := f_Lw_law_L18 L xs n (nI (6 * i + 6))) (ok_perform b hb (xs (6 * i + 1))) R
  rw [if_neg c13]
  by_cases c14 : w = (13 : Int32)
  · rw [if_pos c14]
    simp only [r1, r2, Option.bind_some]
    exact cl2 (F := f_Lw_law_L18 L xs n (nI (6 * i + 6))) (ok_year b hb (xs (6 * i + 1)) (xs (6 * i + 2))) R
  rw [if_neg c14]
  by_cases c15 : w = (14 : Int32)
  · rw [if_pos c15]
    simp only [r1, r2, Option.bind_some]
    exact cl1 (F := f_Lw_law_L18 L xs n (nI (6 * i + 6))) (ok_soonest b hb (xs (6 * i + 1)) (xs (6 * i + 2))) R
  rw [if_neg c15]
  by_cases c16 : w = (15 : Int32)
  · rw [if_pos c16]
    simp only [r1, r2, r3, Option.bind_some]
    exact cl2 (F := f_Lw_law_L18 L xs n (nI (6 * i + 6))) (ok_way b hb (xs (6 * i + 1)) (xs (6 * i + 2)) (xs (6 * i + 3))) R
  rw [if_neg c16]
  by_cases c17 : w = (16 : Int32)
  · rw [if_pos c17]
    simp only [r1, r2, r3, Option.bind_some]
    exact cl3 (F := f_Lw_law_L18 L xs n (nI (6 * i + 6))) (ok_ways b hb (xs (6 * i + 1)) (xs (6 * i + 2)) (xs (6 * i + 3))) R
  rw [if_neg c17]
  by_cases c18 : w = (17 : Int32)
  · rw [if_pos c18]
    simp only [r1, r2, Option.bind_some]
    exact cl1 (F := f_Lw_law_L18 L xs n (nI (6 * i + 6))) (ok_reach b hb (xs (6 * i + 1)) (xs (6 * i + 2))) R
  rw [if_neg c18]
  by_cases c19 : w = (18 : Int32)
  · rw [if_pos c19]
    simp only [r1, r2, Option.bind_some]
    exact cl1 (F := f_Lw_law_L18 L xs n (nI (6 * i + 6))) (ok_meet b hb (xs (6 * i + 1)) (xs (6 * i + 2))) R
  rw [if_neg c19]
  by_cases c20 : w = (19 : Int32)
  · rw [if_pos c20]
    simp only [r1, r2, Option.bind_some]
    exact cl1 (F := f_Lw_law_L18 L xs n (nI (6 * i + 6))) (ok_meetAt b hb (xs (6 * i + 1)) (xs (6 * i + 2))) R
  rw [if_neg c20]
  by_cases c21 : w = (20 : Int32)
  · rw [if_pos c21]
    exact cl1 (F := f_Lw_law_L18 L xs n (nI (6 * i + 6))) (ok_inTime b hb) R
  rw [if_neg c21]
  by_cases c22 : w = (21 : Int32)
  · rw [if_pos c22]
    simp only [r1, Option.bind_some]
    exact cl1 (F := f_Lw_law_L18 L xs n (nI (6 * i + 6))) (ok_spare b hb (xs (6 * i + 1))) R
  rw [if_neg c22]
  by_cases c23 : w = (22 : Int32)
  · rw [if_pos c23]
    simp only [r1, Option.bind_some]
    exact cl2 (F := f_Lw_law_L18 L xs n (nI (6 * i + 6))) (ok_needs b hb (xs (6 * i + 1))) R
  rw [if_neg c23]
  by_cases c24 : w = (23 : Int32)
  · rw [if_pos c24]
    exact cl1 (F := f_Lw_law_L18 L xs n (nI (6 * i + 6))) (ok_moves b hb) R
  rw [if_neg c24]
  by_cases c25 : w = (24 : Int32)
  · rw [if_pos c25]
    simp only [r1, Option.bind_some]
    exact cl2 (F := f_Lw_law_L18 L xs n (nI (6 * i + 6))) (ok_best b hb (xs (6 * i + 1))) R
  rw [if_neg c25]
  by_cases c26 : w = (25 : Int32)
  · rw [if_pos c26]
    exact cl2 (F := f_Lw_law_L18 L xs n (nI (6 * i + 6))) (ok_change b hb) R
  rw [if_neg c26]
  by_cases c27 : w = (26 : Int32)
  · rw [if_pos c27]
    exact cl2 (F := f_Lw_law_L18 L xs n (nI (6 * i + 6))) (ok_weeks b hb) R
  rw [if_neg c27]
  by_cases c28 : w = (27 : Int32)
  · rw [if_pos c28]
    exact cl2 (F := f_Lw_law_L18 L xs n (nI (6 * i + 6))) (ok_shift b hb) R
  rw [if_neg c28]
  by_cases c29 : w = (28 : Int32)
  · rw [if_pos c29]
    simp only [r1, r2, r3, Option.bind_some]
    exact cl2 (F := f_Lw_law_L18 L xs n (nI (6 * i + 6))) (ok_fits b hb (xs (6 * i + 1)) (xs (6 * i + 2)) (xs (6 * i + 3))) R
  rw [if_neg c29]
  by_cases c30 : w = (29 : Int32)
  · rw [if_pos c30]
    simp only [r1, r2, Option.bind_some]
    exact cl2 (F := f_Lw_law_L18 L xs n (nI (6 * i + 6))) (ok_surest b hb (xs (6 * i + 1)) (xs (6 * i + 2))) R
  rw [if_neg c30]
  by_cases c31 : w = (30 : Int32)
  · rw [if_pos c31]
    simp only [r1, r2, Option.bind_some]
    exact cl2 (F := f_Lw_law_L18 L xs n (nI (6 * i + 6))) (ok_odd b hb (xs (6 * i + 1)) (xs (6 * i + 2))) R
  rw [if_neg c31]
  by_cases c32 : w = (31 : Int32)
  · rw [if_pos c32]
    simp only [r1, r2, r3, r4, Option.bind_some]
    exact cl3 (F := f_Lw_law_L18 L xs n (nI (6 * i + 6))) (ok_chance b hb (xs (6 * i + 1)) (xs (6 * i + 2)) (xs (6 * i + 3)) (xs (6 * i + 4))) R
  rw [if_neg c32]
  by_cases c33 : w = (32 : Int32)
  · rw [if_pos c33]
    simp only [r1, r2, r3, Option.bind_some]
    exact cl2 (F := f_Lw_law_L18 L xs n (nI (6 * i + 6))) (ok_likely b hb (xs (6 * i + 1)) (xs (6 * i + 2)) (xs (6 * i + 3))) R
  rw [if_neg c33]
  by_cases c34 : w = (33 : Int32)
  · rw [if_pos c34]
    simp only [r1, r2, r3, Option.bind_some]
    exact cl2 (F := f_Lw_law_L18 L xs n (nI (6 * i + 6))) (ok_numbers b hb (xs (6 * i + 1)) (xs (6 * i + 2)) (xs (6 * i + 3))) R
  rw [if_neg c34]
  by_cases c35 : w = (34 : Int32)
  · rw [if_pos c35]
    simp only [r1, r2, r3, r4, Option.bind_some]
    exact cl3 (F := f_Lw_law_L18 L xs n (nI (6 * i + 6))) (ok_write b hb (xs (6 * i + 1)) (xs (6 * i + 2)) _) R
  rw [if_neg c35]
  by_cases c36 : w = (35 : Int32)
  · rw [if_pos c36]
    simp only [r1, r2, r3, Option.bind_some]
    exact cl2 (F := f_Lw_law_L18 L xs n (nI (6 * i + 6))) (ok_lists b hb (xs (6 * i + 1)) (xs (6 * i + 2)) (xs (6 * i + 3))) R
  rw [if_neg c36]
  by_cases c37 : w = (36 : Int32)
  · rw [if_pos c37]
    simp only [r1, Option.bind_some]
    exact cl2 (F := f_Lw_law_L18 L xs n (nI (6 * i + 6))) (ok_image b hb (xs (6 * i + 1))) R
  rw [if_neg c37]
  by_cases c38 : w = (37 : Int32)
  · rw [if_pos c38]
    simp only [r1, Option.bind_some]
    exact cl2 (F := f_Lw_law_L18 L xs n (nI (6 * i + 6))) (ok_restore b hb (xs (6 * i + 1))) R
  rw [if_neg c38]
  by_cases c39 : w = (38 : Int32)
  · rw [if_pos c39]
    simp only [r1, Option.bind_some]
    exact cl1 (F := f_Lw_law_L18 L xs n (nI (6 * i + 6))) (ok_count b hb (xs (6 * i + 1))) R
  rw [if_neg c39]
  exact ⟨h, R.up (by omega), rfl⟩
theorem lw_all {L : Nat} {xs : Nat → Int32} (hL : L ≤ 3072) : ∀ (c i n : Nat) (h : am_H), 6 * i ≤ L → L - 6 * i < c → c < n → RR (1000 + 48 * i) h → ∃ r, f_Lw_law_L18 L xs n (nI (6 * i)) h = some (true, r) := by
  intro c
  induction c with
  | zero => intro i n h h0 h1; omega
  | succ c ih =>
    intro i n h h0 h1 h2 R
    obtain ⟨n, rfl⟩ : ∃ n', n = n' + 1 := ⟨n - 1, by omega⟩
    by_cases d : L < 6 * i + 6
    · rw [f_Lw_law_L18, if_pos (show Int32.ofNat L - (6 : Int32) < nI (6 * i) from (sub6 (L := L) (k := 6 * i) hL (by omega)).symm ▸ d)]
      exact ⟨h, rfl⟩
    · obtain ⟨h', R', e⟩ := lw_step (n := n) (i := i) (xs := xs) hL (by omega) (by omega) (by omega) R
      rw [e]
      exact ih (i + 1) n h' (by omega) (by omega) (by omega) (R'.up (by omega))
