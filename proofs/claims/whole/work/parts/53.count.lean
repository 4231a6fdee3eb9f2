-- deps: 31.law 32.nat 33.bit 34.spec 35.riv 36.let 37.mod 38.mod 39.it 40.ahead 41.rel 42.ask 43.why 44.meet 45.err 46.err 47.wk 50.ways 51.way
/-! ===== count ===== -/
def erS (r : sR) : Nat := bts (rP r) (fun p => (rTo r p).isSome)
def onS (r : sR) (s : sS) : Nat := bts (rP r) (fun p => decide (sP s p = 8))
theorem n_withErrands {h : am_H} {r : sR} {s : sS} (V : tV h r s) : f_River_withErrands 1 h = some (nI (erS r)) := by
  have hP := V.hP
  have hG := V.hG
  obtain ⟨c, f1, f2⟩ := lpc2 (fun m (a1 : Int32) (a2 : Int32) => f_River_withErrands_L4 1 m a1 a2 h) (rP r)
    (fun t a1 a2 => a1 = nI (bts t (fun p => (rTo r p).isSome)) ∧ a2 = nI t) (fun c => c.1 = nI (erS r))
    (fun m t a1 a2 ht hI => by
      obtain ⟨rfl, rfl⟩ := hI
      rw [f_River_withErrands_L4, V.p, if_neg (nI_ge ht (by omega)), n_rd (by omega) (by decide), Option.bind_some, V.to ht, shl1 (by omega), nI_or, nI_up]
      cases e : rTo r t with
      | none => exact ⟨_, _, rfl, by simp [bts_s, e], rfl⟩
      | some g =>
        have := ((V.1.2.2.2.2.2 t ht).2.1 g e).1
        rw [oI_some, if_neg (nI_nm1 (by omega))]
        exact ⟨_, _, rfl, by simp [bts_s, e], rfl⟩)
    (fun m a1 a2 hI => by
      obtain ⟨rfl, rfl⟩ := hI
      rw [f_River_withErrands_L4, V.p, if_pos (nI_le (Nat.le_refl _) (by omega))]
      exact ⟨_, rfl, rfl⟩) (by unfold am_fu; omega) 0 0 ⟨rfl, rfl⟩
  unfold f_River_withErrands
  rw [f1, Option.bind_some, f2]
theorem n_onSpan {h : am_H} {r : sR} {s : sS} (V : tV h r s) : f_State_onSpan 10 1 h = some (nI (onS r s)) := by
  have hP := V.hP
  have hG := V.hG
  obtain ⟨c, f1, f2⟩ := lpc2 (fun m (a1 : Int32) (a2 : Int32) => f_State_onSpan_L4 10 1 m a1 a2 h) (rP r)
    (fun t a1 a2 => a1 = nI (bts t (fun p => decide (sP s p = 8))) ∧ a2 = nI t) (fun c => c.1 = nI (onS r s))
    (fun m t a1 a2 ht hI => by
      obtain ⟨rfl, rfl⟩ := hI
      have hx9 : sP s t < 9 := by rcases V.hsp ht with c | c <;> omega
      rw [f_State_onSpan_L4, V.p, if_neg (nI_ge ht (by omega)), n_rd (by omega) (by decide), Option.bind_some, V.sp ht, shl1 (by omega), nI_or, nI_up]
      by_cases e : sP s t = 8
      · rw [e, if_pos (show nI 8 = 8 from rfl)]
        exact ⟨_, _, rfl, by simp [bts_s, e], rfl⟩
      · rw [if_neg (show ¬ nI _ = (8 : Int32) from fun q => e ((nI_eq (b := 8) (by omega) (by decide)).mp q))]
        exact ⟨_, _, rfl, by simp [bts_s, e], rfl⟩)
    (fun m a1 a2 hI => by
      obtain ⟨rfl, rfl⟩ := hI
      rw [f_State_onSpan_L4, V.p, if_pos (nI_le (Nat.le_refl _) (by omega))]
      exact ⟨_, rfl, rfl⟩) (by unfold am_fu; omega) 0 0 ⟨rfl, rfl⟩
  unfold f_State_onSpan
  rw [f1, Option.bind_some, f2]
theorem n_errandsSet {h : am_H} {r : sR} {s : sS} (V : mV (h.2.1 137) r s) : f_Mod_errandsSet h = some (nI (erS r)) := by
  have hP := V.hP
  obtain ⟨c, f1, f2⟩ := lpc2 (fun m (a1 : Int32) (a2 : Int32) => f_Mod_errandsSet_L4 m a1 a2 h) (rP r)
    (fun t a1 a2 => a1 = nI (bts t (fun p => (rTo r p).isSome)) ∧ a2 = nI t) (fun c => c.1 = nI (erS r))
    (fun m t a1 a2 ht hI => by
      obtain ⟨rfl, rfl⟩ := hI
      rw [f_Mod_errandsSet_L4, rd_lit (by decide) (by decide), Option.bind_some, V.p, if_neg (nI_ge ht (by omega)), n_isErrand V ht, Option.bind_some, shl1 (by omega), nI_or, nI_up, or_0]
      cases e : (rTo r t).isSome with
      | false => exact ⟨_, _, rfl, by simp [bts_s, e], rfl⟩
      | true => exact ⟨_, _, rfl, by simp [bts_s, e], rfl⟩)
    (fun m a1 a2 hI => by
      obtain ⟨rfl, rfl⟩ := hI
      rw [f_Mod_errandsSet_L4, rd_lit (by decide) (by decide), Option.bind_some, V.p, if_pos (nI_le (Nat.le_refl _) (by omega))]
      exact ⟨_, rfl, rfl⟩) (by unfold am_fu; omega) 0 0 ⟨rfl, rfl⟩
  unfold f_Mod_errandsSet
  rw [f1, Option.bind_some, f2]
theorem n_mOnSpan {h : am_H} {r : sR} {s : sS} (V : mV (h.2.1 137) r s) : f_Mod_onSpan h = some (nI (onS r s)) := by
  have hP := V.hP
  have hG := V.hG
  obtain ⟨c, f1, f2⟩ := lpc2 (fun m (a1 : Int32) (a2 : Int32) => f_Mod_onSpan_L4 m a1 a2 h) (rP r)
    (fun t a1 a2 => a1 = nI (bts t (fun p => decide (sP s p = 8))) ∧ a2 = nI t) (fun c => c.1 = nI (onS r s))
    (fun m t a1 a2 ht hI => by
      obtain ⟨rfl, rfl⟩ := hI
      have hx9 : sP s t < 9 := by rcases V.hsp ht with c | c <;> omega
      have e35 : (35 : Int32) + nI t = nI (35 + t) := nI_add 35 t
      rw [f_Mod_onSpan_L4, rd_lit (by decide) (by decide), Option.bind_some, V.p, if_neg (nI_ge ht (by omega)), e35, n_rd (by omega) (by decide), Option.bind_some, V.sp ht, shl1 (by omega), nI_or, nI_up, or_0]
      by_cases e : sP s t = 8
      · rw [e, if_pos (show nI 8 = 8 from rfl)]
        exact ⟨_, _, rfl, by simp [bts_s, e], rfl⟩
      · rw [if_neg (show ¬ nI _ = (8 : Int32) from fun q => e ((nI_eq (b := 8) (by omega) (by decide)).mp q))]
        exact ⟨_, _, rfl, by simp [bts_s, e], rfl⟩)
    (fun m a1 a2 hI => by
      obtain ⟨rfl, rfl⟩ := hI
      rw [f_Mod_onSpan_L4, rd_lit (by decide) (by decide), Option.bind_some, V.p, if_pos (nI_le (Nat.le_refl _) (by omega))]
      exact ⟨_, rfl, rfl⟩) (by unfold am_fu; omega) 0 0 ⟨rfl, rfl⟩
  unfold f_Mod_onSpan
  rw [f1, Option.bind_some, f2]
theorem ok_count (b : Nat) (hb : b ≤ 90000) (x : Int32) : ok1 b (f_Top_count x) (f_Mod_count x) := by
  refine ok1_of (fun g h v T M => ?_)
  have TV := T.tV v (by omega)
  obtain ⟨k0, MV⟩ := s0M M v hb
  have M1 := M.ke k0
  have rd : ∀ (k : Nat) (A : Nat → Int32), k < 3411 → am_rd A 3411 (nI k) = some (A k) := fun k A hk => n_rd hk (by decide)
  have p9 : h.2.1 18 2 = nI g.1.2.2.1 := by obtain ⟨e, _, _, q, _⟩ := T.2.2.1; exact q
  have p9' : (am_sI h 136 0 0).2.1 137 45 = nI g.1.2.2.1 := M1.2.2.1.1
  have p10 : h.2.1 0 13 = nI g.2.2.1.1 := T.2.2.2.2.1.1
  have p10' : (am_sI h 136 0 0).2.1 136 5 = nI g.2.2.1.1 := M1.2.2.2.2.1.1
  have p11' : (am_sI h 136 0 0).2.1 137 0 = nI (rL g.1.1) := MV.2.2.1.1
  have p11 : h.2.1 1 5 = nI (rL g.1.1) := TV.2.2.1.2.2.2.2.1
  unfold f_Top_count f_Mod_count
  simp only [am_let]
  by_cases c0 : x = 0
  · rw [if_pos c0, if_pos c0, show am_rd _ 3411 (1 : Int32) = _ from rd 1 _ (by decide), Option.bind_some, MV.g, TV.g]
    exact ⟨_, _, rfl, rfl, k0⟩
  rw [if_neg c0, if_neg c0]
  by_cases c1 : x = 1
  · rw [if_pos c1, if_pos c1, show am_rd _ 3411 (2 : Int32) = _ from rd 2 _ (by decide), Option.bind_some, MV.w, TV.w]
    exact ⟨_, _, rfl, rfl, k0⟩
  rw [if_neg c1, if_neg c1]
  by_cases c2 : x = 2
  · rw [if_pos c2, if_pos c2, show am_rd _ 3411 (3 : Int32) = _ from rd 3 _ (by decide), Option.bind_some, MV.p, TV.p]
    exact ⟨_, _, rfl, rfl, k0⟩
  rw [if_neg c2, if_neg c2]
  by_cases c3 : x = 3
  · rw [if_pos c3, if_pos c3, n_withErrands TV, n_errandsSet MV]
    exact ⟨_, _, rfl, rfl, k0⟩
  rw [if_neg c3, if_neg c3]
  by_cases c4 : x = 4
  · rw [if_pos c4, if_pos c4, show am_rd _ 3411 (28 : Int32) = _ from rd 28 _ (by decide), Option.bind_some, MV.dn, TV.dn]
    exact ⟨_, _, rfl, rfl, k0⟩
  rw [if_neg c4, if_neg c4]
  by_cases c5 : x = 5
  · rw [if_pos c5, if_pos c5, n_onSpan TV, n_mOnSpan MV]
    exact ⟨_, _, rfl, rfl, k0⟩
  rw [if_neg c5, if_neg c5]
  by_cases c6 : x = 6
  · rw [if_pos c6, if_pos c6, show am_rd _ 3411 (26 : Int32) = _ from rd 26 _ (by decide), Option.bind_some, MV.ho, TV.ho]
    exact ⟨_, _, rfl, rfl, k0⟩
  rw [if_neg c6, if_neg c6]
  by_cases c7 : x = 7
  · rw [if_pos c7, if_pos c7, show am_rd _ 3411 (27 : Int32) = _ from rd 27 _ (by decide), Option.bind_some, MV.fo, TV.fo]
    exact ⟨_, _, rfl, rfl, k0⟩
  rw [if_neg c7, if_neg c7]
  by_cases c8 : x = 8
  · rw [if_pos c8, if_pos c8, show am_rd _ 3411 (4 : Int32) = _ from rd 4 _ (by decide), Option.bind_some, MV.f, TV.f]
    exact ⟨_, _, rfl, rfl, k0⟩
  rw [if_neg c8, if_neg c8]
  by_cases c9 : x = 9
  · rw [if_pos c9, if_pos c9, show am_rd _ 3411 (45 : Int32) = _ from rd 45 _ (by decide), Option.bind_some, p9, p9']
    exact ⟨_, _, rfl, rfl, k0⟩
  rw [if_neg c9, if_neg c9]
  by_cases c10 : x = 10
  · rw [if_pos c10, if_pos c10, p10, p10']
    exact ⟨_, _, rfl, rfl, k0⟩
  rw [if_neg c10, if_neg c10]
  by_cases c11 : x = 11
  · rw [if_pos c11, if_pos c11, show am_rd _ 3411 (0 : Int32) = _ from rd 0 _ (by decide), Option.bind_some, p11, p11']
    exact ⟨_, _, rfl, rfl, k0⟩
  rw [if_neg c11, if_neg c11]
  exact ⟨_, _, rfl, rfl, k0⟩
