-- deps: 92.loop
/-! ===== the start of both sides ===== -/
def rI0 : sR := ((2, 1, 0, 0, 0), (fun _ => 0), (fun _ => none), (fun _ => none), (fun _ _ _ _ => true), fun _ _ _ _ => true)
def sI0 : sS := ((0, 0, 0), (fun _ => some 0), (fun _ => 0), fun _ => 0)
def gI0 : sG := ((rI0, sI0, 0, fun _ => sI0), (fun _ => none), (0, fun _ => 0), (0, none), fun _ => none)
theorem gI0_v : VG 1000 gI0 := by
  refine ⟨⟨⟨by decide, by decide⟩, ⟨by decide, by decide⟩, by decide, by decide, by decide, fun p hp => ?_⟩, ⟨by decide, by decide, by decide, fun k hk g hg => ?_, fun p hp => ?_⟩, by decide, fun i hi => ?_, fun i hi q hq => ?_, ⟨by decide, fun i hi => ?_⟩, ⟨by decide, fun x hx => ?_⟩, fun i hi q hq => ?_⟩
  · cases hp
  · cases hg
    decide
  · cases hp
  · cases hi
  · cases hq
  · cases hi
  · cases hx
  · cases hq
def lk0 (o j : Nat) : Int32 := am_lk (am_IC.take 106).reverse o j
theorem lk_T : lk0 1 0 = 2 ∧ lk0 1 1 = 1 ∧ lk0 1 2 = 0 ∧ lk0 1 3 = 0 ∧ lk0 1 5 = 0 ∧ lk0 10 0 = 0 ∧ lk0 10 1 = 0 ∧ lk0 10 2 = 0 ∧ lk0 11 0 = 0 ∧ lk0 18 1 = 0 ∧ lk0 18 2 = 0 ∧ lk0 0 14 = 0 ∧ lk0 0 13 = 0 ∧ lk0 61 1 = 0 ∧ lk0 61 2 = -1 ∧ lk0 91 8 = 0 ∧ lk0 91 9 = 0 := by decide +kernel
theorem lk_T2 : ∀ i, i < 4 → lk0 (102 + 2 * i) 0 = 0 := by decide +kernel
theorem lk_M : lk0 136 5 = 0 ∧ lk0 136 13 = 0 ∧ lk0 136 14 = -1 := by decide +kernel
theorem lk_M2 : ∀ i, i < 2 → lk0 138 i = 0 := by decide +kernel
theorem lk_M3 : ∀ i, i < 4 → lk0 158 i = -1 := by decide +kernel
theorem rf_0 : (86, 4, 89) ∈ am_RC.take 169 ∧ (86, 5, 90) ∈ am_RC.take 169 ∧ (99, 2, 100) ∈ am_RC.take 169 ∧ (99, 3, 101) ∈ am_RC.take 169 := by decide +kernel
theorem pl_M : ∀ j, j = 0 ∨ j = 3 ∨ j = 4 ∨ j = 5 ∨ j = 6 ∨ j = 26 ∨ j = 27 ∨ j = 28 ∨ j = 29 ∨ j = 45 → am_pl (fun _ => 0) j = 0 := by
  intro j hj
  rcases hj with rfl | rfl | rfl | rfl | rfl | rfl | rfl | rfl | rfl | rfl <;> rfl
theorem RR_0 {h : am_H} (hI : am_In 161 169 106 h) : RR 1000 (am_rI h 137 (am_pl (h.2.1 137))) := by
  obtain ⟨_, hR, hT, hJ⟩ := hI
  have t : ∀ o j, o < 161 → o ≠ 137 → (am_rI h 137 (am_pl (h.2.1 137))).2.1 o j = lk0 o j := fun o j ho h1 => by
    rw [rI_row, if_neg h1]
    exact hT o j ho
  have a : ∀ j, j < 1137 → (am_rI h 137 (am_pl (h.2.1 137))).2.1 137 j = am_pl (fun _ => 0) j := fun j hj => by
    rw [rI_row, if_pos rfl]
    exact pl_lt hj
  have f : ∀ q ∈ am_RC.take 169, (am_rI h 137 (am_pl (h.2.1 137))).2.2.2 q.1 q.2.1 = some q.2.2 := hR
  generalize am_rI h 137 (am_pl (h.2.1 137)) = z at t a f ⊢
  obtain ⟨u1, u2, u3, u4, u5, u6, u7, u8, u9, u10, u11, u12, u13, u14, u15, u16, u17⟩ := lk_T
  refine ⟨gI0, gI0_v, ⟨⟨?_, ?_, ?_, ?_, ?_, fun p hp => (by cases hp), fun p k f hp => (by cases hp)⟩, ⟨?_, ?_, ?_, fun k hk => ?_, fun p hp => (by cases hp)⟩, ⟨0, by decide, ?_, ?_, fun i hi => (by cases hi)⟩, ⟨0, by decide, ?_, fun i hi => ⟨Nat.zero_testBit i, fun q hq => (by cases hq)⟩⟩, ⟨?_, fun i hi => (by cases hi)⟩, ⟨?_, ?_⟩, fun i hi => ⟨fun _ => ?_, fun q hq => (by cases hq)⟩, .inl ?_, .inl ?_, ?_⟩, ⟨⟨?_, ?_, ?_, ?_, ?_, fun p hp => (by cases hp), ⟨.inl ?_, .inl ?_⟩, fun p s k f hp => (by cases hp), fun p g k f d hp => (by cases hp)⟩, ⟨?_, ?_, ?_, fun k hk => ?_, fun p hp => (by cases hp)⟩, ⟨?_, fun i hi => (by cases hi)⟩, fun i hi => ⟨fun _ => ?_, fun q hq => (by cases hq)⟩, ⟨?_, fun i hi => (by cases hi)⟩, ⟨?_, ?_⟩, fun i hi => ⟨fun _ => ?_, fun q hq => (by cases hq)⟩⟩⟩
  · exact (t 1 0 (by decide) (by decide)).trans u1
  · exact (t 1 1 (by decide) (by decide)).trans u2
  · exact (t 1 2 (by decide) (by decide)).trans u3
  · exact (t 1 3 (by decide) (by decide)).trans u4
  · exact (t 1 5 (by decide) (by decide)).trans u5
  · exact (t 10 0 (by decide) (by decide)).trans u6
  · exact (t 10 1 (by decide) (by decide)).trans u7
  · exact (t 10 2 (by decide) (by decide)).trans u8
  · obtain rfl : k = 0 := Nat.lt_one_iff.mp hk
    exact (t 11 0 (by decide) (by decide)).trans u9
  · exact (t 18 1 (by decide) (by decide)).trans u10
  · exact (t 18 2 (by decide) (by decide)).trans u11
  · exact (t 0 14 (by decide) (by decide)).trans u12
  · exact (t 0 13 (by decide) (by decide)).trans u13
  · exact (t 61 1 (by decide) (by decide)).trans u14
  · exact ((t 61 2 (by decide) (by decide)).trans u15).trans oI_none.symm
  · exact (t (102 + 2 * i) 0 (by omega) (by omega)).trans (lk_T2 i hi)
  · exact (t 91 8 (by decide) (by decide)).trans u16
  · exact (t 91 9 (by decide) (by decide)).trans u17
  · have f1 : z.2.2.2 86 4 = some 89 := f _ rf_0.1
    have f2 : z.2.2.2 86 5 = some 90 := f _ rf_0.2.1
    have f3 : z.2.2.2 99 2 = some 100 := f _ rf_0.2.2.1
    have f4 : z.2.2.2 99 3 = some 101 := f _ rf_0.2.2.2
    unfold tRef am_rf
    rw [f1, f2, f3, f4]
    exact ⟨.inl ⟨rfl, rfl⟩, .inl ⟨rfl, rfl⟩⟩
  · exact (a 0 (by decide)).trans (pl_M 0 (by omega))
  · exact (a 1 (by decide)).trans rfl
  · exact (a 2 (by decide)).trans rfl
  · exact (a 3 (by decide)).trans (pl_M 3 (by omega))
  · exact (a 4 (by decide)).trans (pl_M 4 (by omega))
  · exact (a 5 (by decide)).trans (pl_M 5 (by omega))
  · exact (a 6 (by decide)).trans (pl_M 6 (by omega))
  · exact (a 26 (by decide)).trans (pl_M 26 (by omega))
  · exact (a 27 (by decide)).trans (pl_M 27 (by omega))
  · exact (a 28 (by decide)).trans (pl_M 28 (by omega))
  · obtain rfl : k = 0 := Nat.lt_one_iff.mp hk
    exact (a 29 (by decide)).trans (pl_M 29 (by omega))
  · exact (a 45 (by decide)).trans (pl_M 45 (by omega))
  · exact (t 138 i (by decide) (by decide)).trans (lk_M2 i hi)
  · exact (t 136 5 (by decide) (by decide)).trans lk_M.1
  · exact (t 136 13 (by decide) (by decide)).trans lk_M.2.1
  · exact ((t 136 14 (by decide) (by decide)).trans lk_M.2.2).trans oI_none.symm
  · exact (t 158 i (by decide) (by decide)).trans (lk_M3 i hi)
theorem am_P2_ok : am_P2 := fun L xs h h1 hL hI hp => by
  have e : h1 = am_rI h 137 (am_pl (h.2.1 137)) := Option.some.inj (hp.symm.trans (n_plain (by decide) (by decide)))
  rw [e]
  exact lw_all (xs := xs) hL (L + 1) 0 am_fu _ (by omega) (by omega) (by unfold am_fu; omega) (RR_0 hI)
