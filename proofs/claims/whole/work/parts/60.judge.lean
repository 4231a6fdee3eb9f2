-- deps: 31.law 32.nat 33.bit 34.spec 35.riv 36.let 37.mod 38.mod 39.it 40.ahead 41.rel 42.ask 43.why 44.meet 45.err 46.err 47.wk 48.chg 50.ways 51.way 52.tray 54.past 55.hour 56.act 57.undo 59.deed
/-! ===== deeds one after another ===== -/
def dA (r : sR) (f : Nat → Int64) : Nat → Nat → sS → Nat × sS × Nat
  | 0, j, s => (j, s, 0)
  | m + 1, j, s => if wD r s (f j).toInt = 0 then dA r f m (j + 1) (dS r s (f j).toInt) else (j, s, wD r s (f j).toInt)
theorem dA_le {r : sR} {f : Nat → Int64} : ∀ m j s, j ≤ (dA r f m j s).1 ∧ (dA r f m j s).1 ≤ j + m
  | 0, j, s => ⟨Nat.le_refl _, Nat.le_refl _⟩
  | m + 1, j, s => by
    rw [dA]
    split
    · have := dA_le (r := r) (f := f) m (j + 1) (dS r s (f j).toInt)
      omega
    · exact ⟨Nat.le_refl _, by show j ≤ j + (m + 1); omega⟩
theorem dA_0 {r : sR} {f : Nat → Int64} : ∀ m j s, (dA r f m j s).1 = j → (dA r f m j s).2.1 = s
  | 0, j, s, _ => rfl
  | m + 1, j, s, h => by
    rw [dA] at h ⊢
    by_cases c : wD r s (f j).toInt = 0
    · rw [if_pos c] at h
      have := dA_le (r := r) (f := f) m (j + 1) (dS r s (f j).toInt)
      omega
    · rw [if_neg c]
theorem dA_v {b : Nat} {r : sR} {f : Nat → Int64} (hr : vR r) : ∀ m j s, vS (b + j) r s → vS (b + j + m) r (dA r f m j s).2.1
  | 0, j, s, v => v
  | m + 1, j, s, v => by
    rw [dA]
    by_cases c : wD r s (f j).toInt = 0
    · rw [if_pos c]
      have := dA_v (f := f) hr m (j + 1) _ (dS_v (i := (f j).toInt) hr v)
      exact this.up (by omega)
    · rw [if_neg c]
      exact v.up (by omega)
theorem dA_why {r : sR} {f : Nat → Int64} : ∀ m j s, ((dA r f m j s).1 < j + m ∧ (dA r f m j s).2.2 ≠ 0 ∧ wD r (dA r f m j s).2.1 (f (dA r f m j s).1).toInt = (dA r f m j s).2.2) ∨ ((dA r f m j s).1 = j + m ∧ (dA r f m j s).2.2 = 0)
  | 0, j, s => .inr ⟨rfl, rfl⟩
  | m + 1, j, s => by
    rw [dA]
    by_cases c : wD r s (f j).toInt = 0
    · rw [if_pos c]
      rcases dA_why (r := r) (f := f) m (j + 1) (dS r s (f j).toInt) with ⟨a, b, d⟩ | ⟨a, b⟩
      · exact .inl ⟨by omega, b, d⟩
      · exact .inr ⟨by omega, b⟩
    · rw [if_neg c]
      exact .inl ⟨by show j < j + (m + 1); omega, c, rfl⟩
theorem dA_w4 {r : sR} {f : Nat → Int64} : ∀ m j s, (dA r f m j s).2.2 < 4
  | 0, j, s => by show 0 < 4; omega
  | m + 1, j, s => by
    rw [dA]
    by_cases c : wD r s (f j).toInt = 0
    · rw [if_pos c]; exact dA_w4 m _ _
    · rw [if_neg c]; exact wD_lt
theorem n_doAll {b i n : Nat} {f : Nat → Int64} {h : am_H} {r : sR} {s : sS} (hb : b ≤ 99900) (hr : vR r) (v : vS b r s) (R : tR 1 r h) (T : tS 14 r s h) (hi : i < 4) (hn : n ≤ 40) (e1 : h.2.1 (102 + 2 * i) 1 = nI n) (e2 : ∀ k, k < n → h.2.2.1 (103 + 2 * i) k = f k) :
    ∃ h', f_State_doAll 14 1 (102 + 2 * i) h = some (nI (dA r f n 0 s).1, h') ∧ am_ex [14, 15, 16, 17] h h' ∧ tS 14 r (dA r f n 0 s).2.1 h' := by
  generalize hres : dA r f n 0 s = res
  have L := lq2 (fun k (a1 : Int32) (a2 : am_H) => f_State_doAll_L2 14 1 (102 + 2 * i) k a1 a2)
    (fun m a1 a2 => ∃ j s, a1 = nI j ∧ m + j = n ∧ am_ex [14, 15, 16, 17] h a2 ∧ tS 14 r s a2 ∧ vS (b + j) r s ∧ dA r f m j s = res)
    (fun c => c.1 = nI res.1 ∧ am_ex [14, 15, 16, 17] h c.2 ∧ tS 14 r res.2.1 c.2)
    (fun k m a1 a2 hI => by
      obtain ⟨j, s, rfl, h1, x1, t1, v1, d1⟩ := hI
      have r1 : a2.2.1 (102 + 2 * i) 1 = nI n := by rw [x1.2.2 _ (by simp; omega)]; exact e1
      rw [f_State_doAll_L2, r1]
      by_cases c : j < n
      · obtain ⟨m, rfl⟩ : ∃ m', m = m' + 1 := ⟨m - 1, by omega⟩
        have R2 : tR 1 r a2 := R.cg (fun a _ _ => x1.2.2 a (by simp; omega))
        obtain ⟨h2, q1, q2, q3⟩ := n_deed (d := f j) (o := 14) (by omega) hr v1 R2 t1 (by omega)
        have ea : f_Tray_at (102 + 2 * i) (nI j) a2 = some (f j) := by
          unfold f_Tray_at
          rw [if_neg (nI_pos (by omega)), if_neg (show ¬ Int32.ofNat 40 ≤ nI j from nI_ge (b := 40) (by omega) (by decide)), n_rd (by omega) (by decide), Option.bind_some, x1.2.1, show 102 + 2 * i + 1 = 103 + 2 * i by omega, e2 j c]
        have x2 := x1.tr q2 (Z := [14, 15, 16, 17]) (fun _ z => z) (fun _ z => z)
        rw [if_neg (nI_ge c (by omega)), ea, Option.bind_some, q1, Option.bind_some]
        simp only
        rw [dA] at d1
        have := wD_lt (r := r) (s := s) (i := (f j).toInt)
        by_cases c0 : wD r s (f j).toInt = 0
        · right
          rw [if_pos c0] at d1
          rw [c0, if_pos (show nI 0 = 0 from rfl)]
          exact ⟨m, _, _, by omega, rfl, j + 1, _, nI_up, by omega, x2, q3, (dS_v hr v1).up (by omega), d1⟩
        · left
          rw [if_neg c0] at d1
          rw [if_neg (show ¬ nI _ = (0 : Int32) from fun q => c0 ((nI_eq (b := 0) (by omega) (by decide)).mp q))]
          have hs : dS r s (f j).toInt = s := by unfold dS; rw [if_neg c0]
          rw [hs] at q3
          refine ⟨_, rfl, ?_, x2, ?_⟩
          · rw [← d1]
          · rw [← d1]; exact q3
      · left
        have hj : j = n := by omega
        have hm : m = 0 := by omega
        subst hm
        rw [if_pos (nI_le (by omega) (by omega))]
        rw [dA] at d1
        refine ⟨_, rfl, ?_, x1, ?_⟩
        · rw [← d1, hj]
        · rw [← d1]; exact t1)
  obtain ⟨c, f1, f2, f3, f4⟩ := L am_fu n (nI 0) h (by unfold am_fu; omega) ⟨0, s, rfl, by omega, am_ex.rf, T, v, hres⟩
  obtain ⟨c1, c2⟩ := c
  simp only at f2 f3 f4
  subst f2
  exact ⟨c2, f1, f3, f4⟩
theorem wD_0 {r : sR} {s : sS} {i : Int} (h : wD r s i = 0) : -1 ≤ i ∧ i ≤ 209 := by
  apply Classical.byContradiction
  intro c
  unfold wD at h
  rw [if_neg (by omega), if_neg (by omega), if_neg (by omega), if_neg (by omega)] at h
  cases h
theorem i32_s {d : Int64} (h : -1 ≤ d.toInt ∧ d.toInt ≤ 209) : d.toInt32.toInt = d.toInt := by
  by_cases c : d.toInt = -1
  · have : d = -1 := Int64.toInt_inj.mp (by rw [c]; rfl)
    rw [this]; decide
  · have e := of_i64 (d := d) (by omega) (by omega)
    rw [e, lN_i, nI_toInt (by omega), lN_toInt (by omega)]
theorem mW.s19 {h : am_H} {j : Nat} {x : Int32} (hj : j ≠ 5 ∧ j ≠ 13 ∧ j ≠ 14) : mW h (am_sI h 136 j x) := (keM.s0 hj).mW
theorem e40_ (i j : Nat) : (40 : Int32) * nI i + nI j = nI (40 * i + j) := by
  have : (40 : Int32) * nI i = nI (40 * i) := nI_mul 40 i
  rw [this, nI_add]
theorem n_tells {b i n : Nat} {f : Nat → Int64} {h : am_H} {r : sR} {s : sS} (hb : b ≤ 99900) (v : vS b r s) (V : mV (h.2.1 137) r s) (hi : i < 4) (hn : n ≤ 40) (e1 : h.2.1 159 i = nI n) (e2 : ∀ k, k < n → h.2.2.1 160 (40 * i + k) = f k) :
    ∃ h', f_Mod_tells (nI i) h = some (nI (dA r f n 0 s).1, h') ∧ mW h h' ∧ mS (h'.2.1 137) 26 r (dA r f n 0 s).2.1 ∧ h'.2.1 143 = h.2.1 143 ∧ h'.2.1 136 19 = nI (dA r f n 0 s).2.2 := by
  have hr := V.1
  generalize hres : dA r f n 0 s = res
  have L := lq2 (fun k (a1 : Int32) (a2 : am_H) => f_Mod_tells_L7 (nI i) k a1 a2)
    (fun m a1 a2 => ∃ j s, a1 = nI j ∧ m + j = n ∧ mW h a2 ∧ mS (a2.2.1 137) 26 r s ∧ vS (b + j) r s ∧ a2.2.1 143 = h.2.1 143 ∧ a2.2.1 136 19 = 0 ∧ dA r f m j s = res)
    (fun c => c.1 = nI res.1 ∧ mW h c.2 ∧ mS (c.2.2.1 137) 26 r res.2.1 ∧ c.2.2.1 143 = h.2.1 143 ∧ c.2.2.1 136 19 = nI res.2.2)
    (fun k m a1 a2 hI => by
      obtain ⟨j, s, rfl, h1, w1, m1, v1, k1, z1, d1⟩ := hI
      have r1 : a2.2.1 159 i = nI n := by rw [w1.2.1 159 (by omega)]; exact e1
      rw [f_Mod_tells_L7, n_rd (by omega) (by decide), Option.bind_some, r1]
      by_cases c : j < n
      · obtain ⟨m, rfl⟩ : ∃ m', m = m' + 1 := ⟨m - 1, by omega⟩
        have V2 : mV (a2.2.1 137) r s := w1.mV V (v1.up (by omega)) m1
        obtain ⟨h2, q1, q2⟩ := n_whyNot (d := f j) V2
        have e40 : (40 : Int32) * nI i + nI j = nI (40 * i + j) := e40_ i j
        have rJ : a2.2.2.1 160 = h.2.2.1 160 := w1.2.2.1
        have rJ2 : (am_sI h2 136 19 (nI (wD r s (f j).toInt))).2.2.1 160 = h.2.2.1 160 := by
          show h2.2.2.1 160 = _
          rw [q2.2.1]; exact rJ
        have s19 : (am_sI h2 136 19 (nI (wD r s (f j).toInt))).2.1 136 19 = nI (wD r s (f j).toInt) := by rw [sI_row, if_pos rfl, up_s]
        have w2 : mW h (am_sI h2 136 19 (nI (wD r s (f j).toInt))) := (w1.tr (q2.keM (by decide)).mW).tr (mW.s19 (by decide))
        have k2 : (am_sI h2 136 19 (nI (wD r s (f j).toInt))).2.1 143 = h.2.1 143 := by rw [sI_row, if_neg (by decide), q2.2.2 143 (by decide)]; exact k1
        have r137 : (am_sI h2 136 19 (nI (wD r s (f j).toInt))).2.1 137 = a2.2.1 137 := by rw [sI_row, if_neg (by decide), q2.2.2 137 (by decide)]
        rw [if_neg (nI_ge c (by omega)), e40, n_rd (by omega) (by decide), Option.bind_some, rJ, e2 j c, q1, Option.bind_some]
        simp only [am_let]
        rw [s19]
        rw [dA] at d1
        have := wD_lt (r := r) (s := s) (i := (f j).toInt)
        by_cases c0 : wD r s (f j).toInt = 0
        · right
          rw [if_pos c0] at d1
          have V3 : mV ((am_sI h2 136 19 (nI (wD r s (f j).toInt))).2.1 137) r s := by rw [r137]; exact V2
          have es := i32_s (wD_0 c0)
          obtain ⟨h3, p1, p2, p3, p4⟩ := n_does (i := (f j).toInt32) (by omega) v1 V3 (by rw [es]; exact c0)
          rw [es] at p3
          rw [if_pos (show nI (wD r s (f j).toInt) = 0 by rw [c0]; rfl), n_rd (by omega) (by decide), Option.bind_some, rJ2, e2 j c, p1, Option.bind_some]
          refine ⟨m, _, _, by omega, rfl, j + 1, _, nI_up, by omega, w2.tr p2, p3, (dS_v hr v1).up (by omega), by rw [p4 143 (by omega)]; exact k2, ?_, d1⟩
          rw [p4 136 (by omega), s19, c0]; rfl
        · left
          rw [if_neg c0] at d1
          rw [if_neg (show ¬ nI _ = (0 : Int32) from fun q => c0 ((nI_eq (b := 0) (by omega) (by decide)).mp q))]
          refine ⟨_, rfl, ?_, w2, ?_, k2, ?_⟩
          · rw [← d1]
          · rw [← d1, r137]; exact m1
          · rw [s19, ← d1]
      · left
        have hj : j = n := by omega
        have hm : m = 0 := by omega
        subst hm
        rw [if_pos (nI_le (by omega) (by omega)), Option.bind_some]
        rw [dA] at d1
        refine ⟨_, rfl, ?_, w1, ?_, k1, ?_⟩
        · rw [← d1, hj]
        · rw [← d1]; exact m1
        · rw [z1, ← d1]; rfl)
  have V0 : mS ((am_sI h 136 19 0).2.1 137) 26 r s := by rw [sI_row, if_neg (by decide)]; exact V.2.2.2
  obtain ⟨c, f1, f2, f3, f4, f5, f6⟩ := L am_fu n (nI 0) (am_sI h 136 19 0) (by unfold am_fu; omega) ⟨0, s, rfl, by omega, mW.s19 (by decide), V0, v, by rw [sI_row, if_neg (by decide)], by rw [sI_row, if_pos rfl, up_s], hres⟩
  obtain ⟨c1, c2⟩ := c
  simp only at f2 f3 f4 f5 f6
  subst f2
  have f1' : f_Mod_tells_L7 (nI i) am_fu 0 (am_sI h 136 19 0) = some (nI res.1, c2) := f1
  unfold f_Mod_tells
  simp only [am_let]
  exact ⟨c2, f1', f3, f4, f5, f6⟩
theorem n_isAgain {h : am_H} : ∃ h', f_Mod_isAgain h = some h' ∧ am_ex [137] h h' ∧ ∀ j, h'.2.1 137 j = if 26 ≤ j ∧ j < 45 then h.2.1 143 (j - 26) else h.2.1 137 j := by
  obtain ⟨c, f1, f2, f3⟩ := lpc2 (fun m (a1 : Int32) (a2 : am_H) => f_Mod_isAgain_L2 m a1 a2) 19
    (fun t a1 a2 => a1 = nI t ∧ am_ex [137] h a2 ∧ ∀ j, a2.2.1 137 j = if 26 ≤ j ∧ j < 26 + t then h.2.1 143 (j - 26) else h.2.1 137 j)
    (fun c => am_ex [137] h c.2 ∧ ∀ j, c.2.2.1 137 j = if 26 ≤ j ∧ j < 45 then h.2.1 143 (j - 26) else h.2.1 137 j)
    (fun m t a1 a2 ht hI => by
      obtain ⟨rfl, i2, i3⟩ := hI
      have e26 : (26 : Int32) + nI t = nI (26 + t) := nI_add 26 t
      rw [f_Mod_isAgain_L2, if_neg (show ¬ (19 : Int32) ≤ nI t from nI_ge (b := 19) ht (by decide)), n_rd ht (by decide), Option.bind_some, e26, n_wr (by omega) (by decide), Option.bind_some]
      refine ⟨_, _, rfl, nI_up, i2.tr (am_ex.sI (X := [137]) (by decide)) (fun _ z => z) (fun _ z => z), fun j => ?_⟩
      rw [sI_row, if_pos rfl]
      by_cases c : j = 26 + t
      · subst c
        rw [up_s, if_pos (by omega), i2.2.2 143 (by decide), show 26 + t - 26 = t by omega]
      · rw [up_n c, i3]
        by_cases d : 26 ≤ j ∧ j < 26 + t
        · rw [if_pos d, if_pos (by omega)]
        · rw [if_neg d, if_neg (by omega)])
    (fun m a1 a2 hI => by
      obtain ⟨rfl, i2⟩ := hI
      rw [f_Mod_isAgain_L2, if_pos (show (19 : Int32) ≤ nI 19 by decide)]
      exact ⟨_, rfl, i2⟩) (by decide) 0 h ⟨rfl, am_ex.rf, fun j => by rw [if_neg (by omega)]⟩
  unfold f_Mod_isAgain
  rw [f1, Option.bind_some]
  exact ⟨_, rfl, f2, f3⟩
theorem mW.ke {h h' : am_H} (w : mW h h') (e : h'.2.1 137 = h.2.1 137) : keM h h' := ⟨w.1, fun a ha => by
  by_cases c : a = 137
  · rw [c]; exact e
  · exact w.2.1 a (by omega), w.2.2.1, w.2.2.2.1⟩
/-- the class's trial -/
theorem n_trial {g : sG} {h : am_H} (R : RT g h) (hr : vR g.1.1) : ∃ h1, f_State_copyFrom 14 10 h = some h1 ∧ am_ex [14, 15, 16, 17] h h1 ∧ tS 14 g.1.1 g.1.2.1 h1 := by
  obtain ⟨h1, b1, b2, b3, b4, b5, b6, b7⟩ := n_stCopy (h := h) (o := 14) (q := 10) (by omega)
  refine ⟨h1, b1, ⟨?_, b2, fun a ha => b3 a (by simp at ha; omega)⟩, R.2.1.mv hr b4 b5 b6 b7⟩
  unfold f_State_copyFrom at b1
  simp only [am_let] at b1
  have e6 : ∀ x o0 o1, am_cp x o0 6 0 o1 6 0 6 = _ := fun x o0 o1 => n_cp (h := x) (o0 := o0) (o1 := o1) (n0 := 6) (n1 := 6) (n := 6) (by decide) (by decide) (by decide)
  have e5 : ∀ x o0 o1, am_cp x o0 5 0 o1 5 0 5 = _ := fun x o0 o1 => n_cp (h := x) (o0 := o0) (o1 := o1) (n0 := 5) (n1 := 5) (n := 5) (by decide) (by decide) (by decide)
  rw [e6, Option.bind_some, e5, Option.bind_some, e5, Option.bind_some] at b1
  cases b1
  rfl
theorem scr4 : ∀ a ∈ [14, 15, 16, 17], scr a := by unfold scr; simp
theorem tr_at {b : Nat} {g : sG} {h : am_H} {i : Nat} {q : Nat × Nat × (Nat → Int64)} {j : Nat} (v : VG b g) (R : RT g h) (hi : i < 4) (hq : g.2.2.2.2 i = some q) (hj : j < q.2.1) : f_Tray_at (102 + 2 * i) (nI j) h = some (q.2.2 j) := by
  have := (v.tr i hi q hq).2
  unfold f_Tray_at
  rw [if_neg (nI_pos (by omega)), if_neg (show ¬ Int32.ofNat 40 ≤ nI j from nI_ge (b := 40) (by omega) (by decide)), n_rd (by omega) (by decide), Option.bind_some, show 102 + 2 * i + 1 = 103 + 2 * i by omega, ((R.tr i hi).2 q hq).2.2.2 j hj]
theorem ok_judge (b : Nat) (hb : b ≤ 90000) (x y : Int32) : ok2 b (f_Top_judge x y) (f_Mod_judge x y) := by
  refine ok2_of (fun g h v T M0 => ?_)
  have TV := T.tV v (by omega)
  have hr := v.1
  rcases tr4 x with ⟨i, hi, rfl, e1, e2⟩ | ⟨e1, e2⟩
  · rcases rng2 (n := 3) (by decide) (show (3 : Int64) = lN 3 from rfl) y with ⟨k, hk, rfl, e3⟩ | ⟨q, e3⟩
    · cases hg : g.2.2.2.2 i with
      | none =>
        refine ⟨-6, ⟨h, ?_, keT.rf⟩, fun h' M _ => ?_⟩
        · unfold f_Top_judge
          rw [e1, Option.bind_some, if_tt, if_neg (nI_pos (by omega)), if_pos (show nI k ≤ (3 : Int32) from nI_le (b := 3) hk (by decide)), n_el hi (by decide), Option.bind_some, (T.tr i hi).1 hg, if_pos rfl]
        · obtain ⟨k0, MV⟩ := s0M M v hb
          unfold f_Mod_judge
          simp only [am_let]
          rw [e3, Option.bind_some, if_tt, n_noTray v (M.ke k0) hi (e2 _), hg, Option.bind_some]
          exact ⟨_, rfl, k0⟩
      | some q =>
        obtain ⟨q1, q2⟩ := v.tr i hi q hg
        obtain ⟨c1, c2, c3, c4⟩ := (T.tr i hi).2 q hg
        obtain ⟨h1, a1, a2, a3⟩ := n_trial T hr
        have T1 := T.ke (a2.keT scr4)
        obtain ⟨d1, d2, d3, d4⟩ := (T1.tr i hi).2 q hg
        obtain ⟨h2, b1, b2, b3⟩ := n_doAll (by omega) hr v.2.1 T1.1 a3 hi q2 d2 d4
        have hres := dA_why (r := g.1.1) (f := q.2.2) q.2.1 0 g.1.2.1
        have hle := dA_le (r := g.1.1) (f := q.2.2) q.2.1 0 g.1.2.1
        have hw4 := dA_w4 (r := g.1.1) (f := q.2.2) q.2.1 0 g.1.2.1
        have hvr := dA_v (b := b) (f := q.2.2) hr q.2.1 0 g.1.2.1 v.2.1
        generalize hR : dA g.1.1 q.2.2 q.2.1 0 g.1.2.1 = res at *
        rw [Nat.zero_add] at hres hle
        have x2 := a2.tr b2 (Z := [14, 15, 16, 17]) (fun _ z => z) (fun _ z => z)
        have T2 := T.ke (x2.keT scr4)
        have c2' : h2.2.1 (102 + 2 * i) 1 = nI q.2.1 := ((T2.tr i hi).2 q hg).2.1
        have hT : f_Top_judge (nI i) (nI k) h = (if nI k = (0 : Int32) then (if (if nI res.1 < nI q.2.1 then (0 : Int32) else (1 : Int32)) = 0 then some (nI res.1, h2) else some ((-1 : Int32), h2)) else if nI k = (1 : Int32) then (if (if nI res.1 < nI q.2.1 then (0 : Int32) else (1 : Int32)) = 0 then (f_Tray_at (102 + 2 * i) (nI res.1) h2).bind fun q16 => (f_State_doDeed 14 1 q16 h2).bind fun q17 => some (q17.1, q17.2) else some ((0 : Int32), h2)) else if nI k = (2 : Int32) then some (h2.2.1 14 2, h2) else some (h2.2.1 14 0, h2)) := by
          unfold f_Top_judge
          rw [e1, Option.bind_some, if_tt, if_neg (nI_pos (by omega)), if_pos (show nI k ≤ (3 : Int32) from nI_le (b := 3) hk (by decide)), n_el hi (by decide), Option.bind_some, c1, if_neg (by decide), a1, Option.bind_some, Option.bind_some, b1, Option.bind_some, Option.bind_some]
          simp only [am_let, Option.bind_some]
          rw [c2']
        have hM : ∀ h', RM g h' → ∃ h5, keM h' h5 ∧ f_Mod_judge (nI i) (nI k) h' = (if nI k = 0 then (if nI res.2.2 = 0 then some ((-1 : Int32), h5) else some (nI res.1, h5)) else if nI k = (1 : Int32) then some (nI res.2.2, h5) else if nI k = (2 : Int32) then some (nI (sD res.2.1), h5) else some (nI (sH res.2.1), h5)) := fun h' M => by
          obtain ⟨k0, MV⟩ := s0M M v hb
          have M1 := M.ke k0
          obtain ⟨h3, g1, g2, g3, g4⟩ := m_keep M k0
          have M3 := M.ke g2
          obtain ⟨s1, s2, s3⟩ := (M3.tr i hi).2 q hg
          obtain ⟨h4, t1, t2, t3, t4, t5⟩ := n_tells (by omega) v.2.1 (M3.mV v (by omega)) hi q2 s2 s3
          rw [hR] at t1 t3 t5
          obtain ⟨h5, u1, u2, u3⟩ := n_isAgain (h := h4)
          have w4 := g2.mW.tr t2
          have r5 : h5.2.1 137 = h'.2.1 137 := by
            funext j
            rw [u3 j]
            by_cases c : 26 ≤ j ∧ j < 45
            · rw [if_pos c, t4, g3 (j - 26) (by omega), show 26 + (j - 26) = j by omega]
            · rw [if_neg c]; exact w4.2.2.2.2 j (by omega)
          have k5 : keM h' h5 := by
            refine ⟨w4.1.tr (u2.frM (by decide)), fun a ha => ?_, by rw [u2.2.1]; exact w4.2.2.1, by rw [u2.2.2 136 (by decide)]; exact w4.2.2.2.1⟩
            by_cases c : a = 137
            · rw [c]; exact r5
            · rw [u2.2.2 a (by simpa using c)]; exact w4.2.1 a (by omega)
          refine ⟨h5, k5, ?_⟩
          have e19 : h5.2.1 136 19 = nI res.2.2 := by rw [u2.2.2 136 (by decide)]; exact t5
          unfold f_Mod_judge
          simp only [am_let]
          rw [e3, Option.bind_some, if_tt, n_noTray v M1 hi (e2 _), hg, Option.bind_some, if_pos (by rfl), g1, Option.bind_some, t1, Option.bind_some]
          simp only
          rw [rd_lit (by decide) (by decide), Option.bind_some, rd_lit (by decide) (by decide), Option.bind_some, u1, Option.bind_some, e19, t3.1, show h4.2.1 137 28 = nI (sD res.2.1) from t3.2.2.1]
        have hsame : ∀ c : Int32, f_Top_judge (nI i) (nI k) h = some (c, h2) → (∀ h', RM g h' → ∀ h5, ((if nI k = 0 then (if nI res.2.2 = 0 then some ((-1 : Int32), h5) else some (nI res.1, h5)) else if nI k = (1 : Int32) then some (nI res.2.2, h5) else if nI k = (2 : Int32) then some (nI (sD res.2.1), h5) else some (nI (sH res.2.1), h5)) : Option (Int32 × am_H)) = some (c, h5)) → ∃ x', (∃ h', f_Top_judge (nI i) (nI k) h = some (x', h') ∧ keT h h') ∧ (∀ h', RM g h' → (∀ a, 136 ≤ a → h'.2.1 a = h.2.1 a) → ∃ h'', f_Mod_judge (nI i) (nI k) h' = some (x', h'') ∧ keM h' h'') := fun c q1 q2 => ⟨c, ⟨h2, q1, x2.keT scr4⟩, fun h' M _ => by
          obtain ⟨h5, k5, m5⟩ := hM h' M
          exact ⟨h5, by rw [m5]; exact q2 h' M h5, k5⟩⟩
        rcases (show k = 0 ∨ k = 1 ∨ k = 2 ∨ k = 3 by omega) with rfl | rfl | rfl | rfl
        · rw [if_pos (show nI 0 = (0 : Int32) from rfl)] at hT
          rcases hres with ⟨z1, z2, z3⟩ | ⟨z1, z2⟩
          · rw [if_pos (by rw [if_pos (nI_lt z1 (by omega))])] at hT
            exact hsame _ hT (fun h' _ h5 => by rw [if_pos (show nI 0 = (0 : Int32) from rfl), if_neg (show ¬ nI _ = (0 : Int32) from fun q => z2 ((nI_eq (b := 0) (by omega) (by decide)).mp q))])
          · rw [if_neg (by rw [if_neg (nI_nlt (by omega) (by omega))]; decide)] at hT
            exact hsame _ hT (fun h' _ h5 => by rw [if_pos (show nI 0 = (0 : Int32) from rfl), z2, if_pos (show nI 0 = (0 : Int32) from rfl)])
        · rw [if_neg (show ¬ nI 1 = (0 : Int32) by decide), if_pos (show nI 1 = (1 : Int32) from rfl)] at hT
          rcases hres with ⟨z1, z2, z3⟩ | ⟨z1, z2⟩
          · obtain ⟨h6, p1, p2, p3⟩ := n_deed (d := q.2.2 res.1) (o := 14) (b := b + 0 + q.2.1) (by omega) hr hvr T2.1 b3 (by omega)
            rw [z3] at p1
            rw [if_pos (by rw [if_pos (nI_lt z1 (by omega))]), tr_at v T2 hi hg z1, Option.bind_some, p1, Option.bind_some] at hT
            refine ⟨nI res.2.2, ⟨h6, hT, (x2.tr p2 (Z := [14, 15, 16, 17]) (fun _ z => z) (fun _ z => z)).keT scr4⟩, fun h' M _ => ?_⟩
            obtain ⟨h5, k5, m5⟩ := hM h' M
            exact ⟨h5, by rw [m5, if_neg (show ¬ nI 1 = (0 : Int32) by decide), if_pos (show nI 1 = (1 : Int32) from rfl)], k5⟩
          · rw [if_neg (by rw [if_neg (nI_nlt (by omega) (by omega))]; decide)] at hT
            exact hsame _ hT (fun h' _ h5 => by rw [if_neg (show ¬ nI 1 = (0 : Int32) by decide), if_pos (show nI 1 = (1 : Int32) from rfl), z2]; rfl)
        · rw [if_neg (show ¬ nI 2 = (0 : Int32) by decide), if_neg (show ¬ nI 2 = (1 : Int32) by decide), if_pos (show nI 2 = (2 : Int32) from rfl), b3.2.2.1] at hT
          exact hsame _ hT (fun h' _ h5 => by rw [if_neg (show ¬ nI 2 = (0 : Int32) by decide), if_neg (show ¬ nI 2 = (1 : Int32) by decide), if_pos (show nI 2 = (2 : Int32) from rfl)])
        · rw [if_neg (show ¬ nI 3 = (0 : Int32) by decide), if_neg (show ¬ nI 3 = (1 : Int32) by decide), if_neg (show ¬ nI 3 = (2 : Int32) by decide), b3.1] at hT
          exact hsame _ hT (fun h' _ h5 => by rw [if_neg (show ¬ nI 3 = (0 : Int32) by decide), if_neg (show ¬ nI 3 = (1 : Int32) by decide), if_neg (show ¬ nI 3 = (2 : Int32) by decide)])
    · refine ⟨-2, ⟨h, ?_, keT.rf⟩, fun h' M _ => ?_⟩
      · unfold f_Top_judge
        rw [e1, Option.bind_some, if_tt]
        by_cases d : y < 0
        · rw [if_pos d]
        · rcases q with q | q
          · exact absurd q d
          · rw [if_neg d, if_neg (show ¬ y ≤ (3 : Int32) from q)]
      · unfold f_Mod_judge
        simp only [am_let]
        rw [e3, Option.bind_some, if_ff]
        exact ⟨_, rfl, keM.s0 (by decide)⟩
  · refine ⟨-2, ⟨h, ?_, keT.rf⟩, fun h' M _ => ?_⟩
    · unfold f_Top_judge
      rw [e1, Option.bind_some, if_ff]
    · unfold f_Mod_judge f_Mod_noTray
      simp only [am_let]
      rcases rng2 (n := 3) (by decide) (show (3 : Int64) = lN 3 from rfl) y with ⟨k, hk, rfl, e3⟩ | ⟨q, e3⟩
      · rw [e3, Option.bind_some, if_tt, e2, Option.bind_some, if_ff, Option.bind_some]
        exact ⟨_, rfl, keM.s0 (by decide)⟩
      · rw [e3, Option.bind_some, if_ff]
        exact ⟨_, rfl, keM.s0 (by decide)⟩
