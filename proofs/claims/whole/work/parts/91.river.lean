-- deps: 90.rest
/-! ===== river ===== -/
/-- the class's rows that a reading leaves alone -/
theorem RT.fl {g : sG} {h h' : am_H} {B : Nat → Nat} {k : Nat} {l : Option Nat} (T : RT g h) (F : fA (am_sI h 0 13 0) h') (e1 : h'.2.1 61 1 = nI k) (e2 : h'.2.1 61 2 = oI l) : RT (g.1, g.2.1, (0, B), (k, l), g.2.2.2.2) h' := by
  obtain ⟨R1, R2, ⟨e, q1, q2, q3, q4⟩, ⟨m, i1, i2, i3⟩, ⟨t1, t2⟩, ⟨f1, f2⟩, R7, R8, R9, R10⟩ := T
  have r : ∀ a, a ≠ 0 → (a < 61 ∨ 82 < a) → h'.2.1 a = h.2.1 a := fun a h0 ha => by rw [F.1 a ha, sI_row, if_neg h0]
  have r0 : ∀ j, j ≠ 13 → h'.2.1 0 j = h.2.1 0 j := fun j hj => by rw [F.1 0 (by omega), sI_at (.inr hj)]
  have rJ : h'.2.2.1 = h.2.2.1 := F.2.1
  refine ⟨R1.cg (fun a _ _ => r a (by omega) (by omega)), R2.cg (fun a _ _ => r a (by omega) (by omega)), ⟨e, q1, ?_, ?_, fun i hi => (q4 i hi).cg (fun a _ _ => r a (by omega) (by omega))⟩, ⟨m, i1, ?_, fun i hi => ⟨(i3 i hi).1, fun q hq => ⟨((i3 i hi).2 q hq).1.cg (fun a _ _ => r a (by omega) (by omega)), ((i3 i hi).2 q hq).2.cg (fun a _ _ => r a (by omega) (by omega))⟩⟩⟩, ⟨?_, fun i hi => by cases hi⟩, ⟨e1, e2⟩, ?_, ?_, ?_, ?_⟩
  · rw [r 18 (by omega) (by omega)]; exact q2
  · rw [r 18 (by omega) (by omega)]; exact q3
  · rw [r0 14 (by omega)]; exact i2
  · show h'.2.1 0 13 = nI 0
    rw [F.1 0 (by omega), sI_me]; rfl
  · intro i hi
    rw [r (102 + 2 * i) (by omega) (by omega), rJ]
    exact R7 i hi
  · unfold tBest; rw [r 91 (by omega) (by omega), r 93 (by omega) (by omega)]; exact R8
  · unfold tGood; rw [r 91 (by omega) (by omega)]; exact R9
  · unfold tRef am_rf
    have F86 : h'.2.2.2 86 = h.2.2.2 86 := F.2.2 86 (by decide)
    have F99 : h'.2.2.2 99 = h.2.2.2 99 := F.2.2 99 (by decide)
    rw [F86, F99]
    exact R10
theorem RT.nw {g : sG} {h hc h' : am_H} {B : Nat → Nat} {r : sR} {s : sS} {z : Nat → sS} (T : RT g h) (F : fA (am_sI h 0 13 0) hc) (c1 : hc.2.1 61 1 = 0) (c2 : hc.2.1 61 2 = -1) (J : h'.2.2 = hc.2.2) (rr : ∀ a, a = 0 ∨ (13 < a ∧ a ≠ 18 ∧ a ≠ 91) → h'.2.1 a = hc.2.1 a) (R1' : tR 1 r h') (R2' : tS 10 r s h') (p1 : h'.2.1 18 2 = nI 0) (p2 : h'.2.1 18 1 = hc.2.1 18 1) (w1 : h'.2.1 91 8 = 0) (w2 : h'.2.1 91 9 = 0) : RT ((r, s, 0, z), g.2.1, (0, B), (0, none), g.2.2.2.2) h' := by
  obtain ⟨R1, R2, ⟨e, q1, q2, q3, q4⟩, ⟨m, i1, i2, i3⟩, ⟨t1, t2⟩, ⟨f1, f2⟩, R7, R8, R9, R10⟩ := T
  have r : ∀ a, 82 < a → a ≠ 91 → h'.2.1 a = h.2.1 a := fun a ha h1 => by rw [rr a (by omega), F.1 a (by omega), sI_row, if_neg (by omega)]
  have r0 : ∀ j, j ≠ 13 → h'.2.1 0 j = h.2.1 0 j := fun j hj => by rw [rr 0 (by omega), F.1 0 (by omega), sI_at (.inr hj)]
  have rJ : h'.2.2.1 = h.2.2.1 := by rw [J]; exact F.2.1
  refine ⟨R1', R2', ⟨e, q1, ?_, p1, fun i hi => by cases hi⟩, ⟨m, i1, ?_, fun i hi => ⟨(i3 i hi).1, fun q hq => ⟨((i3 i hi).2 q hq).1.cg (fun a _ _ => r a (by omega) (by omega)), ((i3 i hi).2 q hq).2.cg (fun a _ _ => r a (by omega) (by omega))⟩⟩⟩, ⟨?_, fun i hi => by cases hi⟩, ⟨?_, ?_⟩, ?_, .inl w1, .inl w2, ?_⟩
  · rw [p2, F.1 18 (by omega), sI_row, if_neg (by decide)]; exact q2
  · rw [r0 14 (by omega)]; exact i2
  · show h'.2.1 0 13 = nI 0
    rw [rr 0 (by omega), F.1 0 (by omega), sI_me]; rfl
  · rw [rr 61 (by omega)]; exact c1
  · rw [rr 61 (by omega), c2]; exact oI_none.symm
  · intro i hi
    rw [r (102 + 2 * i) (by omega) (by omega), rJ]
    exact R7 i hi
  · unfold tRef am_rf
    have F86 : h'.2.2.2 86 = h.2.2.2 86 := by rw [J]; exact F.2.2 86 (by decide)
    have F99 : h'.2.2.2 99 = h.2.2.2 99 := by rw [J]; exact F.2.2 99 (by decide)
    rw [F86, F99]
    exact R10
theorem RM.fl {g : sG} {h hm : am_H} {B : Nat → Nat} {k pl : Nat} {p1 : Int32} (M : RM g h) (F : fB (mSt p1 h) hm) (e1 : hm.2.1 136 11 = nI k) (e2 : hm.2.1 136 12 = nI pl) (hk : 1 ≤ k ∧ k ≤ 4) : ∃ h'', mRest p1 hm = some ((-30 : Int32) - nI k, h'') ∧ RM (g.1, g.2.1, (0, B), (k, some pl), g.2.2.2.2) h'' ∧ frM h h'' := by
  have s11 : (am_sI hm 136 13 (hm.2.1 136 11)).2.1 136 11 = nI k := (sI_at (.inr (by decide))).trans e1
  have s12 : (am_sI hm 136 13 (hm.2.1 136 11)).2.1 136 12 = nI pl := (sI_at (.inr (by decide))).trans e2
  have t11 : ∀ x, (am_sI (am_sI hm 136 13 (hm.2.1 136 11)) 136 14 x).2.1 136 11 = nI k := fun x => (sI_at (.inr (by decide))).trans s11
  unfold mRest
  simp only [am_let]
  rw [t11, if_neg (nI0f hk.1 hk.2), s11, if_neg (nI0f hk.1 hk.2), s12]
  have x0 : am_ex [136, 140] h hm := (mSt_x (p1 := p1)).tr F.1 (fun _ z => z) (fun _ z => z)
  have x1 : am_ex [136, 140] h (am_sI (am_sI hm 136 13 (hm.2.1 136 11)) 136 14 (nI pl)) := (x0.tr (am_ex.sI (X := [136, 140]) (by decide)) (fun _ z => z) (fun _ z => z)).tr (am_ex.sI (X := [136, 140]) (by decide)) (fun _ z => z) (fun _ z => z)
  have q5 : (am_sI (am_sI hm 136 13 (hm.2.1 136 11)) 136 14 (nI pl)).2.1 136 5 = nI 0 := by
    rw [sI_at (.inr (by decide)), sI_at (.inr (by decide)), F.2 5 (by omega), mSt_v.2.1]; rfl
  have q13 : (am_sI (am_sI hm 136 13 (hm.2.1 136 11)) 136 14 (nI pl)).2.1 136 13 = nI k := by
    rw [sI_at (.inr (by decide)), sI_me, e1]
  have q14 : (am_sI (am_sI hm 136 13 (hm.2.1 136 11)) 136 14 (nI pl)).2.1 136 14 = nI pl := sI_me
  generalize am_sI (am_sI hm 136 13 (hm.2.1 136 11)) 136 14 (nI pl) = z at x1 q5 q13 q14 ⊢
  refine ⟨z, rfl, ?_, x1.frM (by decide)⟩
  obtain ⟨M1, M2, M3, M4, M5, M6, M7⟩ := M
  have r : ∀ a, a ≠ 136 → a ≠ 140 → z.2.1 a = h.2.1 a := fun a h1 h2 => x1.2.2 a (by simp; omega)
  have rJ : z.2.2 = h.2.2 := x1.2.1
  refine ⟨?_, ?_, ?_, ?_, ⟨q5, fun i hi => by cases hi⟩, ⟨q13, by rw [q14]; exact (oI_some pl).symm⟩, ?_⟩
  · rw [r 137 (by decide) (by decide)]; exact M1
  · rw [r 137 (by decide) (by decide)]; exact M2
  · rw [r 137 (by decide) (by decide)]; exact M3
  · unfold mImg at M4 ⊢
    rw [r 137 (by decide) (by decide), r 138 (by decide) (by decide)]; exact M4
  · unfold mTry at M7 ⊢
    rw [r 158 (by decide) (by decide), r 159 (by decide) (by decide), rJ]; exact M7
theorem RM.nw {g : sG} {h hm : am_H} {B : Nat → Nat} {p1 : Int32} {z : Nat → sS} (M : RM g h) (F : fB (mSt p1 h) hm) (e1 : hm.2.1 136 11 = 0) (pa : PA (hm.2.1 140)) : ∃ h'', mRest p1 hm = some (nI (rL (rOf (hm.2.1 140))), h'') ∧ RM ((rOf (hm.2.1 140), sM (rOf (hm.2.1 140)) (sOf (hm.2.1 140)), 0, z), g.2.1, (0, B), (0, none), g.2.2.2.2) h'' ∧ frM h h'' := by
  have s11 : (am_sI hm 136 13 (hm.2.1 136 11)).2.1 136 11 = 0 := (sI_at (.inr (by decide))).trans e1
  have t11 : ∀ x, (am_sI (am_sI hm 136 13 (hm.2.1 136 11)) 136 14 x).2.1 136 11 = 0 := fun x => (sI_at (.inr (by decide))).trans s11
  unfold mRest
  simp only [am_let]
  rw [t11, if_pos rfl, s11, if_pos rfl]
  have x0 : am_ex [136, 140] h hm := (mSt_x (p1 := p1)).tr F.1 (fun _ z => z) (fun _ z => z)
  have x1 : am_ex [136, 140] h (am_sI (am_sI hm 136 13 (hm.2.1 136 11)) 136 14 (-1)) := (x0.tr (am_ex.sI (X := [136, 140]) (by decide)) (fun _ z => z) (fun _ z => z)).tr (am_ex.sI (X := [136, 140]) (by decide)) (fun _ z => z) (fun _ z => z)
  have q5 : (am_sI (am_sI hm 136 13 (hm.2.1 136 11)) 136 14 (-1)).2.1 136 5 = nI 0 := by
    rw [sI_at (.inr (by decide)), sI_at (.inr (by decide)), F.2 5 (by omega), mSt_v.2.1]; rfl
  have q13 : (am_sI (am_sI hm 136 13 (hm.2.1 136 11)) 136 14 (-1)).2.1 136 13 = nI 0 := by
    rw [sI_at (.inr (by decide)), sI_me, e1]; rfl
  have q14 : (am_sI (am_sI hm 136 13 (hm.2.1 136 11)) 136 14 (-1)).2.1 136 14 = -1 := sI_me
  have q140 : (am_sI (am_sI hm 136 13 (hm.2.1 136 11)) 136 14 (-1)).2.1 140 = hm.2.1 140 := by rw [sI_row, if_neg (by decide), sI_row, if_neg (by decide)]
  generalize am_sI (am_sI hm 136 13 (hm.2.1 136 11)) 136 14 (-1) = y at x1 q5 q13 q14 q140 ⊢
  obtain ⟨c, c1, c2, c3⟩ := n_L179 (p1 := p1) (h := y)
  rw [q140] at c3
  generalize hm.2.1 140 = A at pa c3 ⊢
  have lo : ∀ j, j < 1137 → c.2.2.1 137 j = A j := fun j hj => by rw [c3 j, if_pos hj]
  have hi : ∀ j, 1137 ≤ j → c.2.2.1 137 j = h.2.1 137 j := fun j hj => by rw [c3 j, if_neg (by omega), x1.2.2 137 (by decide)]
  have hr := pa.1
  have hW := hr.2.1
  have hP := hr.2.2.1
  have mr : mR (c.2.2.1 137) (rOf A) := pa.2.1.cg2 hr (fun j hj => lo j (by omega))
  have z0 : ∀ a, a = 27 ∨ a = 28 ∨ (40 ≤ a ∧ a ≤ 45) → A a = 0 := pa.2.2.2.1
  have ms : mS (c.2.2.1 137) 26 (rOf A) (sOf A) := by
    refine ⟨by rw [lo 26 (by omega)]; exact pa.ho.1, by rw [lo (26 + 1) (by omega), z0 _ (by omega)]; rfl, by rw [lo (26 + 2) (by omega), z0 _ (by omega)]; rfl, fun k hk => ?_, fun p hp => ⟨?_, ?_⟩⟩
    · rw [lo _ (by omega)]; exact (pa.wk (by omega)).1
    · rw [lo _ (by omega)]; exact (pa.sp hp).1
    · rw [lo _ (by omega), z0 _ (by omega)]; rfl
  obtain ⟨u, d1, d2, d3, d4⟩ := n_doesErrands (h := c.2) (r := rOf A) (s := sOf A) ⟨hr, pa.vs (by decide), mr, ms⟩
  obtain ⟨w1, w2, w3, w4, w5⟩ := d2
  have mr2 : mR (u.2.1 137) (rOf A) := mr.cg2 hr (fun j hj => w5 j (by omega))
  have ra : am_rd (u.2.1 137) 3411 (0 : Int32) = some (nI (rL (rOf A))) := (n_rd (i := 0) (by decide) (by decide)).trans (by rw [mr2.1])
  rw [c1, Option.bind_some, d1, Option.bind_some, ra, Option.bind_some]
  have c136 : c.2.2.1 136 = y.2.1 136 := c2.2.2 136 (by decide)
  have fr : frM h u := (x1.frM (by decide)).tr ((c2.frM (by decide)).tr w1)
  refine ⟨u, rfl, ?_, fr⟩
  obtain ⟨M1, M2, M3, M4, M5, M6, M7⟩ := M
  have r : ∀ a, 138 ≤ a → a ≠ 140 → u.2.1 a = h.2.1 a := fun a h1 h2 => by rw [d4 a (by omega), c2.2.2 a (by simp; omega), x1.2.2 a (by simp; omega)]
  have hu : ∀ j, 1137 ≤ j → u.2.1 137 j = h.2.1 137 j := fun j hj => by rw [w5 j (by omega), hi j hj]
  refine ⟨mr2, d3, ⟨?_, fun i hi => by cases hi⟩, ?_, ⟨?_, fun i hi => by cases hi⟩, ⟨?_, ?_⟩, ?_⟩
  · rw [w5 45 (by omega), lo 45 (by omega), z0 45 (by omega)]; rfl
  · intro i hi'
    rw [r 138 (by omega) (by omega)]
    obtain ⟨m1, m2⟩ := M4 i hi'
    refine ⟨m1, fun q hq => ?_⟩
    obtain ⟨m3, m4, m5⟩ := m2 q hq
    refine ⟨m3, ?_, ?_⟩
    · have e : (fun j => u.2.1 137 (1137 * (i + 1) + j)) = (fun j => h.2.1 137 (1137 * (i + 1) + j)) := funext fun j => hu _ (by omega)
      rw [e]
      exact m4
    · obtain ⟨a1, a2, a3, a4, a5⟩ := m5
      refine ⟨by rw [hu _ (by omega)]; exact a1, by rw [hu _ (by omega)]; exact a2, by rw [hu _ (by omega)]; exact a3, fun k hk => by rw [hu _ (by omega)]; exact a4 k hk, fun p hp => ?_⟩
      rw [hu _ (by omega), hu _ (by omega)]
      exact a5 p hp
  · rw [w4.1, c136]; exact q5
  · rw [w4.2.1, c136]; exact q13
  · rw [w4.2.2, c136, q14]; exact oI_none.symm
  · have j160 : u.2.2.1 160 = h.2.2.1 160 := by rw [w3, c2.2.1, x1.2.1]
    unfold mTry at M7 ⊢
    rw [r 158 (by omega) (by omega), r 159 (by omega) (by omega), j160]; exact M7
theorem ok_river (b : Nat) (hb0 : 1000 ≤ b) (hb : b ≤ 90000) (x : Int32) : ok2 b (f_Top_river x) (f_Mod_river x) := by
  intro h ⟨g, v, T, M⟩
  have hn := v.2.2.2.2.2.1.1
  have hB := v.2.2.2.2.2.1.2
  have eT : h.2.1 0 13 = nI g.2.2.1.1 := T.2.2.2.2.1.1
  have eM : h.2.1 136 5 = nI g.2.2.1.1 := M.2.2.2.2.1.1
  have hu : (nI g.2.2.1.1).toInt64 = lN g.2.2.1.1 := nI_l (by omega)
  rcases rng2 (n := g.2.2.1.1) (by omega) hu x with ⟨n, hk, rfl, hw⟩ | ⟨hx, hw⟩
  · have tps : tp g.2.2.1.2 n (am_sI h 0 13 0) := fun i hi => ⟨hB i (by omega), by rw [sI_row, if_neg (by decide)]; exact T.2.2.2.2.1.2 i (by omega)⟩
    have start : ∀ h0 : am_H, (∀ a, 136 ≤ a → h0.2.1 a = h.2.1 a) → tpm g.2.2.1.2 n (mSt (nI n) h0) := fun h0 q => ⟨mSt_v.1, fun i hi => ⟨hB i (by omega), by rw [mSt_x.2.2 139 (by decide), q 139 (by omega)]; exact M.2.2.2.2.1.2 i (by omega)⟩⟩
    have run : ∀ h0 : am_H, (∀ a, 136 ≤ a → h0.2.1 a = h.2.1 a) → _ := fun h0 q => both (B := g.2.2.1.2) (n := n) (hs := am_sI h 0 13 0) (hm := mSt (nI n) h0) (by omega) tps (start h0 q) mSt_v.2.2.1 mSt_v.2.2.2.1 mSt_v.2.2.2.2
    have tl : f_Top_river (nI n) h = (f_Reader_read 60 900 (nI n) (am_sI h 0 13 0)).bind fun q4 => (if q4.1 = 0 then cRest q4.2 else some (((-30 : Int32) - q4.1), q4.2)) := by
      unfold f_Top_river
      simp only [am_let]
      rw [if_neg (nI_pos (by omega)), eT, if_pos (nI_le hk (by omega))]
      rfl
    have ml : ∀ h0 : am_H, (∀ a, 136 ≤ a → h0.2.1 a = h.2.1 a) → f_Mod_river (nI n) h0 = (mChain (nI n) (mSt (nI n) h0)).bind (mRest (nI n)) := fun h0 q => river_eq (by rw [q 136 (by omega), eM]; exact hw _)
    obtain ⟨k, hc, hm1, a1, a2, a3, a4, a5⟩ := run h (fun _ _ => rfl)
    rw [tl, a1, Option.bind_some]
    rcases a5 with ⟨rfl, f⟩ | ⟨rfl, c1, c2, c3, cf, pa⟩
    · have hup : ∀ a, 136 ≤ a → hc.2.1 a = h.2.1 a := fun a ha => by rw [a3.1 a (by omega), sI_row, if_neg (by omega)]
      have hfT : frT h hc := fun a ha => ⟨hup a ha, by rw [a3.2.1]; rfl⟩
      have hM : RM g hc := M.cg hfT
      obtain ⟨k2, hc2, hm2, b1, b2, b3, b4, b5⟩ := run hc hup
      have eq := Option.some.inj (a1.symm.trans b1)
      have e1 : hc.2.1 61 1 = k2 := (Prod.mk.inj eq).1
      have e2 : hc = hc2 := (Prod.mk.inj eq).2
      subst e2
      rcases b5 with ⟨_, f2⟩ | ⟨z, _⟩
      · obtain ⟨kk, pl, q1, q2, q3, q4, q5, q6, q7⟩ := f2
        obtain ⟨h2, m1, m2, m3⟩ := RM.fl (B := g.2.2.1.2) hM b4 q6 q7 ⟨q1, q2⟩
        rw [if_neg (show ¬ hc.2.1 61 1 = 0 from f.ne')]
        refine ⟨(-30 : Int32) - nI kk, hc, h2, ?_, ?_, (g.1, g.2.1, (0, g.2.2.1.2), (kk, some pl), g.2.2.2.2), ?_, ?_, m2⟩
        · show some ((-30 : Int32) - hc.2.1 61 1, hc) = _
          rw [q4]
        · rw [ml hc hup, b2, Option.bind_some, m1]
        · have v2 := v.up (show b ≤ b + 48 by omega)
          exact ⟨v2.1, v2.2.1, v2.2.2.1, v2.2.2.2.1, v2.2.2.2.2.1, ⟨Nat.zero_le _, fun i hi => by cases hi⟩, ⟨q2, fun x hx => by cases hx; exact q3⟩, v2.2.2.2.2.2.2.2⟩
        · exact (RT.fl (B := g.2.2.1.2) T a3 q4 (by rw [q5]; exact (oI_some pl).symm)).cg m3
      · exact absurd (e1.trans z) f.ne'
    · obtain ⟨h', r1, r2, r3, r4, r5, r6, r7, r8, r9⟩ := n_cRest pa cf
      rw [if_pos rfl]
      have hup : ∀ a, 136 ≤ a → h'.2.1 a = h.2.1 a := fun a ha => by rw [r3 a (by omega), a3.1 a (by omega), sI_row, if_neg (by omega)]
      have hfT : frT h h' := fun a ha => ⟨hup a ha, by rw [r2, a3.2.1]; rfl⟩
      have hM : RM g h' := M.cg hfT
      obtain ⟨k2, hc2, hm2, b1, b2, b3, b4, b5⟩ := run h' hup
      have eq := Option.some.inj (a1.symm.trans b1)
      have e1 : (0 : Int32) = k2 := (Prod.mk.inj eq).1
      have e2 : hc = hc2 := (Prod.mk.inj eq).2
      subst e2
      rcases b5 with ⟨z, f2⟩ | ⟨_, d1, d2, d3, cf2, pa2⟩
      · exact absurd c1 f2.ne'
      · obtain ⟨h3, s1, s2, s3, s4, s5, s6, s7, s8, s9⟩ := n_cRest pa2 cf2
        have eq2 := Option.some.inj (r1.symm.trans s1)
        have e4 : h' = h3 := (Prod.mk.inj eq2).2
        subst e4
        obtain ⟨h2, m1, m2, m3⟩ := RM.nw (B := g.2.2.1.2) (z := fun _ => sOf (hm2.2.1 140)) hM b4 d3 pa2
        refine ⟨nI (rL (rOf (hm2.2.1 140))), h', h2, s1, ?_, ((rOf (hm2.2.1 140), sM (rOf (hm2.2.1 140)) (sOf (hm2.2.1 140)), 0, fun _ => sOf (hm2.2.1 140)), g.2.1, (0, g.2.2.1.2), (0, none), g.2.2.2.2), ?_, ?_, m2⟩
        · rw [ml h' hup, b2, Option.bind_some, m1]
        · have v2 := v.up (show b ≤ b + 48 by omega)
          exact ⟨pa2.1, sM_v pa2.1 (pa2.vs (by omega)), Nat.zero_le _, fun i hi => (by cases hi), v2.2.2.2.2.1, ⟨Nat.zero_le _, fun i hi => by cases hi⟩, ⟨Nat.zero_le _, fun x hx => by cases hx⟩, v2.2.2.2.2.2.2.2⟩
        · exact (RT.nw (B := g.2.2.1.2) (z := fun _ => sOf (hm2.2.1 140)) T a3 c1 c2 s2 s3 s4 s5 s6 s7 s8 s9).cg m3
  · have t1 : f_Top_river x h = some (-3, h) := by
      unfold f_Top_river
      rcases hx with c | c
      · rw [if_pos c]
      · by_cases d : x < 0
        · rw [if_pos d]
        · rw [if_neg d, eT, if_neg c]
    have m1 : f_Mod_river x h = some (-3, am_sI h 136 0 0) := by
      unfold f_Mod_river
      simp only [am_let]
      have e5 : (am_sI h 136 0 0).2.1 136 5 = nI g.2.2.1.1 := (sI_at (.inr (by decide))).trans eM
      rw [e5, hw, Option.bind_some, if_neg Bool.false_ne_true]
    have k0 : keM h (am_sI h 136 0 0) := keM.s0 (by decide)
    exact ⟨-3, h, _, t1, m1, g, v.up (by omega), T.cg k0.1, M.ke k0⟩
