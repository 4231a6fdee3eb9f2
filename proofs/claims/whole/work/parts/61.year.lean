-- deps: 31.law 32.nat 33.bit 34.spec 35.riv 36.let 37.mod 38.mod 39.it 40.ahead 41.rel 42.ask 43.why 44.meet 45.err 46.err 47.wk 48.chg 50.ways 51.way 52.tray 54.past 55.hour 56.act 57.undo 59.deed 60.judge
/-! ===== perform ===== -/
theorem RM.mWs {b : Nat} {g : sG} {h h' : am_H} {s : sS} (v : VG b g) (R : RM g h) (w : mW h h') (M : mS (h'.2.1 137) 26 g.1.1 s) : RM (gS' g s) h' := by
  have hr := v.1
  have hn := v.2.2.1
  obtain ⟨M1, M2, ⟨P1, P2⟩, M4, M5, M6, M7⟩ := R
  refine ⟨mR.cg hr M1 (fun j hj => w.2.2.2.2 j (by omega)), M, ⟨?_, fun i hi => (P2 i hi).mv hr (fun j hj => w.2.2.2.2 _ (by omega))⟩, RM.cgI (g := g) (h := h) (fun i hi q hq => (v.2.2.2.2.1 i hi q hq).1) M4 (fun j hj => w.2.2.2.2 j (by omega)) (w.2.1 138 (by omega)), ⟨?_, ?_⟩, ⟨?_, ?_⟩, ?_⟩
  · rw [w.2.2.2.2 45 (by omega)]; exact P1
  · rw [w.2.2.2.1.1]; exact M5.1
  · rw [w.2.1 139 (by omega)]; exact M5.2
  · rw [w.2.2.2.1.2.1]; exact M6.1
  · rw [w.2.2.2.1.2.2]; exact M6.2
  · intro i hi
    rw [w.2.1 158 (by omega), w.2.1 159 (by omega), w.2.2.1]
    exact M7 i hi
theorem gS_id {g : sG} : gS' g g.1.2.1 = g := rfl
/-- the trial becomes the state -/
theorem n_become {b : Nat} {g : sG} {h : am_H} {s : sS} (v : VG b g) (T : RT g h) (X : tS 14 g.1.1 s h) : ∃ h1, ((f_Top_willChange h).bind fun q2 => (f_State_copyFrom 10 14 q2).bind fun q3 => some q3) = some h1 ∧ RT (gS' (gP g) s) h1 ∧ frT h h1 := by
  have hr := v.1
  obtain ⟨h1, c1, c2, c3, c4, c5⟩ := n_will0 v T
  obtain ⟨h2, b1, b2, b3, b4, b5, b6, b7⟩ := n_stCopy (h := h1) (o := 10) (q := 14) (by omega)
  have X1 : tS 14 g.1.1 s h1 := X.cg (fun a _ _ => c5 a (by omega) (by omega) (by omega))
  have T2 : tS 10 g.1.1 s h2 := X1.mv hr b4 b5 b6 b7
  rw [c1, Option.bind_some, b1, Option.bind_some]
  refine ⟨h2, rfl, c2.setS c3.1 c3.2 (fun a _ _ ha => b3 a (by omega)) (fun i hi => by rw [b2]) (rf_id (by rw [b2])) T2, c4.tr (fun a ha => ⟨b3 a (by omega), by rw [b2]⟩)⟩
theorem ok_perform (b : Nat) (hb : b ≤ 90000) (x : Int32) : ok2 b (f_Top_perform x) (f_Mod_perform x) := by
  refine ok2_st (fun g h v T M0 => ?_)
  have hr := v.1
  rcases tr4 x with ⟨i, hi, rfl, e1, e2⟩ | ⟨e1, e2⟩
  · cases hg : g.2.2.2.2 i with
    | none =>
      refine st_same v T (-6) ?_ (fun h' M => ?_)
      · unfold f_Top_perform
        rw [e1, Option.bind_some, if_tt, n_el hi (by decide), Option.bind_some, (T.tr i hi).1 hg, if_pos rfl]
      · obtain ⟨k0, MV⟩ := s0M M v hb
        unfold f_Mod_perform
        simp only [am_let]
        rw [n_noTray v (M.ke k0) hi (e2 _), hg, Option.bind_some]
        exact ⟨_, rfl, k0⟩
    | some q =>
      obtain ⟨q1, q2⟩ := v.tr i hi q hg
      obtain ⟨c1, c2, c3, c4⟩ := (T.tr i hi).2 q hg
      obtain ⟨h1, a1, a2, a3⟩ := n_trial T hr
      have T1 := T.ke (a2.keT scr4)
      obtain ⟨d1, d2, d3, d4⟩ := (T1.tr i hi).2 q hg
      obtain ⟨h2, b1, b2, b3⟩ := n_doAll (by omega) hr v.2.1 T1.1 a3 hi q2 d2 d4
      have hle := dA_le (r := g.1.1) (f := q.2.2) q.2.1 0 g.1.2.1
      have h00 := dA_0 (r := g.1.1) (f := q.2.2) q.2.1 0 g.1.2.1
      have hvr := dA_v (b := b) (f := q.2.2) hr q.2.1 0 g.1.2.1 v.2.1
      generalize hR : dA g.1.1 q.2.2 q.2.1 0 g.1.2.1 = res at *
      rw [Nat.zero_add] at hle
      have x2 := a2.tr b2 (Z := [14, 15, 16, 17]) (fun _ z => z) (fun _ z => z)
      have k2 := x2.keT scr4
      have T2 := T.ke k2
      have hM : ∀ h', RM g h' → ∃ h4, mW h' h4 ∧ mS (h4.2.1 137) 26 g.1.1 res.2.1 ∧ (∀ j, j < 19 → h4.2.1 143 j = h'.2.1 137 (26 + j)) ∧ f_Mod_perform (nI i) h' = (if nI res.1 ≤ 0 then some (nI res.1, h4) else (f_Mod_notes h4).bind fun q7 => some (nI res.1, q7)) := fun h' M => by
        obtain ⟨k0, MV⟩ := s0M M v hb
        have M1 := M.ke k0
        obtain ⟨h3, g1, g2, g3, g4⟩ := m_keep M k0
        have M3 := M.ke g2
        obtain ⟨s1, s2, s3⟩ := (M3.tr i hi).2 q hg
        obtain ⟨h4, t1, t2, t3, t4, t5⟩ := n_tells (by omega) v.2.1 (M3.mV v (by omega)) hi q2 s2 s3
        rw [hR] at t1 t3
        refine ⟨h4, g2.mW.tr t2, t3, fun j hj => by rw [t4]; exact g3 j hj, ?_⟩
        unfold f_Mod_perform
        simp only [am_let]
        rw [n_noTray v M1 hi (e2 _), hg, Option.bind_some, if_pos (by rfl), g1, Option.bind_some, t1, Option.bind_some]
      have hT : f_Top_perform (nI i) h = ((if nI res.1 ≤ 0 then some h2 else (f_Top_willChange h2).bind fun q2 => (f_State_copyFrom 10 14 q2).bind fun q3 => some q3) : Option am_H).bind fun q8 => some (nI res.1, q8) := by
        unfold f_Top_perform f_Top_becomeTrial
        rw [e1, Option.bind_some, if_tt, n_el hi (by decide), Option.bind_some, c1, if_neg (by decide), a1, Option.bind_some, Option.bind_some, b1, Option.bind_some]
      by_cases c : res.1 = 0
      · rw [c, if_pos (show nI 0 ≤ 0 by decide), Option.bind_some] at hT
        refine ⟨nI 0, g, v.up (by omega), ⟨h2, hT, T2, k2.fr⟩, fun h' M => ?_⟩
        obtain ⟨h4, m1, m2, m3, m4⟩ := hM h' M
        rw [c, if_pos (show nI 0 ≤ 0 by decide)] at m4
        rw [h00 c] at m2
        exact ⟨h4, m4, RM.mWs v M m1 m2, m1.1⟩
      · have hc : ¬ nI res.1 ≤ (0 : Int32) := nI_ge (a := 0) (by omega) (by omega)
        rw [if_neg hc] at hT
        obtain ⟨h3, p1, p2, p3⟩ := n_become v T2 b3
        rw [p1, Option.bind_some] at hT
        refine ⟨nI res.1, gS' (gP g) res.2.1, v.push (hvr.up (by omega)), ⟨h3, hT, p2, k2.fr.tr p3⟩, fun h' M => ?_⟩
        obtain ⟨h4, m1, m2, m3, m4⟩ := hM h' M
        obtain ⟨h5, n1, n2, n3, n4, n5⟩ := n_notes v M m1 m3 m2
        rw [if_neg hc, n1, Option.bind_some] at m4
        exact ⟨h5, m4, n2, m1.1.tr n3⟩
  · refine st_same v T (-2) ?_ (fun h' M => ?_)
    · unfold f_Top_perform
      rw [e1, Option.bind_some, if_ff]
    · unfold f_Mod_perform f_Mod_noTray
      simp only [am_let]
      rw [e2, Option.bind_some, if_ff, Option.bind_some]
      exact ⟨_, rfl, keM.s0 (by decide)⟩
/-! ===== year ===== -/
def dwn (c : Int32) : Int32 := (1103515245 : Int32) * c + (12345 : Int32)
def hiw (c : Int32) : Int32 := (c.toUInt32 >>> (((16 : Int32)).toUInt32 &&& Int32.toUInt32 31)).toInt32
def rmd (c m : Int32) : Int32 := hiw c - hiw c / m * m
theorem dwn_d (c : Int32) (h : am_H) : f_State_drawn c h = some (dwn c) := rfl
theorem hiw_d (c : Int32) : (c.toUInt32 >>> (((16 : Int32)).toUInt32 &&& Int32.toUInt32 31)).toInt32 = hiw c := Int32.toBitVec_inj.mp rfl
theorem rmd_d (c m : Int32) : hiw c - hiw c / m * m = rmd c m := Int32.toBitVec_inj.mp rfl
/-- what is drawn, and the seed after it -/
def ydd (r : sR) (c : Int32) : Int32 × Int32 :=
  if rmd (dwn c) 4 = 0 then (-1, dwn c) else if rmd (dwn c) 4 = 3 then ((200 : Int32) + rmd (dwn (dwn c)) 3, dwn (dwn c))
  else if rP r = 0 then (-9, dwn c) else ((10 : Int32) * rmd (dwn (dwn c)) (nI (rP r)) + rmd (dwn (dwn (dwn c))) 7, dwn (dwn (dwn c)))
def yr (r : sR) : Nat → Int32 → Nat → sS → Nat × sS
  | 0, _, n, s => (n, s)
  | m + 1, c, n, s => if wD r s (ydd r c).1.toInt = 0 then yr r m (ydd r c).2 (n + 1) (dS r s (ydd r c).1.toInt) else yr r m (ydd r c).2 n s
theorem yr_le {r : sR} : ∀ m c n s, n ≤ (yr r m c n s).1 ∧ (yr r m c n s).1 ≤ n + m
  | 0, c, n, s => ⟨Nat.le_refl _, Nat.le_refl _⟩
  | m + 1, c, n, s => by
    rw [yr]
    split
    · have := yr_le (r := r) m (ydd r c).2 (n + 1) (dS r s (ydd r c).1.toInt); omega
    · have := yr_le (r := r) m (ydd r c).2 n s; omega
theorem yr_0 {r : sR} : ∀ m c n s, (yr r m c n s).1 = n → (yr r m c n s).2 = s
  | 0, c, n, s, _ => rfl
  | m + 1, c, n, s, h => by
    rw [yr] at h ⊢
    by_cases d : wD r s (ydd r c).1.toInt = 0
    · rw [if_pos d] at h
      have := yr_le (r := r) m (ydd r c).2 (n + 1) (dS r s (ydd r c).1.toInt); omega
    · rw [if_neg d] at h ⊢
      exact yr_0 m _ n s h
theorem yr_v {b : Nat} {r : sR} (hr : vR r) : ∀ m c n s, vS b r s → vS (b + m) r (yr r m c n s).2
  | 0, c, n, s, v => v
  | m + 1, c, n, s, v => by
    rw [yr]
    split
    · have := yr_v (b := b + 1) hr m (ydd r c).2 (n + 1) _ (dS_v (i := (ydd r c).1.toInt) hr v)
      exact this.up (by omega)
    · have := yr_v (b := b) hr m (ydd r c).2 n s v
      exact this.up (by omega)
theorem wD_9 {r : sR} {s : sS} : wD r s (-9 : Int32).toInt = 1 := by
  have : (-9 : Int32).toInt = -9 := by decide
  rw [this]
  unfold wD
  rw [if_neg (by omega), if_neg (by omega), if_neg (by omega), if_neg (by omega)]
theorem n_doYear {b n : Nat} {c : Int32} {h : am_H} {r : sR} {s : sS} (hb : b ≤ 99900) (hr : vR r) (v : vS b r s) (R : tR 1 r h) (T : tS 14 r s h) (hn : n ≤ 40) :
    ∃ h', f_State_doYear 14 1 c (nI n) h = some (nI (yr r n c 0 s).1, h') ∧ am_ex [14, 15, 16, 17] h h' ∧ tS 14 r (yr r n c 0 s).2 h' := by
  have hP := hr.2.2.1
  generalize hres : yr r n c 0 s = res
  have L := lq4 (fun k (a1 : Int32) (a2 : Int32) (a3 : Int32) (a4 : am_H) => f_State_doYear_L9 14 1 c (nI n) k a1 a2 a3 a4)
    (fun m a1 a2 a3 a4 => ∃ j t s, a2 = nI j ∧ a3 = nI t ∧ m + t = n ∧ am_ex [14, 15, 16, 17] h a4 ∧ tS 14 r s a4 ∧ vS (b + t) r s ∧ yr r m a1 j s = res)
    (fun d => d.2.1 = nI res.1 ∧ am_ex [14, 15, 16, 17] h d.2.2.2 ∧ tS 14 r res.2 d.2.2.2)
    (fun k m a1 a2 a3 a4 hI => by
      obtain ⟨j, t, s, rfl, rfl, h1, x1, t1, v1, d1⟩ := hI
      rw [f_State_doYear_L9]
      by_cases c0 : t < n
      · obtain ⟨m, rfl⟩ : ∃ m', m = m' + 1 := ⟨m - 1, by omega⟩
        have R2 : tR 1 r a4 := R.cg (fun a _ _ => x1.2.2 a (by simp; omega))
        right
        rw [if_neg (nI_ge c0 (by omega))]
        simp only [dwn_d, Option.bind_some, am_let, hiw_d, rmd_d]
        rw [yr] at d1
        -- one deed of the class
        have key : ∀ (y c' : Int32), ydd r a1 = (y, c') → ∃ m' b1 b2 b3 b4, m' < m + 1 ∧ ((f_State_doDeed 14 1 y.toInt64 a4).bind fun q17 => (if q17.1 = 0 then f_State_doYear_L9 14 1 c (nI n) k c' (nI j + 1) (nI t + 1) q17.2 else f_State_doYear_L9 14 1 c (nI n) k c' (nI j) (nI t + 1) q17.2)) = f_State_doYear_L9 14 1 c (nI n) k b1 b2 b3 b4 ∧ ∃ j t s, b2 = nI j ∧ b3 = nI t ∧ m' + t = n ∧ am_ex [14, 15, 16, 17] h b4 ∧ tS 14 r s b4 ∧ vS (b + t) r s ∧ yr r m' b1 j s = res := fun y c' hy => by
          obtain ⟨h2, q1, q2, q3⟩ := n_deed (d := y.toInt64) (o := 14) (by omega) hr v1 R2 t1 (by omega)
          rw [Int32.toInt_toInt64] at q1 q3
          have x2 := x1.tr q2 (Z := [14, 15, 16, 17]) (fun _ z => z) (fun _ z => z)
          have := wD_lt (r := r) (s := s) (i := y.toInt)
          rw [q1, Option.bind_some]
          simp only
          rw [hy] at d1
          simp only at d1
          by_cases c1 : wD r s y.toInt = 0
          · rw [if_pos c1] at d1
            rw [c1, if_pos (show nI 0 = 0 from rfl)]
            exact ⟨m, _, _, _, _, by omega, rfl, j + 1, t + 1, _, nI_up, nI_up, by omega, x2, q3, (dS_v hr v1).up (by omega), d1⟩
          · rw [if_neg c1] at d1
            rw [if_neg (show ¬ nI _ = (0 : Int32) from fun q => c1 ((nI_eq (b := 0) (by omega) (by decide)).mp q))]
            have hs : dS r s y.toInt = s := by unfold dS; rw [if_neg c1]
            rw [hs] at q3
            exact ⟨m, _, _, _, _, by omega, rfl, j, t + 1, s, rfl, nI_up, by omega, x2, q3, v1.up (by omega), d1⟩
        by_cases y0 : rmd (dwn a1) 4 = 0
        · have hy : ydd r a1 = (-1, dwn a1) := by unfold ydd; rw [if_pos y0]
          have y3 : ¬ rmd (dwn a1) 4 = 3 := by rw [y0]; decide
          rw [if_neg y3, if_pos y0]
          exact key _ _ hy
        · by_cases y3 : rmd (dwn a1) 4 = 3
          · have hy : ydd r a1 = ((200 : Int32) + rmd (dwn (dwn a1)) 3, dwn (dwn a1)) := by unfold ydd; rw [if_neg y0, if_pos y3]
            rw [if_pos y3]
            exact key _ _ hy
          · rw [if_neg y3, if_neg y0, R2.2.2.1]
            by_cases p0 : rP r = 0
            · have hy : ydd r a1 = (-9, dwn a1) := by unfold ydd; rw [if_neg y0, if_neg y3, if_pos p0]
              rw [p0, if_neg (show ¬ (1 : Int32) ≤ nI 0 by decide)]
              rw [hy] at d1
              simp only at d1
              rw [wD_9, if_neg (by decide)] at d1
              exact ⟨m, _, _, _, _, by omega, rfl, j, t + 1, s, rfl, nI_up, by omega, x1, t1, v1.up (by omega), d1⟩
            · have hy : ydd r a1 = ((10 : Int32) * rmd (dwn (dwn a1)) (nI (rP r)) + rmd (dwn (dwn (dwn a1))) 7, dwn (dwn (dwn a1))) := by unfold ydd; rw [if_neg y0, if_neg y3, if_neg p0]
              have hmd : ∀ z : Int32, am_md z (nI (rP r)) = some (z - z / nI (rP r) * nI (rP r)) := fun z => by
                unfold am_md
                rw [if_neg (nI_ne0 (by omega) (by omega))]
              rw [if_pos (show (1 : Int32) ≤ nI (rP r) from nI_le (a := 1) (by omega) (by omega)), hmd, Option.bind_some]
              have key' := key _ _ hy
              rw [Int32.mul_comm (10 : Int32)] at key'
              exact key'
      · left
        have hm : m = 0 := by omega
        subst hm
        rw [if_pos (nI_le (by omega) (by omega))]
        rw [yr] at d1
        refine ⟨_, rfl, ?_, x1, ?_⟩
        · rw [← d1]
        · rw [← d1]; exact t1)
  obtain ⟨d, f1, f2, f3, f4⟩ := L am_fu n c (nI 0) (nI 0) h (by unfold am_fu; omega) ⟨0, 0, s, rfl, rfl, by omega, am_ex.rf, T, v, hres⟩
  have f1' : f_State_doYear_L9 14 1 c (nI n) am_fu c 0 0 h = some d := f1
  unfold f_State_doYear
  rw [f1', Option.bind_some, f2]
  exact ⟨_, rfl, f3, f4⟩
theorem n_draw {h : am_H} {m : Int32} (hm : m ≠ 0) : f_Mod_draw m h = some (rmd (dwn (h.2.1 136 20)) m, am_sI h 136 20 (dwn (h.2.1 136 20))) := by
  unfold f_Mod_draw
  simp only [am_let]
  have e : (am_sI h 136 20 ((1103515245 : Int32) * h.2.1 136 20 + 12345)).2.1 136 20 = dwn (h.2.1 136 20) := by rw [sI_row, if_pos rfl, up_s]; rfl
  rw [e]
  unfold am_md
  rw [if_neg hm]
  rfl
theorem n_drawn {h : am_H} {r : sR} {s : sS} (V : mV (h.2.1 137) r s) : f_Mod_drawn h = some ((ydd r (h.2.1 136 20)).1, am_sI h 136 20 (ydd r (h.2.1 136 20)).2) := by
  have hP := V.hP
  have e : ∀ x, (am_sI h 136 20 x).2.1 136 20 = x := fun x => by rw [sI_row, if_pos rfl, up_s]
  have e3 : ∀ x, (am_sI h 136 20 x).2.1 137 3 = nI (rP r) := fun x => by rw [sI_row, if_neg (by decide)]; exact V.p
  unfold f_Mod_drawn ydd
  rw [n_draw (by decide), Option.bind_some]
  simp only
  by_cases y0 : rmd (dwn (h.2.1 136 20)) 4 = 0
  · rw [if_pos y0, if_pos y0]
  · rw [if_neg y0, if_neg y0]
    by_cases y3 : rmd (dwn (h.2.1 136 20)) 4 = 3
    · rw [if_pos y3, if_pos y3, n_draw (by decide), Option.bind_some, e, sI_sI]
    · rw [if_neg y3, if_neg y3, rd_lit (by decide) (by decide), Option.bind_some, e3]
      by_cases p0 : rP r = 0
      · rw [p0, if_pos (show nI 0 = 0 from rfl), if_pos rfl]
      · rw [if_neg (nI_ne0 (by omega) (by omega)), if_neg p0, Option.bind_some, n_draw (nI_ne0 (by omega) (by omega)), Option.bind_some, e, sI_sI]
        simp only
        rw [n_draw (by decide), Option.bind_some, e, sI_sI]
theorem n_mYear {b n : Nat} {c p1 : Int32} {h : am_H} {r : sR} {s : sS} (hb : b ≤ 99900) (v : vS b r s) (V : mV (h.2.1 137) r s) (hn : n ≤ 40) (hc : h.2.1 136 20 = c) :
    ∃ y h', f_Mod_year_L34 p1 (nI n) am_fu 0 0 h = some (nI (yr r n c 0 s).1, y, h') ∧ mW h h' ∧ mS (h'.2.1 137) 26 r (yr r n c 0 s).2 ∧ h'.2.1 143 = h.2.1 143 := by
  have hr := V.1
  generalize hres : yr r n c 0 s = res
  have L := lq3 (fun k (a1 : Int32) (a2 : Int32) (a3 : am_H) => f_Mod_year_L34 p1 (nI n) k a1 a2 a3)
    (fun m a1 a2 a3 => ∃ j t s, a1 = nI j ∧ a2 = nI t ∧ m + t = n ∧ mW h a3 ∧ mS (a3.2.1 137) 26 r s ∧ vS (b + t) r s ∧ a3.2.1 143 = h.2.1 143 ∧ yr r m (a3.2.1 136 20) j s = res)
    (fun d => d.1 = nI res.1 ∧ mW h d.2.2 ∧ mS (d.2.2.2.1 137) 26 r res.2 ∧ d.2.2.2.1 143 = h.2.1 143)
    (fun k m a1 a2 a3 hI => by
      obtain ⟨j, t, s, rfl, rfl, h1, w1, m1, v1, k1, d1⟩ := hI
      rw [f_Mod_year_L34]
      by_cases c0 : t < n
      · obtain ⟨m, rfl⟩ : ∃ m', m = m' + 1 := ⟨m - 1, by omega⟩
        right
        have V2 : mV (a3.2.1 137) r s := w1.mV V (v1.up (by omega)) m1
        rw [if_neg (nI_ge c0 (by omega)), n_drawn V2, Option.bind_some]
        simp only
        rw [yr] at d1
        generalize hy : ydd r (a3.2.1 136 20) = yc at d1 ⊢
        have w2 : mW h (am_sI a3 136 20 yc.2) := w1.tr (mW.s19 (by decide))
        have r137 : (am_sI a3 136 20 yc.2).2.1 137 = a3.2.1 137 := by rw [sI_row, if_neg (by decide)]
        have V3 : mV ((am_sI a3 136 20 yc.2).2.1 137) r s := by rw [r137]; exact V2
        obtain ⟨h2, q1, q2⟩ := n_whyNot (d := yc.1.toInt64) V3
        rw [Int32.toInt_toInt64] at q1
        have V4 := V3.ex q2 (by decide)
        have w3 := w2.tr (q2.keM (by decide)).mW
        have k3 : h2.2.1 143 = h.2.1 143 := by rw [q2.2.2 143 (by decide), sI_row, if_neg (by decide)]; exact k1
        have s3 : h2.2.1 136 20 = yc.2 := by rw [q2.2.2 136 (by decide), sI_row, if_pos rfl, up_s]
        have := wD_lt (r := r) (s := s) (i := yc.1.toInt)
        rw [q1, Option.bind_some]
        simp only
        by_cases c1 : wD r s yc.1.toInt = 0
        · rw [if_pos c1] at d1
          obtain ⟨h3, p1, p2, p3, p4⟩ := n_does (by omega) v1 V4 c1
          rw [if_pos (show nI (wD r s yc.1.toInt) = 0 by rw [c1]; rfl), p1, Option.bind_some]
          exact ⟨m, _, _, _, by omega, rfl, j + 1, t + 1, _, nI_up, nI_up, by omega, w3.tr p2, p3, (dS_v hr v1).up (by omega), by rw [p4 143 (by omega)]; exact k3, by rw [p4 136 (by omega), s3]; exact d1⟩
        · rw [if_neg c1] at d1
          rw [if_neg (show ¬ nI _ = (0 : Int32) from fun q => c1 ((nI_eq (b := 0) (by omega) (by decide)).mp q))]
          exact ⟨m, _, _, _, by omega, rfl, j, t + 1, s, rfl, nI_up, by omega, w3, V4.2.2.2, v1.up (by omega), k3, by rw [s3]; exact d1⟩
      · left
        have hm : m = 0 := by omega
        subst hm
        rw [if_pos (nI_le (by omega) (by omega))]
        rw [yr] at d1
        refine ⟨_, rfl, ?_, w1, ?_, k1⟩
        · rw [← d1]
        · rw [← d1]; exact m1)
  obtain ⟨d, f1, f2, f3, f4, f5⟩ := L am_fu n (nI 0) (nI 0) h (by unfold am_fu; omega) ⟨0, 0, s, rfl, rfl, by omega, mW.rf, V.2.2.2, v, rfl, by rw [hc]; exact hres⟩
  obtain ⟨d1, d2, d3⟩ := d
  simp only at f2 f3 f4 f5
  subst f2
  have f1' : f_Mod_year_L34 p1 (nI n) am_fu 0 0 h = some (nI res.1, d2, d3) := f1
  exact ⟨d2, d3, f1', f3, f4, f5⟩
theorem ok_year (b : Nat) (hb : b ≤ 90000) (x y : Int32) : ok2 b (f_Top_year x y) (f_Mod_year x y) := by
  refine ok2_st (fun g h v T M0 => ?_)
  have hr := v.1
  rcases rng1 (n := 40) (by decide) (show (40 : Int64) = lN 40 from rfl) y with ⟨n, hn1, hn, rfl, e⟩ | ⟨q, e⟩
  · obtain ⟨h1, a1, a2, a3⟩ := n_trial T hr
    have T1 := T.ke (a2.keT scr4)
    obtain ⟨h2, b1, b2, b3⟩ := n_doYear (c := x) (n := n) (by omega) hr v.2.1 T1.1 a3 hn
    have hle := yr_le (r := g.1.1) n x 0 g.1.2.1
    have h00 := yr_0 (r := g.1.1) n x 0 g.1.2.1
    have hvr := yr_v (b := b) hr n x 0 g.1.2.1 v.2.1
    have hM : ∀ h', RM g h' → ∃ h4, mW h' h4 ∧ mS (h4.2.1 137) 26 g.1.1 (yr g.1.1 n x 0 g.1.2.1).2 ∧ (∀ j, j < 19 → h4.2.1 143 j = h'.2.1 137 (26 + j)) ∧ f_Mod_year x (nI n) h' = (if nI (yr g.1.1 n x 0 g.1.2.1).1 ≤ 0 then some (nI (yr g.1.1 n x 0 g.1.2.1).1, h4) else (f_Mod_notes h4).bind fun q7 => some (nI (yr g.1.1 n x 0 g.1.2.1).1, q7)) := fun h' M => by
      obtain ⟨k0, MV⟩ := s0M M v hb
      obtain ⟨h3, g1, g2, g3, g4⟩ := m_keep M k0
      have k3 : keM h' (am_sI h3 136 20 x) := g2.tr (keM.s0 (by decide))
      have M3 := M.ke k3
      obtain ⟨y', h4, t1, t2, t3, t4⟩ := n_mYear (c := x) (p1 := x) (n := n) (by omega) v.2.1 (M3.mV v (by omega)) hn (by rw [sI_row, if_pos rfl, up_s])
      refine ⟨h4, k3.mW.tr t2, t3, fun j hj => by rw [t4, sI_row, if_neg (by decide)]; exact g3 j hj, ?_⟩
      unfold f_Mod_year
      simp only [am_let]
      rw [e, Option.bind_some, if_tt, g1, Option.bind_some, t1, Option.bind_some]
    generalize hR : yr g.1.1 n x 0 g.1.2.1 = res at *
    rw [Nat.zero_add] at hle
    have x2 := a2.tr b2 (Z := [14, 15, 16, 17]) (fun _ z => z) (fun _ z => z)
    have k2 := x2.keT scr4
    have T2 := T.ke k2
    have hT : f_Top_year x (nI n) h = ((if nI res.1 ≤ 0 then some h2 else (f_Top_willChange h2).bind fun q2 => (f_State_copyFrom 10 14 q2).bind fun q3 => some q3) : Option am_H).bind fun q8 => some (nI res.1, q8) := by
      unfold f_Top_year f_Top_becomeTrial
      rw [if_neg (show ¬ nI n < (1 : Int32) from nI_nlt (a := n) (b := 1) hn1 (by omega)), if_pos (show nI n ≤ (40 : Int32) from nI_le (b := 40) hn (by decide)), a1, Option.bind_some, b1, Option.bind_some]
    by_cases c : res.1 = 0
    · rw [c, if_pos (show nI 0 ≤ 0 by decide), Option.bind_some] at hT
      refine ⟨nI 0, g, v.up (by omega), ⟨h2, hT, T2, k2.fr⟩, fun h' M => ?_⟩
      obtain ⟨h4, m1, m2, m3, m4⟩ := hM h' M
      rw [c, if_pos (show nI 0 ≤ 0 by decide)] at m4
      rw [h00 c] at m2
      exact ⟨h4, m4, RM.mWs v M m1 m2, m1.1⟩
    · have hc : ¬ nI res.1 ≤ (0 : Int32) := nI_ge (a := 0) (by omega) (by omega)
      rw [if_neg hc] at hT
      obtain ⟨h3, p1, p2, p3⟩ := n_become v T2 b3
      rw [p1, Option.bind_some] at hT
      refine ⟨nI res.1, gS' (gP g) res.2, v.push (hvr.up (by omega)), ⟨h3, hT, p2, k2.fr.tr p3⟩, fun h' M => ?_⟩
      obtain ⟨h4, m1, m2, m3, m4⟩ := hM h' M
      obtain ⟨h5, n1, n2, n3, n4, n5⟩ := n_notes v M m1 m3 m2
      rw [if_neg hc, n1, Option.bind_some] at m4
      exact ⟨h5, m4, n2, m1.1.tr n3⟩
  · refine st_same v T (-3) ?_ (fun h' M => ?_)
    · unfold f_Top_year
      by_cases d : y < 1
      · rw [if_pos d]
      · rcases q with q | q
        · exact absurd q d
        · rw [if_neg d, if_neg (show ¬ y ≤ (40 : Int32) from q)]
    · unfold f_Mod_year
      simp only [am_let]
      rw [e, Option.bind_some, if_ff]
      exact ⟨_, rfl, keM.s0 (by decide)⟩
