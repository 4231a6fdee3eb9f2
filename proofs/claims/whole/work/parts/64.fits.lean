-- deps: 31.law 32.nat 33.bit 34.spec 35.riv 36.let 37.mod 38.mod 39.it 40.ahead 41.rel 42.ask 43.why 44.meet 45.err 46.err 47.wk 48.chg 50.ways 51.way 52.tray 54.past 55.hour 56.act 57.undo 59.deed 60.judge 63.seen
/-! ===== odd ===== -/
def fbA (r : sR) (s : sS) (p : Nat) (wk : Nat → Option Nat) (q : Nat × Nat × (Nat → Int64)) : Option Nat := fb r s p wk (fun j => sof (q.2.2 j)) q.2.1 0 (alS (rG r))
theorem scr3 : ∀ a ∈ [96, 97, 98], scr a := by unfold scr; simp
/-- what the three calls begin with -/
theorem seen_go {b : Nat} {t m : am_H → Option (Int32 × am_H)} (hb : b ≤ 90000) (x y : Int32)
    (t1 : ∀ h, f_Top_isTray x h = some false → t h = some (-2, h)) (t2 : ∀ h, f_Top_isTray x h = some true → f_River_hasPerson 1 y h = some false → t h = some (-2, h))
    (m1 : ∀ h, f_Mod_within x.toInt64 0 3 h = some false → m h = some (-2, am_sI h 136 0 0)) (m2 : ∀ h, (∀ h, f_Mod_within x.toInt64 0 3 h = some true) → f_Mod_isPerson y.toInt64 (am_sI h 136 0 0) = some false → m h = some (-2, am_sI h 136 0 0))
    (H : ∀ g h i p, VG b g → RT g h → RM g h → i < 4 → p < rP g.1.1 → x = nI i → y = nI p → (∀ h, f_Top_isTray x h = some true) → (∀ h, f_Mod_within x.toInt64 0 3 h = some true) → f_River_hasPerson 1 y h = some true → (∀ {h' : am_H}, mV (h'.2.1 137) g.1.1 g.1.2.1 → f_Mod_isPerson y.toInt64 h' = some true) → ∃ x', (∃ h', t h = some (x', h') ∧ keT h h') ∧ (∀ h', RM g h' → (∀ a, 136 ≤ a → h'.2.1 a = h.2.1 a) → ∃ h'', m h' = some (x', h'') ∧ keM h' h'')) : ok2 b t m := by
  refine ok2_of (fun g h v T M0 => ?_)
  have TV := T.tV v (by omega)
  rcases tr4 x with ⟨i, hi, rfl, e1, e2⟩ | ⟨e1, e2⟩
  · rcases per2 TV y with ⟨p, hp, rfl, e3, e4⟩ | ⟨e3, e4⟩
    · exact H g h i p v T M0 hi hp rfl rfl e1 e2 e3 e4
    · refine ⟨-2, ⟨h, t2 h (e1 h) e3, keT.rf⟩, fun h' M _ => ?_⟩
      obtain ⟨k0, MV⟩ := s0M M v hb
      exact ⟨_, m2 h' e2 (e4 MV), k0⟩
  · exact ⟨-2, ⟨h, t1 h (e1 h), keT.rf⟩, fun h' M _ => ⟨_, m1 h' (e2 h'), keM.s0 (by decide)⟩⟩
theorem within_any {x l u : Int64} {h h' : am_H} {b : Bool} (e : f_Mod_within x l u h = some b) : f_Mod_within x l u h' = some b := e
theorem n_noSeen6 {b : Nat} {g : sG} {h : am_H} {i p : Nat} (v : VG b g) (hb : b ≤ 90000) (M : RM g h) (hp : p < rP g.1.1) (hi : i < 4) (hq : g.2.2.2.2 i = none) (e2 : f_Mod_within (nI i).toInt64 0 3 h = some true) : f_Mod_noSeen (nI i) (nI p) h = some (-6) := by
  have V := M.mV v (by omega)
  unfold f_Mod_noSeen
  rw [e2, Option.bind_some, if_tt, n_isPerson V hp, Option.bind_some, if_tt, n_noTray v M hi e2, hq, Option.bind_some]
  rfl
theorem take6 {g : sG} {h : am_H} {i : Nat} (R : RT g h) (hi : i < 4) (hq : g.2.2.2.2 i = none) : f_Sightings_take (102 + 2 * i) h = some (-6, h) := by
  unfold f_Sightings_take
  rw [(R.tr i hi).1 hq, if_pos rfl]
theorem ok_odd (b : Nat) (hb : b ≤ 90000) (x y : Int32) : ok2 b (f_Top_odd x y) (f_Mod_odd x y) := by
  refine seen_go hb x y (fun h e => by unfold f_Top_odd; rw [e, Option.bind_some, if_ff]) (fun h e e' => by unfold f_Top_odd; rw [e, Option.bind_some, if_tt, e', Option.bind_some, if_ff]) (fun h e => ?_) (fun h e e' => ?_) (fun g h i p v T M0 hi hp hx hy e1 e2 e3 e4 => ?_)
  · unfold f_Mod_odd f_Mod_noSeen
    simp only [am_let]
    rw [within_any e, Option.bind_some, if_ff, Option.bind_some, if_neg (by decide)]
  · unfold f_Mod_odd f_Mod_noSeen
    simp only [am_let]
    rw [e, Option.bind_some, if_tt, e', Option.bind_some, if_ff, Option.bind_some, if_neg (by decide)]
  · subst hx hy
    have TV := T.tV v (by omega)
    cases hq : g.2.2.2.2 i with
    | none =>
      refine ⟨-6, ⟨h, ?_, keT.rf⟩, fun h' M _ => ?_⟩
      · unfold f_Top_odd
        rw [e1, Option.bind_some, if_tt, e3, Option.bind_some, if_tt, n_el hi (by decide), Option.bind_some, take6 T hi hq, Option.bind_some]
        rfl
      · obtain ⟨k0, MV⟩ := s0M M v hb
        unfold f_Mod_odd
        simp only [am_let]
        rw [n_noSeen6 v hb (M.ke k0) hp hi hq (e2 _), Option.bind_some, if_neg (by decide)]
        exact ⟨_, rfl, k0⟩
    | some q =>
      obtain ⟨h1, a1, a2, a3⟩ := n_take v hb T hi hq
      have k1 := a2.keT (fun a ha => scr3 a (by simp at ha ⊢; omega))
      by_cases c : tkc g.1.1 q = 0
      · obtain ⟨c1, c2⟩ := tkc_0 c
        obtain ⟨a4, a5⟩ := a3 c
        have V1 := TV.ke k1
        have ef : f_Sightings_firstBreak (nI p) 11 6 h1 = some (oI (fbA g.1.1 g.1.2.1 p (sW g.1.2.1) q)) := n_fb V1 V1.tW hp c1 a4 a5 (fun j hj x hx => (oks_v (c2 j hj) x hx).1)
        refine ⟨oI (fbA g.1.1 g.1.2.1 p (sW g.1.2.1) q), ⟨h1, ?_, k1⟩, fun h' M _ => ?_⟩
        · unfold f_Top_odd
          rw [e1, Option.bind_some, if_tt, e3, Option.bind_some, if_tt, n_el hi (by decide), Option.bind_some, a1, Option.bind_some]
          simp only
          rw [c, if_pos rfl, ef, Option.bind_some]
        · obtain ⟨k0, MV⟩ := s0M M v hb
          have M1 := M.ke k0
          obtain ⟨h2, d1, d2, d3⟩ := n_laysLets hp MV
          have M2 := M.ke (k0.tr (d2.keM (by decide)))
          obtain ⟨s1, s2, s3⟩ := (M2.tr i hi).2 q hq
          have eo : f_Mod_oddIn (nI i) h2 = some (oI (fbA g.1.1 g.1.2.1 p (sW g.1.2.1) q)) := n_oddIn (MV.ex d2 (by decide)) d3 hi c1 s2 s3 c2
          unfold f_Mod_odd
          simp only [am_let]
          rw [n_noSeen v hb M1 hp hi hq (e2 _), Option.bind_some, c, if_pos rfl, d1, Option.bind_some, eo, Option.bind_some]
          exact ⟨_, rfl, k0.tr (d2.keM (by decide))⟩
      · refine ⟨tkc g.1.1 q, ⟨h1, ?_, k1⟩, fun h' M _ => ?_⟩
        · unfold f_Top_odd
          rw [e1, Option.bind_some, if_tt, e3, Option.bind_some, if_tt, n_el hi (by decide), Option.bind_some, a1, Option.bind_some]
          simp only
          rw [if_neg c]
        · obtain ⟨k0, MV⟩ := s0M M v hb
          unfold f_Mod_odd
          simp only [am_let]
          rw [n_noSeen v hb (M.ke k0) hp hi hq (e2 _), Option.bind_some, if_neg c]
          exact ⟨_, rfl, k0⟩
/-! ===== fits ===== -/
def fit (r : sR) (s : sS) (p : Nat) (q : Nat × Nat × (Nat → Int64)) (k : Nat) : Nat := bts (rG r) (fun c => (fbA r s p (va_up (sW s) k (some c)) q).isNone) ||| (if (fbA r s p (va_up (sW s) k none) q).isNone then 16 else 0)
theorem fit_lt {r : sR} {s : sS} {p : Nat} {q : Nat × Nat × (Nat → Int64)} {k : Nat} (hr : vR r) : fit r s p q k < 32 := by
  have hG := hr.1
  unfold fit
  refine or_lt32 (bts5 (by omega)) ?_
  split <;> omega
theorem isNone_m {o : Option Nat} {n : Nat} (h : ∀ k, o = some k → k < 2 ^ 31) : (oI o = (-1 : Int32)) = (o.isNone = true) := by
  rw [oI_m1 h]
  cases o <;> simp
theorem fbA_b {r : sR} {s : sS} {p : Nat} {wk : Nat → Option Nat} {q : Nat × Nat × (Nat → Int64)} (hq : q.2.1 ≤ 12) : ∀ k, fbA r s p wk q = some k → k < 2 ^ 31 := fun k hk => by
  have := fb_le _ _ _ _ hk
  omega
theorem n_fitting {h : am_H} {r : sR} {s : sS} {p k : Nat} {q : Nat × Nat × (Nat → Int64)} (V : tV h r s) (hp : p < rP r) (hk : k < rW r) (hn : q.2.1 ≤ 12) (e4 : h.2.1 96 4 = nI q.2.1) (e97 : ∀ j, j < q.2.1 → h.2.1 97 j = nI (sn r (sof (q.2.2 j)))) (hf : ∀ j, j < q.2.1 → oks r (q.2.2 j) = true) :
    ∃ h', f_Sightings_fitting (nI p) (nI k) h = some (nI (fit r s p q k), h') ∧ am_ex [98] h h' := by
  have hG := V.hG
  have hW := V.hW
  have e : am_cp h 11 6 0 98 6 0 6 = _ := n_cp (h := h) (o0 := 11) (o1 := 98) (n0 := 6) (n1 := 6) (n := 6) (by decide) (by decide) (by decide)
  generalize hh0 : am_rI h 98 (fun k => if k < 6 then h.2.1 11 k else h.2.1 98 k) = h0 at e
  have x0 : am_ex [98] h h0 := by rw [← hh0]; exact am_ex.rI (by decide)
  have T0 : tW h0 98 r (sW s) := ⟨V.vw, fun j hj => by
    rw [← hh0, rI_row, if_pos rfl, if_pos (by omega)]
    exact V.wk hj⟩
  have one : ∀ a l, am_ex [98] h a → (∃ w, tW a 98 r (va_up (sW s) k w)) → (∀ g, l = some g → g < rG r) → am_ex [98] h (am_sI a 98 k (oI l)) ∧ tW (am_sI a 98 k (oI l)) 98 r (va_up (sW s) k l) ∧ f_Sightings_firstBreak (nI p) 98 6 (am_sI a 98 k (oI l)) = some (oI (fbA r s p (va_up (sW s) k l) q)) := fun a l xa hw hl => by
    obtain ⟨w, hw⟩ := hw
    have x1 : am_ex [98] h (am_sI a 98 k (oI l)) := xa.tr (am_ex.sI (X := [98]) (by decide)) (fun _ z => z) (fun _ z => z)
    have T1 := hw.up (t := k) hl
    rw [up_up] at T1
    have V1 := V.ex x1 (by decide)
    refine ⟨x1, T1, n_fb V1 T1 hp hn ?_ (fun j hj => ?_) (fun j hj x hx => (oks_v (hf j hj) x hx).1)⟩
    · rw [x1.2.2 96 (by decide)]; exact e4
    · rw [x1.2.2 97 (by decide)]; exact e97 j hj
  obtain ⟨c, f1, f2, f3, f4⟩ := lpc3 (fun m (a1 : Int32) (a2 : Int32) (a3 : am_H) => f_Sightings_fitting_L23 (nI p) (nI k) m a1 a2 a3) (rG r)
    (fun t a1 a2 a3 => a1 = nI (bts t (fun c => (fbA r s p (va_up (sW s) k (some c)) q).isNone)) ∧ a2 = nI t ∧ am_ex [98] h a3 ∧ ∃ w, tW a3 98 r (va_up (sW s) k w))
    (fun d => d.1 = nI (bts (rG r) (fun c => (fbA r s p (va_up (sW s) k (some c)) q).isNone)) ∧ am_ex [98] h d.2.2 ∧ ∃ w, tW d.2.2 98 r (va_up (sW s) k w))
    (fun m t a1 a2 a3 ht hI => by
      obtain ⟨rfl, rfl, x1, w1⟩ := hI
      have V2 := V.ex x1 (by decide)
      obtain ⟨x2, t2, b2⟩ := one a3 (some t) x1 w1 (fun g hg => by cases hg; exact ht)
      rw [oI_some] at x2 t2 b2
      rw [f_Sightings_fitting_L23, V2.g, if_neg (nI_ge ht (by omega)), n_wr (by omega) (by decide), Option.bind_some, b2, Option.bind_some, shl1 (by omega), nI_or, nI_up]
      simp only [isNone_m (n := 0) (fbA_b (r := r) (s := s) (p := p) (wk := va_up (sW s) k (some t)) hn)]
      refine ⟨nI (bts (t + 1) (fun c => (fbA r s p (va_up (sW s) k (some c)) q).isNone)), nI (t + 1), am_sI a3 98 k (nI t), ?_, rfl, rfl, x2, _, t2⟩
      rw [bts_s]
      cases (fbA r s p (va_up (sW s) k (some t)) q).isNone with
      | true => rw [if_tt, if_tt]
      | false => rw [if_ff, if_ff, Nat.or_zero])
    (fun m a1 a2 a3 hI => by
      obtain ⟨rfl, rfl, x1⟩ := hI
      have V2 := V.ex x1.1 (by decide)
      rw [f_Sightings_fitting_L23, V2.g, if_pos (nI_le (Nat.le_refl _) (by omega))]
      exact ⟨_, rfl, rfl, x1⟩) (by unfold am_fu; omega) 0 0 h0 ⟨rfl, rfl, x0, sW s k, by rw [up_id]; exact T0⟩
  obtain ⟨x2, t2, b2⟩ := one c.2.2 none f3 f4 (fun g hg => by cases hg)
  unfold f_Sightings_fitting
  rw [e, Option.bind_some, f1, Option.bind_some, n_wr (by omega) (by decide), Option.bind_some]
  rw [oI_none] at x2 t2 b2
  rw [b2, Option.bind_some, f2]
  simp only [isNone_m (n := 0) (fbA_b (r := r) (s := s) (p := p) (wk := va_up (sW s) k none) hn)]
  refine ⟨am_sI c.2.2 98 k (-1), ?_, x2⟩
  unfold fit
  have e16 : ∀ a, nI a ||| (16 : Int32) = nI (a ||| 16) := fun a => nI_or a 16
  rw [e16]
  cases (fbA r s p (va_up (sW s) k none) q).isNone with
  | true => rw [if_tt, if_tt]
  | false => rw [if_ff, if_ff, Nat.or_zero]
theorem n_mFitting {h : am_H} {r : sR} {s : sS} {i p k : Nat} {q : Nat × Nat × (Nat → Int64)} (V : mV (h.2.1 137) r s) (hp : p < rP r) (hk : k < rW r) (hi : i < 4) (hn : q.2.1 ≤ 12) (e1 : h.2.1 159 i = nI q.2.1) (e2 : ∀ j, j < q.2.1 → h.2.2.1 160 (40 * i + j) = q.2.2 j) (hf : ∀ j, j < q.2.1 → oks r (q.2.2 j) = true) :
    ∃ h', f_Mod_fitting (nI i) (nI p) (nI k) h = some (nI (fit r s p q k), h') ∧ am_ex [141, 142, 144, 145, 146] h h' := by
  have hG := V.hG
  have hW := V.hW
  obtain ⟨h1, a1, a2, a3⟩ := n_laysLets hp V
  have V1 := V.ex a2 (by decide)
  have e29 : (29 : Int32) + nI k = nI (29 + k) := nI_add 29 k
  have one : ∀ l, (∀ g, l = some g → g < rG r) → f_Mod_oddIn (nI i) (am_sI h1 137 (29 + k) (oI l)) = some (oI (fbA r s p (va_up (sW s) k l) q)) := fun l hl => by
    have V2 : mV ((am_sI h1 137 (29 + k) (oI l)).2.1 137) r (sWk s (va_up (sW s) k l)) := by
      rw [sI_row, if_pos rfl]
      exact V1.up hk hl
    have M2 : mT p r (am_sI h1 137 (29 + k) (oI l)) := a3.cg (fun a q1 q2 => by rw [sI_row, if_neg (by omega)])
    have := n_oddIn (i := i) V2 M2 hi hn (by rw [sI_row, if_neg (by decide), a2.2.2 159 (by decide)]; exact e1) (fun j hj => by
      show h1.2.2.1 160 (40 * i + j) = _
      rw [a2.2.1]; exact e2 j hj) hf
    rw [fb_w] at this
    exact this
  generalize hcb : (fun c => (fbA r s p (va_up (sW s) k (some c)) q).isNone) = cb
  obtain ⟨c, f1, f2, f3⟩ := lpc3 (fun m (a1 : Int32) (a2 : Int32) (a3 : am_H) => f_Mod_fitting_L22 (nI i) (nI p) (nI k) m a1 (h1.2.1 137 (29 + k)) a2 a3) (rG r + 1)
    (fun t a1 a2 a3 => a1 = nI (if t ≤ rG r then bts t cb else fit r s p q k) ∧ a2 = nI t ∧ ∃ x, a3 = am_sI h1 137 (29 + k) x)
    (fun d => d.1 = nI (fit r s p q k) ∧ ∃ x, d.2.2 = am_sI h1 137 (29 + k) x)
    (fun m t b1 b2 b3 ht hI => by
      obtain ⟨rfl, rfl, x, rfl⟩ := hI
      have g1 : ∀ y, (am_sI h1 137 (29 + k) y).2.1 137 1 = nI (rG r) := fun y => by rw [sI_row, if_pos rfl, up_n (by omega)]; exact V1.g
      have hch : (if nI t = nI (rG r) then (-1 : Int32) else nI t) = oI (chc (rG r) t) := by
        unfold chc
        by_cases c : t = rG r
        · rw [if_pos (by rw [c]), if_pos c]; rfl
        · rw [if_neg (fun q => c ((nI_eq (by omega) (by omega)).mp q)), if_neg c]; rfl
      rw [f_Mod_fitting_L22, rd_lit (by decide) (by decide), Option.bind_some, g1, if_neg (nI_nlt (by omega) (by omega)), Option.bind_some, hch, e29, n_wr (by omega) (by decide), Option.bind_some, sI_sI, one _ (chc_v (by omega)), Option.bind_some, rd_lit (by decide) (by decide), Option.bind_some, g1, or_0, nI_up, if_pos (show t ≤ rG r by omega)]
      simp only [isNone_m (n := 0) (fbA_b (r := r) (s := s) (p := p) (wk := va_up (sW s) k (chc (rG r) t)) hn), am_let]
      refine ⟨nI (if t + 1 ≤ rG r then bts (t + 1) cb else fit r s p q k), nI (t + 1), am_sI h1 137 (29 + k) (oI (chc (rG r) t)), ?_, rfl, rfl, _, rfl⟩
      by_cases d : t = rG r
      · have hc : chc (rG r) t = none := by unfold chc; rw [if_pos d]
        rw [hc, if_pos (show nI t = nI (rG r) by rw [d]), if_neg (show ¬ t + 1 ≤ rG r by omega)]
        have e16 : ∀ a, nI a ||| ((1 : Int32) <<< ((4 : Int32) &&& 31)) = nI (a ||| 16) := fun a => nI_or a 16
        rw [e16]
        unfold fit
        rw [hcb, d]
        cases (fbA r s p (va_up (sW s) k none) q).isNone with
        | true => rw [if_tt, if_tt]
        | false => rw [if_ff, if_ff, Nat.or_zero]
      · have hc : chc (rG r) t = some t := by unfold chc; rw [if_neg d]
        rw [hc, if_neg (show ¬ nI t = nI (rG r) from fun q => d ((nI_eq (by omega) (by omega)).mp q)), if_pos (show t + 1 ≤ rG r by omega), shl1 (by omega), nI_or, bts_s]
        have hcb' : (fbA r s p (va_up (sW s) k (some t)) q).isNone = cb t := by rw [← hcb]
        rw [hcb']
        cases cb t with
        | true => rw [if_tt, if_tt]
        | false => rw [if_ff, if_ff, Nat.or_zero])
    (fun m b1 b2 b3 hI => by
      obtain ⟨rfl, rfl, x, rfl⟩ := hI
      have g1 : ∀ y, (am_sI h1 137 (29 + k) y).2.1 137 1 = nI (rG r) := fun y => by rw [sI_row, if_pos rfl, up_n (by omega)]; exact V1.g
      rw [f_Mod_fitting_L22, rd_lit (by decide) (by decide), Option.bind_some, g1, if_pos (nI_lt (by omega) (by omega)), if_neg (show ¬ rG r + 1 ≤ rG r by omega)]
      exact ⟨_, rfl, rfl, _, rfl⟩) (by unfold am_fu; omega) 0 0 h1 ⟨by rw [if_pos (Nat.zero_le _)]; rfl, rfl, h1.2.1 137 (29 + k), by rw [sI_rI, up_id, rI_self]⟩
  obtain ⟨x, hx⟩ := f3
  unfold f_Mod_fitting
  rw [a1, Option.bind_some, e29, n_rd (by omega) (by decide), Option.bind_some, f1, Option.bind_some, hx, n_wr (by omega) (by decide), Option.bind_some, sI_back, f2]
  exact ⟨h1, rfl, a2⟩
theorem ok_fits (b : Nat) (hb : b ≤ 90000) (x y z : Int32) : ok2 b (f_Top_fits x y z) (f_Mod_fits x y z) := by
  refine seen_go hb x y (fun h e => by unfold f_Top_fits; rw [e, Option.bind_some, if_ff]) (fun h e e' => by unfold f_Top_fits; rw [e, Option.bind_some, if_tt, e', Option.bind_some, if_ff]) (fun h e => ?_) (fun h e e' => ?_) (fun g h i p v T M0 hi hp hx hy e1 e2 e3 e4 => ?_)
  · unfold f_Mod_fits
    simp only [am_let]
    rw [within_any e, Option.bind_some, if_ff]
  · unfold f_Mod_fits
    simp only [am_let]
    rw [e, Option.bind_some, if_tt, e', Option.bind_some, if_ff]
  · subst hx hy
    have TV := T.tV v (by omega)
    have hW := TV.hW
    rcases n_hasHour TV z with ⟨k, hk, rfl, e5, e6⟩ | ⟨e5, e6⟩
    · cases hq : g.2.2.2.2 i with
      | none =>
        refine ⟨-6, ⟨h, ?_, keT.rf⟩, fun h' M _ => ?_⟩
        · unfold f_Top_fits
          rw [e1, Option.bind_some, if_tt, e3, Option.bind_some, if_tt, e5, Option.bind_some, if_tt, n_el hi (by decide), Option.bind_some, take6 T hi hq, Option.bind_some]
          rfl
        · obtain ⟨k0, MV⟩ := s0M M v hb
          unfold f_Mod_fits
          simp only [am_let]
          rw [e2, Option.bind_some, if_tt, e4 MV, Option.bind_some, if_tt, rd_lit (by decide) (by decide), Option.bind_some, MV.w, e6, Option.bind_some, if_tt, n_noSeen6 v hb (M.ke k0) hp hi hq (e2 _), Option.bind_some, if_neg (by decide)]
          exact ⟨_, rfl, k0⟩
      | some q =>
        obtain ⟨h1, a1, a2, a3⟩ := n_take v hb T hi hq
        have k1 := a2.keT (fun a ha => scr3 a (by simp at ha ⊢; omega))
        by_cases c : tkc g.1.1 q = 0
        · obtain ⟨c1, c2⟩ := tkc_0 c
          obtain ⟨a4, a5⟩ := a3 c
          obtain ⟨h2, b1, b2⟩ := n_fitting (TV.ke k1) hp hk c1 a4 a5 c2
          refine ⟨nI (fit g.1.1 g.1.2.1 p q k), ⟨h2, ?_, k1.tr (b2.keT (fun a ha => scr3 a (by simp at ha ⊢; omega)))⟩, fun h' M _ => ?_⟩
          · unfold f_Top_fits
            rw [e1, Option.bind_some, if_tt, e3, Option.bind_some, if_tt, e5, Option.bind_some, if_tt, n_el hi (by decide), Option.bind_some, a1, Option.bind_some]
            simp only
            rw [c, if_pos rfl, b1, Option.bind_some]
          · obtain ⟨k0, MV⟩ := s0M M v hb
            have M1 := M.ke k0
            obtain ⟨s1, s2, s3⟩ := (M1.tr i hi).2 q hq
            obtain ⟨h3, d1, d2⟩ := n_mFitting MV hp hk hi c1 s2 s3 c2
            unfold f_Mod_fits
            simp only [am_let]
            rw [e2, Option.bind_some, if_tt, e4 MV, Option.bind_some, if_tt, rd_lit (by decide) (by decide), Option.bind_some, MV.w, e6, Option.bind_some, if_tt, n_noSeen v hb M1 hp hi hq (e2 _), Option.bind_some, c, if_pos rfl, d1, Option.bind_some]
            exact ⟨_, rfl, k0.tr (d2.keM (by decide))⟩
        · refine ⟨tkc g.1.1 q, ⟨h1, ?_, k1⟩, fun h' M _ => ?_⟩
          · unfold f_Top_fits
            rw [e1, Option.bind_some, if_tt, e3, Option.bind_some, if_tt, e5, Option.bind_some, if_tt, n_el hi (by decide), Option.bind_some, a1, Option.bind_some]
            simp only
            rw [if_neg c]
          · obtain ⟨k0, MV⟩ := s0M M v hb
            unfold f_Mod_fits
            simp only [am_let]
            rw [e2, Option.bind_some, if_tt, e4 MV, Option.bind_some, if_tt, rd_lit (by decide) (by decide), Option.bind_some, MV.w, e6, Option.bind_some, if_tt, n_noSeen v hb (M.ke k0) hp hi hq (e2 _), Option.bind_some, if_neg c]
            exact ⟨_, rfl, k0⟩
    · refine ⟨-2, ⟨h, ?_, keT.rf⟩, fun h' M _ => ?_⟩
      · unfold f_Top_fits
        rw [e1, Option.bind_some, if_tt, e3, Option.bind_some, if_tt, e5, Option.bind_some, if_ff]
      · obtain ⟨k0, MV⟩ := s0M M v hb
        unfold f_Mod_fits
        simp only [am_let]
        rw [e2, Option.bind_some, if_tt, e4 MV, Option.bind_some, if_tt, rd_lit (by decide) (by decide), Option.bind_some, MV.w, e6, Option.bind_some, if_ff]
        exact ⟨_, rfl, k0⟩
/-! ===== surest ===== -/
theorem n_bitsOf {h : am_H} {a : Nat} (ha : a < 32) : f_Mod_bitsOf (nI a) h = some (nI (pop a)) := by
  obtain ⟨c, f1, f2⟩ := lpc2 (fun m (a1 : Int32) (a2 : Int32) => f_Mod_bitsOf_L4 (nI a) m a1 a2 h) 9
    (fun t a1 a2 => a1 = nI (cnt a.testBit t) ∧ a2 = nI t) (fun d => d.1 = nI (pop a))
    (fun m t a1 a2 ht hI => by
      obtain ⟨rfl, rfl⟩ := hI
      rw [f_Mod_bitsOf_L4, if_neg (show ¬ (9 : Int32) ≤ nI t from nI_ge (b := 9) ht (by decide)), nI_msk (by omega), nI_shr (by omega) (by omega)]
      have : nI (a >>> t) &&& (1 : Int32) = nI ((a >>> t) &&& 1) := nI_and _ 1
      rw [this, bit_and1, nI_add]
      exact ⟨_, _, rfl, by rw [cnt_s], nI_up⟩)
    (fun m a1 a2 hI => by
      obtain ⟨rfl, rfl⟩ := hI
      rw [f_Mod_bitsOf_L4, if_pos (show (9 : Int32) ≤ nI 9 by decide)]
      refine ⟨_, rfl, ?_⟩
      unfold pop
      rw [cnt_ext (n := 5) (m := 9) (g := a.testBit) (by omega) (fun p hp => rfl) (fun p h1 h2 => Nat.testBit_lt_two_pow (Nat.lt_of_lt_of_le ha (Nat.pow_le_pow_right (n := 2) (i := 5) (by omega) h1)))]) (by decide) 0 0 ⟨rfl, rfl⟩
  unfold f_Mod_bitsOf
  rw [f1, Option.bind_some, f2]
def srO (r : sR) (s : sS) (p : Nat) (q : Nat × Nat × (Nat → Int64)) : Nat → Option Nat × Nat
  | 0 => (none, 9)
  | k + 1 => if 0 < pop (fit r s p q k) ∧ pop (fit r s p q k) < (srO r s p q k).2 then (some k, pop (fit r s p q k)) else srO r s p q k
theorem srO_le {r : sR} {s : sS} {p : Nat} {q : Nat × Nat × (Nat → Int64)} : ∀ k, (srO r s p q k).2 ≤ 9
  | 0 => Nat.le_refl _
  | k + 1 => by
    rw [srO]
    split
    · have := pop_le (fit r s p q k)
      show pop (fit r s p q k) ≤ 9
      omega
    · exact srO_le k
theorem ok_surest (b : Nat) (hb : b ≤ 90000) (x y : Int32) : ok2 b (f_Top_surest x y) (f_Mod_surest x y) := by
  refine seen_go hb x y (fun h e => by unfold f_Top_surest; rw [e, Option.bind_some, if_ff]) (fun h e e' => by unfold f_Top_surest; rw [e, Option.bind_some, if_tt, e', Option.bind_some, if_ff]) (fun h e => ?_) (fun h e e' => ?_) (fun g h i p v T M0 hi hp hx hy e1 e2 e3 e4 => ?_)
  · unfold f_Mod_surest f_Mod_noSeen
    simp only [am_let]
    rw [within_any e, Option.bind_some, if_ff, Option.bind_some, if_neg (by decide)]
  · unfold f_Mod_surest f_Mod_noSeen
    simp only [am_let]
    rw [e, Option.bind_some, if_tt, e', Option.bind_some, if_ff, Option.bind_some, if_neg (by decide)]
  · subst hx hy
    have TV := T.tV v (by omega)
    have hW := TV.hW
    have hr := v.1
    cases hq : g.2.2.2.2 i with
    | none =>
      refine ⟨-6, ⟨h, ?_, keT.rf⟩, fun h' M _ => ?_⟩
      · unfold f_Top_surest
        rw [e1, Option.bind_some, if_tt, e3, Option.bind_some, if_tt, n_el hi (by decide), Option.bind_some, take6 T hi hq, Option.bind_some]
        rfl
      · obtain ⟨k0, MV⟩ := s0M M v hb
        unfold f_Mod_surest
        simp only [am_let]
        rw [n_noSeen6 v hb (M.ke k0) hp hi hq (e2 _), Option.bind_some, if_neg (by decide)]
        exact ⟨_, rfl, k0⟩
    | some q =>
      obtain ⟨h1, a1, a2, a3⟩ := n_take v hb T hi hq
      have k1 := a2.keT (fun a ha => scr3 a (by simp at ha ⊢; omega))
      by_cases c : tkc g.1.1 q = 0
      · obtain ⟨c1, c2⟩ := tkc_0 c
        obtain ⟨a4, a5⟩ := a3 c
        have V1 := TV.ke k1
        obtain ⟨d, f1, f2, f3⟩ := lpc4 (fun m (b1 : Int32) (b2 : Int32) (b3 : Int32) (b4 : am_H) => f_Sightings_surestHour_L8 (nI p) m b1 b2 b3 b4) (rW g.1.1)
          (fun t b1 b2 b3 b4 => b1 = oI (srO g.1.1 g.1.2.1 p q t).1 ∧ b2 = nI (srO g.1.1 g.1.2.1 p q t).2 ∧ b3 = nI t ∧ am_ex [98] h1 b4)
          (fun d => d.1 = oI (srO g.1.1 g.1.2.1 p q (rW g.1.1)).1 ∧ am_ex [98] h1 d.2.2.2)
          (fun m t b1 b2 b3 b4 ht hI => by
            obtain ⟨rfl, rfl, rfl, x1⟩ := hI
            have V2 := V1.ex x1 (by decide)
            obtain ⟨h2, u1, u2⟩ := n_fitting V2 hp ht c1 (by rw [x1.2.2 96 (by decide)]; exact a4) (fun j hj => by rw [x1.2.2 97 (by decide)]; exact a5 j hj) c2
            have hpl := pop_le (fit g.1.1 g.1.2.1 p q t)
            have hsl := srO_le (r := g.1.1) (s := g.1.2.1) (p := p) (q := q) t
            rw [f_Sightings_surestHour_L8, V2.w, if_neg (nI_ge ht (by omega)), u1, Option.bind_some, n_pop (fit_lt hr), Option.bind_some, nI_up]
            refine ⟨oI (srO g.1.1 g.1.2.1 p q (t + 1)).1, nI (srO g.1.1 g.1.2.1 p q (t + 1)).2, nI (t + 1), h2, ?_, rfl, rfl, rfl, x1.tr u2 (fun _ z => z) (fun _ z => z)⟩
            rw [srO]
            by_cases z1 : pop (fit g.1.1 g.1.2.1 p q t) = 0
            · rw [if_pos (show nI (pop (fit g.1.1 g.1.2.1 p q t)) ≤ (0 : Int32) by rw [z1]; decide), if_neg (by omega)]
            · rw [if_neg (show ¬ nI (pop (fit g.1.1 g.1.2.1 p q t)) ≤ (0 : Int32) from nI_ge (a := 0) (by omega) (by omega))]
              by_cases z2 : pop (fit g.1.1 g.1.2.1 p q t) < (srO g.1.1 g.1.2.1 p q t).2
              · rw [if_neg (nI_ge z2 (by omega)), if_pos ⟨by omega, z2⟩]
                rfl
              · rw [if_pos (nI_le (by omega) (by omega)), if_neg (by omega)])
          (fun m b1 b2 b3 b4 hI => by
            obtain ⟨rfl, rfl, rfl, x1⟩ := hI
            have V2 := V1.ex x1 (by decide)
            rw [f_Sightings_surestHour_L8, V2.w, if_pos (nI_le (Nat.le_refl _) (by omega))]
            exact ⟨_, rfl, rfl, x1⟩) (by unfold am_fu; omega) (-1) 9 0 h1 ⟨rfl, rfl, rfl, am_ex.rf⟩
        refine ⟨oI (srO g.1.1 g.1.2.1 p q (rW g.1.1)).1, ⟨d.2.2.2, ?_, k1.tr (f3.keT (fun a ha => scr3 a (by simp at ha ⊢; omega)))⟩, fun h' M _ => ?_⟩
        · unfold f_Top_surest f_Sightings_surestHour
          rw [e1, Option.bind_some, if_tt, e3, Option.bind_some, if_tt, n_el hi (by decide), Option.bind_some, a1, Option.bind_some]
          simp only
          rw [c, if_pos rfl, f1, Option.bind_some, Option.bind_some, f2]
        · obtain ⟨k0, MV⟩ := s0M M v hb
          have M1 := M.ke k0
          obtain ⟨s1, s2, s3⟩ := (M1.tr i hi).2 q hq
          obtain ⟨e, g1, g2, g3⟩ := lpc4 (fun m (b1 : Int32) (b2 : Int32) (b3 : Int32) (b4 : am_H) => f_Mod_surest_L28 (nI i) (nI p) m 0 b1 b2 b3 b4) (rW g.1.1)
            (fun t b1 b2 b3 b4 => b1 = oI (srO g.1.1 g.1.2.1 p q t).1 ∧ b2 = nI (srO g.1.1 g.1.2.1 p q t).2 ∧ b3 = nI t ∧ am_ex [141, 142, 144, 145, 146] (am_sI h' 136 0 0) b4)
            (fun d => d.1 = oI (srO g.1.1 g.1.2.1 p q (rW g.1.1)).1 ∧ am_ex [141, 142, 144, 145, 146] (am_sI h' 136 0 0) d.2.2.2)
            (fun m t b1 b2 b3 b4 ht hI => by
              obtain ⟨rfl, rfl, rfl, x1⟩ := hI
              have V2 := MV.ex x1 (by decide)
              obtain ⟨h2, u1, u2⟩ := n_mFitting (i := i) V2 hp ht hi c1 (by rw [x1.2.2 159 (by decide)]; exact s2) (fun j hj => by rw [x1.2.1]; exact s3 j hj) c2
              have hpl := pop_le (fit g.1.1 g.1.2.1 p q t)
              have hsl := srO_le (r := g.1.1) (s := g.1.2.1) (p := p) (q := q) t
              rw [f_Mod_surest_L28, rd_lit (by decide) (by decide), Option.bind_some, V2.w, if_neg (nI_ge ht (by omega)), u1, Option.bind_some, n_bitsOf (fit_lt hr), Option.bind_some, nI_up]
              refine ⟨oI (srO g.1.1 g.1.2.1 p q (t + 1)).1, nI (srO g.1.1 g.1.2.1 p q (t + 1)).2, nI (t + 1), h2, ?_, rfl, rfl, rfl, x1.tr u2 (fun _ z => z) (fun _ z => z)⟩
              rw [srO]
              by_cases z1 : pop (fit g.1.1 g.1.2.1 p q t) = 0
              · rw [if_pos (show nI (pop (fit g.1.1 g.1.2.1 p q t)) = (0 : Int32) by rw [z1]; rfl), if_neg (by omega)]
              · rw [if_neg (show ¬ nI (pop (fit g.1.1 g.1.2.1 p q t)) = (0 : Int32) from fun q => z1 ((nI_eq (b := 0) (by omega) (by decide)).mp q))]
                by_cases z2 : pop (fit g.1.1 g.1.2.1 p q t) < (srO g.1.1 g.1.2.1 p q t).2
                · rw [if_pos (nI_lt z2 (by omega)), if_pos ⟨by omega, z2⟩]
                  rfl
                · rw [if_neg (nI_nlt (by omega) (by omega)), if_neg (by omega)])
            (fun m b1 b2 b3 b4 hI => by
              obtain ⟨rfl, rfl, rfl, x1⟩ := hI
              have V2 := MV.ex x1 (by decide)
              rw [f_Mod_surest_L28, rd_lit (by decide) (by decide), Option.bind_some, V2.w, if_pos (nI_le (Nat.le_refl _) (by omega))]
              exact ⟨_, rfl, rfl, x1⟩) (by unfold am_fu; omega) (-1) 9 0 (am_sI h' 136 0 0) ⟨rfl, rfl, rfl, am_ex.rf⟩
          unfold f_Mod_surest
          simp only [am_let]
          rw [n_noSeen v hb M1 hp hi hq (e2 _), Option.bind_some, c, if_pos rfl, g1, Option.bind_some, g2]
          exact ⟨_, rfl, k0.tr (g3.keM (by decide))⟩
      · refine ⟨tkc g.1.1 q, ⟨h1, ?_, k1⟩, fun h' M _ => ?_⟩
        · unfold f_Top_surest
          rw [e1, Option.bind_some, if_tt, e3, Option.bind_some, if_tt, n_el hi (by decide), Option.bind_some, a1, Option.bind_some]
          simp only
          rw [if_neg c]
        · obtain ⟨k0, MV⟩ := s0M M v hb
          unfold f_Mod_surest
          simp only [am_let]
          rw [n_noSeen v hb (M.ke k0) hp hi hq (e2 _), Option.bind_some, if_neg c]
          exact ⟨_, rfl, k0⟩
