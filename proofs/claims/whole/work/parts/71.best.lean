-- deps: 31.law 32.nat 33.bit 34.spec 35.riv 36.let 37.mod 38.mod 39.it 40.ahead 41.rel 42.ask 43.why 44.meet 45.err 46.err 47.wk 48.chg 50.ways 51.way 52.tray 54.past 55.hour 56.act 57.undo 59.deed 63.seen 67.wth 68.mwk 69.srt 70.srch
/-! ===== best ===== -/
def cst (g : Nat) : Nat → Option Nat := fun _ => some g
theorem mvs_c {r : sR} {g : Nat} : mvs (rW r) (cst g) = 0 := by
  unfold mvs
  rw [cnt_cg (g := fun _ => false) (fun k hk => by simp [cst])]
  generalize rW r = n
  induction n with
  | zero => rfl
  | succ n ih => rw [cnt_s, ih]; rfl
theorem cnt_0 {f : Nat → Bool} : ∀ {n : Nat}, cnt f n = 0 → ∀ k, k < n → f k = false
  | 0, _, k, hk => by omega
  | n + 1, h, k, hk => by
    rw [cnt_s] at h
    by_cases c : k = n
    · subst c
      cases hf : f k with
      | false => rfl
      | true => rw [hf, if_tt] at h; omega
    · have h' : cnt f n = 0 := by omega
      exact cnt_0 h' k (by omega)
theorem mvs_0 {r : sR} {w : Nat → Option Nat} (h : mvs (rW r) w = 0) : ∀ k, k < rW r → w k = w 0 := by
  intro k
  induction k with
  | zero => intro _; rfl
  | succ k ih =>
    intro hk
    have := cnt_0 h (k + 1) hk
    rw [decide_eq_false_iff_not] at this
    have e : (k + 1 + rW r - 1) % rW r = k := by rw [show k + 1 + rW r - 1 = k + rW r by omega, Nat.add_mod_right, Nat.mod_eq_of_lt (by omega)]
    rw [e] at this
    rw [← ih (by omega)]
    exact Classical.byContradiction (fun q => this q)
theorem n_findBest {h : am_H} {r : sR} {s : sS} (V : tV h r s) (h0 : tBest r s h) : ∃ h', f_Weeks_findBest h = some h' ∧ am_ex [91, 92, 93, 94, 95] h h' ∧ h'.2.1 91 8 = 1 ∧ tBest r s h' ∧ h'.2.1 91 9 = h.2.1 91 9 ∧ h'.2.1 91 7 = h.2.1 91 7 := by
  have hr := V.1
  have hP := V.hP
  have hW := V.hW
  have hG := V.hG
  unfold f_Weeks_findBest
  rcases h0 with z | z
  · rw [if_pos z]
    obtain ⟨h1, su, no, hl, op, a1, S, a3, a4, a5, a6, a7, a8⟩ := n_sort V
    have hno : su + no + hl ≤ rP r := S.1
    rw [a1, Option.bind_some]
    simp only [am_let]
    generalize hh3 : am_sI h1 91 5 (-1) = h3
    have F3 : tF h1 h3 := by rw [← hh3]; exact ⟨am_ex.sI (by decide), fun j h5 _ => by rw [sI_row, if_pos rfl, up_n h5]⟩
    have V1 := V.ex a7 (by decide)
    have e95 : ∀ x, tF h1 x → (∀ i, i < no → x.2.1 95 i = nI (1 <<< sP s (op i))) → ∀ wk, tL x r s no op 0 wk := fun x _ hx wk j hj i hi => by
      have : j = 0 := by omega
      subst this
      rw [Nat.mul_zero, Nat.zero_add]
      exact hx i hi
    obtain ⟨c, f1, f2, f3, f4, o, f5, f6⟩ := lpc2 (fun m (a1 : Int32) (a2 : am_H) => f_Weeks_findBest_L19 m a1 a2) (rG r)
      (fun t a1 a2 => a1 = nI t ∧ tF h1 a2 ∧ (∀ i, i < no → a2.2.1 95 i = nI (1 <<< sP s (op i))) ∧ (0 < t → tW a2 92 r (cst (t - 1))) ∧ ∃ o, tBo a2 r s o ∧ (t = 0 ∧ o = none ∨ 0 < t ∧ ∃ g, g < t ∧ o = some (cst g) ∧ ∀ g', g' < t → ¬ bt r s (cst g') (cst g)))
      (fun c => tF h1 c.2 ∧ (∀ i, i < no → c.2.2.1 95 i = nI (1 <<< sP s (op i))) ∧ tW c.2 92 r (cst (rG r - 1)) ∧ ∃ o, tBo c.2 r s o ∧ ∃ g, g < rG r ∧ o = some (cst g) ∧ ∀ g', g' < rG r → ¬ bt r s (cst g') (cst g))
      (fun m t b1 b2 ht hI => by
        obtain ⟨rfl, i1, i2, _, o, i3, i4⟩ := hI
        have V2 := i1.V V1
        obtain ⟨h4, d1, d2, d3⟩ := n_fillI (h := b2) (o := 92) (L := 6) (v := nI t) (by decide)
        have F4 : tF h1 h4 := i1.tr (tF.ex d2 (by decide))
        have wc : wG r (cst t) := fun k hk => ⟨t, rfl, ht⟩
        have T4 : tW h4 92 r (cst t) := ⟨wc.v, fun k hk => d3 k (by omega)⟩
        have r4 : ∀ i, i < no → h4.2.1 95 i = nI (1 <<< sP s (op i)) := fun i hi => by rw [d2.2.2 95 (by decide)]; exact i2 i hi
        have B4 : tBo h4 r s o := ⟨fun q => by rw [d2.2.2 91 (by decide)]; exact i3.1 q, fun w q => (i3.2 w q).cg (d2.2.2 91 (by decide)) (d2.2.2 93 (by decide))⟩
        have L4 := e95 h4 F4 r4 (cst t)
        obtain ⟨h5, w, g1, g2, g3, g4, g5, g6, g7⟩ := n_weigh (t := 0) (F4.V V1) S (F4.O a3) T4 L4 (by omega) wc B4
        have g1' : f_Weeks_weigh 0 h4 = some h5 := g1
        rw [f_Weeks_findBest_L19, V2.g, if_neg (nI_ge ht (by omega)), d1, Option.bind_some, g1', Option.bind_some]
        have F5 : tF h1 h5 := F4.tr ⟨g2.tr am_ex.rf (Y := []) (by decide) (by decide), g3⟩
        refine ⟨_, _, rfl, nI_up, F5, fun i hi => by rw [g2.2.2 95 (by decide)]; exact r4 i hi, fun _ => ⟨T4.1, fun k hk => by rw [g2.2.2 92 (by decide)]; exact T4.2 k hk⟩, some w, ⟨(fun q => by cases q), fun w' q => by cases q; exact g4⟩, .inr ⟨by omega, ?_⟩⟩
        rcases i4 with ⟨rfl, rfl⟩ | ⟨t0, g, gt, rfl, gb⟩
        · rcases g7 with q | q
          · refine ⟨0, by omega, by rw [q], fun g' hg' => ?_⟩
            have : g' = 0 := by omega
            subst this
            rw [← q]
            rw [q]
            exact bt_irr
          · cases q
        · rcases g7 with q | q
          · refine ⟨t, by omega, by rw [q], fun g' hg' => ?_⟩
            rw [← q]
            by_cases c : g' = t
            · rw [c]; exact g5
            · rcases g6 _ rfl with z | z
              · rw [z]; exact gb g' (by omega)
              · exact fun y => gb g' (by omega) (bt_tr y z)
          · cases q
            refine ⟨g, by omega, rfl, fun g' hg' => ?_⟩
            by_cases c : g' = t
            · rw [c]; exact g5
            · exact gb g' (by omega))
      (fun m b1 b2 hI => by
        obtain ⟨rfl, i1, i2, i3, o, i4, i5⟩ := hI
        have V2 := i1.V V1
        rw [f_Weeks_findBest_L19, V2.g, if_pos (nI_le (Nat.le_refl _) (by omega))]
        refine ⟨_, rfl, i1, i2, i3 (by omega), o, i4, ?_⟩
        rcases i5 with ⟨q, _⟩ | ⟨_, q⟩
        · omega
        · exact q) (by unfold am_fu; omega) 0 h3 ⟨rfl, F3, fun i hi => by rw [← hh3, sI_row, if_neg (by decide)]; exact a5 i hi, (fun q => by omega), none, ⟨fun _ => by rw [← hh3, sI_row, if_pos rfl, up_s], (fun w q => by cases q)⟩, .inl ⟨rfl, rfl⟩⟩
    obtain ⟨g, hg, rfl, hgb⟩ := f6
    obtain ⟨c1, c2⟩ := c
    simp only at f2 f3 f4 f5
    have B := f5.2 _ rfl
    have O2 := f2.O a3
    have V2 := f2.V V1
    have hle := inT_le (s := s) (wk := cst g) hr
    have wcG : wG r (cst (rG r - 1)) := fun k hk => ⟨rG r - 1, rfl, by omega⟩
    -- a week that nothing without rest betters
    have key : ∃ h4 w, ((if nI (su + no) ≤ nI (inT r s (cst g)) then some c2 else (f_Weeks_tryBest 0 c2).bind fun q9 => some q9) : Option am_H) = some h4 ∧ tF h1 h4 ∧ tB h4 r s w ∧ ∀ v, wG r v → ¬ bt r s v w := by
      by_cases q : su + no ≤ inT r s (cst g)
      · rw [if_pos (nI_le q (by omega))]
        refine ⟨c2, cst g, rfl, f2, B, fun v hv hb => ?_⟩
        have hls := lst_le (t := 0) hr S hv.v (fun j hj => by omega : AgO r s 0 v v)
        have e0 : mvs (rW r) (cst g) = 0 := mvs_c
        rcases hb with hb | ⟨hb1, hb2 | ⟨hb2, hb3⟩⟩
        · omega
        · omega
        · rw [e0] at hb2
          obtain ⟨g', g1, g2⟩ := hv 0 (by omega)
          have he : ∀ k, k < rW r → v k = cst g' k := fun k hk => by rw [mvs_0 hb2 k hk, g1]; rfl
          exact hgb g' g2 (bt_cg hr he (.inr ⟨hb1, .inr ⟨by rw [hb2, e0], hb3⟩⟩))
      · rw [if_neg (nI_ge (by omega) (by omega))]
        have L2 : tL c2 r s no op (rW r - rW r) (cst (rG r - 1)) := by rw [Nat.sub_self]; exact e95 c2 f2 f3 _
        obtain ⟨h4, w, wk', t1, t2, t3, t4, t5, _⟩ := tb_ok S (rW r) 60 c2 (cst (rG r - 1)) (cst g) (by omega) (Nat.le_refl _) V2 O2 f4 wcG L2 B
        rw [Nat.sub_self] at t1 t5
        have t1' : f_Weeks_tryBest 0 c2 = some h4 := t1
        rw [t1', Option.bind_some]
        exact ⟨h4, w, rfl, f2.tr t2, t3, fun v hv => t5 v hv (fun j hj => by omega)⟩
    obtain ⟨h4, w, k1, k2, k3, k4⟩ := key
    have hall : ∀ v, vW r v → ¬ bt r s v w := fun v hv hb => by
      by_cases q : wG r v
      · exact k4 v q hb
      · obtain ⟨v', w1, w2⟩ := rest_free (s := s) hr hv q
        exact k4 v' w1 (bt_tr w2 hb)
    obtain ⟨ws, y1, y2, y3⟩ := aW_ok (s := s) hr
    obtain ⟨u1, u2, u3⟩ := bt_uniq (s := s) k3.2.2.2.v y2 (y3 w k3.2.2.2.v) (hall ws y2)
    rw [f1, Option.bind_some]
    simp only
    rw [O2.1, O2.2.1, nI_add, B.1, k1, Option.bind_some]
    have xx : am_ex [91, 92, 93, 94, 95] h (am_sI h4 91 8 1) := (a7.tr k2.1 (Z := [91, 92, 93, 94, 95]) (by decide) (by decide)).tr (am_ex.sI (X := [91]) (by decide)) (fun _ z => z) (by decide)
    have r91 : ∀ j, j ≠ 8 → (am_sI h4 91 8 1).2.1 91 j = h4.2.1 91 j := fun j hj => by rw [sI_row, if_pos rfl, up_n hj]
    have f8 : (am_sI h4 91 8 1).2.1 91 8 = 1 := by rw [sI_row, if_pos rfl, up_s]
    refine ⟨_, rfl, xx, f8, .inr ⟨f8, inT r s ws, mvs (rW r) ws, ws, y1, ?_, ?_, fun k hk => ?_⟩, ?_, ?_⟩
    · rw [r91 5 (by decide), k3.1, u1]
    · rw [r91 6 (by decide), k3.2.1, u2]
    · rw [sI_row, if_neg (by decide), k3.2.2.1 k hk, u3 k hk]
    · rw [r91 9 (by decide), k2.2 9 (by decide) (by decide), a8 9 (by omega)]
    · rw [r91 7 (by decide), k2.2 7 (by decide) (by decide), a8 7 (by omega)]
  · rw [if_neg (by rw [z.1]; decide)]
    exact ⟨h, rfl, am_ex.rf, z.1, .inr z, rfl, rfl⟩
theorem RT.wks {g : sG} {h h' : am_H} (R : RT g h) (x : am_ex [91, 92, 93, 94, 95] h h') (b : tBest g.1.1 g.1.2.1 h') (d : tGood g.1.1 g.1.2.1 h') : RT g h' := by
  obtain ⟨R1, R2, ⟨e0, q1, q2, q3, q4⟩, ⟨m, i1, i2, i3⟩, ⟨t1, t2⟩, ⟨u1, u2⟩, R7, R8, R9, R10⟩ := R
  have e : ∀ a, a < 91 ∨ 95 < a → h'.2.1 a = h.2.1 a := fun a ha => x.2.2 a (by simp; omega)
  refine ⟨R1.cg (fun a _ _ => e a (by omega)), R2.cg (fun a _ _ => e a (by omega)), ⟨e0, q1, ?_, ?_, fun i hi => (q4 i hi).cg (fun a _ _ => e a (by omega))⟩, ⟨m, i1, ?_, fun j hj => ⟨(i3 j hj).1, fun q hq => ⟨((i3 j hj).2 q hq).1.cg (fun a _ _ => e a (by omega)), ((i3 j hj).2 q hq).2.cg (fun a _ _ => e a (by omega))⟩⟩⟩, ⟨?_, ?_⟩, ⟨?_, ?_⟩, ?_, b, d, rf_id (by rw [x.2.1]) R10⟩
  · rw [e 18 (by omega)]; exact q2
  · rw [e 18 (by omega)]; exact q3
  · rw [e 0 (by omega)]; exact i2
  · rw [e 0 (by omega)]; exact t1
  · rw [e 60 (by omega)]; exact t2
  · rw [e 61 (by omega)]; exact u1
  · rw [e 61 (by omega)]; exact u2
  · intro i hi
    rw [e (102 + 2 * i) (by omega), x.2.1]
    exact R7 i hi
theorem ok_best (b : Nat) (hb : b ≤ 90000) (x : Int32) : ok2 b (f_Top_best x) (f_Mod_best x) := by
  refine ok2_st (fun g h v T M0 => ?_)
  have TV := T.tV v (by omega)
  have hr := v.1
  have hW := TV.hW
  obtain ⟨h1, a1, a2, a3, a4, a5, a6⟩ := n_findBest TV T.2.2.2.2.2.2.2.1
  have T1 : RT g h1 := T.wks a2 a4 (by
    have := T.2.2.2.2.2.2.2.2.1
    unfold tGood at this ⊢
    rw [a5, a6]; exact this)
  have fr1 : frT h h1 := a2.frT (by decide)
  obtain ⟨n, m, wk, w1, w2, w3, w4⟩ : ∃ n m wk, (aW g.1.1 g.1.2.1).1 = some (n, m, wk) ∧ h1.2.1 91 5 = nI n ∧ h1.2.1 91 6 = nI m ∧ ∀ k, k < rW g.1.1 → h1.2.1 93 k = oI (wk k) := by
    rcases a4 with z | z
    · rw [a3] at z; cases z
    · exact z.2
  have hM : ∀ h', RM g h' → ∃ h2, f_Mod_laysWeeks (am_sI h' 136 0 0) = some h2 ∧ h2.2.1 136 33 = nI n ∧ h2.2.1 136 34 = nI m ∧ (∀ k, k < rW g.1.1 → h2.2.1 152 k = oI (wk k)) ∧ keM h' h2 := fun h' M => by
    obtain ⟨k0, MV⟩ := s0M M v hb
    obtain ⟨h2, c1, c2, c3, c4, c5⟩ := n_laysWeeks MV
    obtain ⟨_, d1, d2, d3⟩ := c2.2.1 _ w1
    exact ⟨h2, c1, d1, d2, d3, k0.tr (laysWeeks_ke c4 c3 c5)⟩
  have fin : ∀ c : Int32, f_Top_best x h = some (c, h1) → (∀ h', RM g h' → ∀ h2, f_Mod_laysWeeks (am_sI h' 136 0 0) = some h2 → h2.2.1 136 33 = nI n → h2.2.1 136 34 = nI m → (∀ k, k < rW g.1.1 → h2.2.1 152 k = oI (wk k)) → f_Mod_best x h' = some (c, h2)) → ∃ x' g', VG (b + 48) g' ∧ (∃ h', f_Top_best x h = some (x', h') ∧ RT g' h' ∧ frT h h') ∧ (∀ h', RM g h' → ∃ h'', f_Mod_best x h' = some (x', h'') ∧ RM g' h'' ∧ frM h' h'') := fun c e1 e2 =>
    ⟨c, g, v.up (by omega), ⟨h1, e1, T1, fr1⟩, fun h' M => by
      obtain ⟨h2, d1, d2, d3, d4, d5⟩ := hM h' M
      exact ⟨h2, e2 h' M h2 d1 d2 d3 d4, M.ke d5, d5.1⟩⟩
  have wi : ∀ h', f_Mod_within x.toInt64 0 1 h' = some (decide (0 ≤ x.toInt ∧ x.toInt ≤ 1)) := fun h' => by
    have l1 : (1 : Int64).toInt = 1 := by decide
    rw [wi_t, l_0, l1, Int32.toInt_toInt64]
  have wj : ∀ h', f_Mod_within x.toInt64 10 (((9 : Int32) + nI (rW g.1.1)).toInt64) h' = some (decide (10 ≤ x.toInt ∧ x.toInt ≤ 9 + rW g.1.1)) := fun h' => by
    have l10 : (10 : Int64).toInt = 10 := by decide
    have e9 : (9 : Int32) + nI (rW g.1.1) = nI (9 + rW g.1.1) := nI_add 9 _
    rw [wi_t, l10, e9, nI_l (by omega), lN_toInt (by omega), Int32.toInt_toInt64]
    exact congrArg some (decide_eq_decide.mpr (by omega))
  have t10 : (10 : Int32).toInt = 10 := by decide
  by_cases c0 : x = 0
  · subst c0
    refine fin (nI n) ?_ (fun h' M h2 e1 e2 e3 e4 => ?_)
    · unfold f_Top_best
      rw [if_pos (show (0 : Int32) < 10 by decide), Option.bind_some, if_pos rfl, a1, Option.bind_some, if_pos rfl, if_pos rfl, w2]
    · unfold f_Mod_best
      simp only [am_let]
      rw [wi, Option.bind_some, if_pos (by decide), e1, Option.bind_some, if_pos trivial, e2]
  by_cases c1 : x = 1
  · subst c1
    refine fin (nI m) ?_ (fun h' M h2 e1 e2 e3 e4 => ?_)
    · unfold f_Top_best
      rw [if_pos (show (1 : Int32) < 10 by decide), Option.bind_some, if_neg (by decide), if_pos rfl, a1, Option.bind_some, if_pos rfl, if_neg (by decide), w3]
    · unfold f_Mod_best
      simp only [am_let]
      rw [wi, Option.bind_some, if_pos (by decide), e1, Option.bind_some, if_neg (by decide), if_pos trivial, e3]
  have n01 : ¬ (0 ≤ x.toInt ∧ x.toInt ≤ 1) := fun q => by
    rcases (show x.toInt = 0 ∨ x.toInt = 1 by omega) with z | z
    · exact c0 (Int32.toInt_inj.mp (by rw [z]; rfl))
    · exact c1 (Int32.toInt_inj.mp (by rw [z]; rfl))
  by_cases c2 : 10 ≤ x.toInt ∧ x.toInt ≤ 9 + rW g.1.1
  · obtain ⟨k, hk, rfl⟩ : ∃ k, k < rW g.1.1 ∧ x = nI (10 + k) := ⟨(x.toInt - 10).toNat, by omega, Int32.toInt_inj.mp (by rw [nI_toInt (by omega)]; omega)⟩
    have e10 : nI (10 + k) - (10 : Int32) = nI k := by
      have : nI (10 + k) - (10 : Int32) = nI (10 + k - 10) := nI_sub (b := 10) (by omega)
      rw [this]
      congr 1
      omega
    refine fin (oI (wk k)) ?_ (fun h' M h2 e1 e2 e3 e4 => ?_)
    · unfold f_Top_best
      rw [if_neg (show ¬ nI (10 + k) < (10 : Int32) from nI_nlt (b := 10) (by omega) (by omega)), e10, hasHour_t TV.2.2.1 hr (by omega), Option.bind_some, if_pos (by simpa using hk), Option.bind_some, if_neg c0, if_neg c1, if_neg (by decide), a1, Option.bind_some, if_neg (by decide), n_rd (by omega) (by decide), Option.bind_some, w4 k hk]
    · obtain ⟨k0, MV⟩ := s0M M v hb
      unfold f_Mod_best
      simp only [am_let]
      rw [wi, Option.bind_some, if_neg (by simpa using n01), rd_lit (by decide) (by decide), Option.bind_some, MV.w, wj, Option.bind_some, if_pos (by simpa using c2), e1, Option.bind_some, if_neg c0, if_neg c1, e10, n_rd (by omega) (by decide), Option.bind_some, e4 k hk]
  · refine st_same v T (-2) ?_ (fun h' M => ?_)
    · have hm4 : ((if x < (10 : Int32) then some (0 : Int32) else (f_River_hasHour 1 (x - (10 : Int32)) h).bind fun q2 => (if q2 = true then some (1 : Int32) else some (0 : Int32))) : Option Int32) = some 0 := by
        by_cases d : x < 10
        · rw [if_pos d]
        · rw [if_neg d]
          have d' : 10 ≤ x.toInt := by
            rw [Int32.lt_iff_toInt_lt, t10] at d
            omega
          have hlt := Int32.toInt_lt x
          have ex : x - 10 = nI (x.toInt - 10).toNat := by
            have e1 : x = nI x.toInt.toNat := Int32.toInt_inj.mp (by rw [nI_toInt (by omega)]; omega)
            have : nI x.toInt.toNat - (10 : Int32) = nI (x.toInt.toNat - 10) := nI_sub (b := 10) (by omega)
            rw [e1, this, ← e1]
            congr 1
            omega
          rw [ex, hasHour_t TV.2.2.1 hr (by omega), Option.bind_some, if_neg (by simp; omega)]
      unfold f_Top_best
      rw [hm4, Option.bind_some, if_neg c0, if_neg c1, if_pos rfl]
    · obtain ⟨k0, MV⟩ := s0M M v hb
      unfold f_Mod_best
      simp only [am_let]
      rw [wi, Option.bind_some, if_neg (by simpa using n01), rd_lit (by decide) (by decide), Option.bind_some, MV.w, wj, Option.bind_some, if_neg (by simpa using c2)]
      exact ⟨_, rfl, k0⟩
