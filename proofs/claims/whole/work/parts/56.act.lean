-- deps: 31.law 32.nat 33.bit 34.spec 35.riv 36.let 37.mod 38.mod 39.it 40.ahead 41.rel 42.ask 43.why 44.meet 45.err 46.err 47.wk 48.chg 50.ways 51.way 52.tray 54.past 55.hour
/-! ===== acts ===== -/
/-- the reference keeps its state, before it changes -/
theorem m_keep {g : sG} {h ha : am_H} (M : RM g h) (k1 : keM h ha) : ∃ hb, f_Mod_keeps ha = some hb ∧ keM h hb ∧ (∀ j, j < 19 → hb.2.1 143 j = h.2.1 137 (26 + j)) ∧ hb.2.1 137 = h.2.1 137 := by
  obtain ⟨hb, c1, c2, c3⟩ := n_keeps (h := ha)
  exact ⟨hb, c1, k1.tr (c2.keM (by decide)), fun j hj => by rw [c3 j hj, k1.2.1 137 (by omega)], by rw [c2.2.2 137 (by decide), k1.2.1 137 (by omega)]⟩
theorem e_sI {h : am_H} {o j : Nat} {x : Int32} (ho : 10 ≤ o ∧ o ≤ 13) : ∀ a, a < 136 → ¬ scr a → a < 10 ∨ 13 < a → (am_sI h o j x).2.1 a = h.2.1 a := fun a _ _ ha => by rw [sI_row, if_neg (by omega)]
theorem frT_sI {h : am_H} {o j : Nat} {x : Int32} (ho : o < 136) : frT h (am_sI h o j x) := fun a ha => ⟨by rw [sI_row, if_neg (by omega)], rfl⟩
def sAct (s : sS) (p a : Nat) : sS := (s.1, s.2.1, s.2.2.1, va_up (sT s) p a)
theorem ok_act (b : Nat) (hb : b ≤ 90000) (x y : Int32) : ok2 b (f_Top_act x y) (f_Mod_act x y) := by
  refine ok2_st (fun g h v T M0 => ?_)
  have TV := T.tV v (by omega)
  have hP := TV.hP
  have hG := TV.hG
  have hW := TV.hW
  have hr := v.1
  rcases p_act (rP g.1.1) (by omega) x y with ⟨p, act, hp, ha, rfl, rfl⟩ | q
  · by_cases c : hs g.1.1 g.1.2.1 p act = 0
    · have hm : sH g.1.2.1 % rW g.1.1 < rW g.1.1 := Nat.mod_lt _ (by omega)
      obtain ⟨m1, m2, m3⟩ := hi_mv hr (TV.hsp hp) (TV.vw _ hm) ha c
      have hx9 : sP g.1.2.1 p < 9 := by rcases TV.hsp hp with c | c <;> omega
      have hv' : vS (b + 48) g.1.1 (sAct g.1.2.1 p act) := by
        have v2 := v.2.1.up (show b ≤ b + 48 by omega)
        refine ⟨v2.1, v2.2.1, v2.2.2.1, v2.2.2.2.1, fun q hq => ⟨(v2.2.2.2.2 q hq).1, ?_⟩⟩
        show va_up (sT g.1.2.1) p act q ≤ 6
        by_cases d : q = p
        · subst d; rw [up_s]; exact ha
        · rw [up_n d]; exact (v2.2.2.2.2 q hq).2
      refine ⟨nI (mv (sP g.1.2.1 p) act (sW g.1.2.1 (sH g.1.2.1 % rW g.1.1))), gS' (gP g) (sAct g.1.2.1 p act), v.push hv', ?_, fun h' M => ?_⟩
      · obtain ⟨h1, c1, c2, c3, c4⟩ := n_will v T
        have T1 : tS 10 g.1.1 g.1.2.1 h1 := c2.2.1
        have T2 : tS 10 g.1.1 (sAct g.1.2.1 p act) (am_sI h1 13 p (nI act)) := by
          refine ⟨?_, ?_, ?_, fun k hk => ?_, fun q hq => ⟨?_, ?_⟩⟩
          · rw [sI_row, if_neg (by decide)]; exact T1.1
          · rw [sI_row, if_neg (by decide)]; exact T1.2.1
          · rw [sI_row, if_neg (by decide)]; exact T1.2.2.1
          · rw [sI_row, if_neg (by decide)]; exact T1.2.2.2.1 k hk
          · rw [sI_row, if_neg (by decide)]; exact (T1.2.2.2.2 q hq).1
          · rw [sI_row, if_pos rfl]
            show _ = nI (va_up (sT g.1.2.1) p act q)
            by_cases d : q = p
            · subst d; rw [up_s, up_s]
            · rw [up_n d, up_n d]; exact (T1.2.2.2.2 q hq).2
        have R1 : tR 1 g.1.1 (am_sI h1 13 p (nI act)) := c2.1.cg (fun a _ _ => by rw [sI_row, if_neg (by omega)])
        have X : tX 10 (am_sI h1 13 p (nI act)) g.1.1 (sAct g.1.2.1 p act) := ⟨hr, hv'.up (by omega), R1, T2⟩
        have el : f_State_lies 10 1 (am_sI h1 13 p (nI act)) = some (oI (sW g.1.2.1 (sH g.1.2.1 % rW g.1.1))) := by
          have := n_lies X
          exact this
        unfold f_Top_act
        rw [n_stHind TV.tX hp ha, Option.bind_some, c, if_pos (show nI 0 = 0 from rfl), c1, Option.bind_some, n_wr (by omega) (by decide), Option.bind_some, n_rd (by omega) (by decide), Option.bind_some, el, Option.bind_some, (T2.2.2.2.2 p hp).1]
        have em : f_River_moved (nI (sP (sAct g.1.2.1 p act) p)) (nI act) (oI (sW g.1.2.1 (sH g.1.2.1 % rW g.1.1))) (am_sI h1 13 p (nI act)) = some (nI (mv (sP g.1.2.1 p) act (sW g.1.2.1 (sH g.1.2.1 % rW g.1.1)))) := n_moved (G := rG g.1.1) hx9 ha m1 m2
        rw [em, Option.bind_some]
        exact ⟨_, rfl, c2.setS c3.1 c3.2 (e_sI (by omega)) (fun _ _ => rfl) id T2, c4.tr (frT_sI (by omega))⟩
      · obtain ⟨k0, MV⟩ := s0M M v hb
        obtain ⟨h1, a1, a2⟩ := n_whyTold MV hp ha
        obtain ⟨h2, b1, b2, b3, b4⟩ := m_keep M (k0.tr (a2.keM (by decide)))
        have V0 : mV (h'.2.1 137) g.1.1 g.1.2.1 := M.mV v (by omega)
        have e40 : (40 : Int32) + nI p = nI (40 + p) := nI_add 40 p
        have e35 : (35 : Int32) + nI p = nI (35 + p) := nI_add 35 p
        have w : mW h' (am_sI h2 137 (40 + p) (nI act)) := b2.mW.tr (mW.sI (by omega))
        have rr : ∀ j, j ≠ 40 + p → (am_sI h2 137 (40 + p) (nI act)).2.1 137 j = h'.2.1 137 j := fun j hj => by rw [sI_row, if_pos rfl, up_n hj, b4]
        have M2 : mS ((am_sI h2 137 (40 + p) (nI act)).2.1 137) 26 g.1.1 (sAct g.1.2.1 p act) := by
          refine ⟨?_, ?_, ?_, fun k hk => ?_, fun q hq => ⟨?_, ?_⟩⟩
          · rw [rr _ (by omega)]; exact V0.ho
          · rw [rr _ (by omega)]; exact V0.fo
          · rw [rr _ (by omega)]; exact V0.dn
          · rw [rr _ (by omega)]; exact V0.wk hk
          · rw [rr _ (by omega)]; exact V0.sp hq
          · show _ = nI (va_up (sT g.1.2.1) p act q)
            by_cases d : q = p
            · subst d; rw [up_s]
              show (am_sI h2 137 (40 + q) (nI act)).2.1 137 (40 + q) = _
              rw [sI_row, if_pos rfl, up_s]
            · rw [up_n d, rr _ (by omega)]; exact V0.ac hq
        obtain ⟨h3, d1, d2, d3, d4, d5⟩ := n_notes (s := sAct g.1.2.1 p act) v M w (fun j hj => by rw [sI_row, if_neg (by decide)]; exact b3 j hj) M2
        have V3 : mV (h3.2.1 137) g.1.1 (sAct g.1.2.1 p act) := ⟨hr, hv'.up (by omega), d2.1, d2.2.1⟩
        have el : f_Mod_leads (nI (sP (sAct g.1.2.1 p act) p)) (nI act) (oI (sW (sAct g.1.2.1 p act) (sH (sAct g.1.2.1 p act) % rW g.1.1))) h3 = some (nI (mv (sP g.1.2.1 p) act (sW g.1.2.1 (sH g.1.2.1 % rW g.1.1)))) := n_leads' V3 (TV.hsp hp) (TV.vw _ hm) ha c
        unfold f_Mod_act
        simp only [am_let]
        rw [nI_l (by omega), nI_l (by omega), a1, Option.bind_some]
        simp only
        rw [c, if_pos (show nI 0 = 0 from rfl), b1, Option.bind_some, e40, n_wr (by omega) (by decide), Option.bind_some, d1, Option.bind_some, e35, n_rd (by omega) (by decide), Option.bind_some, rd_lit (by decide) (by decide), Option.bind_some, V3.sp hp, V3.ho, n_spanIn V3 (by have := V3.hH; omega), Option.bind_some, el, Option.bind_some]
        exact ⟨_, rfl, d2, w.1.tr d3⟩
    · have h4 : hs g.1.1 g.1.2.1 p act < 4 := hi_lt
      refine st_same v T ((-10 : Int32) - nI (hs g.1.1 g.1.2.1 p act)) ?_ (fun h' M => ?_)
      · unfold f_Top_act
        rw [n_stHind TV.tX hp ha, Option.bind_some, if_neg (show ¬ nI _ = (0 : Int32) from fun q => c ((nI_eq (b := 0) (by omega) (by decide)).mp q))]
      · obtain ⟨k0, MV⟩ := s0M M v hb
        obtain ⟨h1, a1, a2⟩ := n_whyTold MV hp ha
        unfold f_Mod_act
        simp only [am_let]
        rw [nI_l (by omega), nI_l (by omega), a1, Option.bind_some]
        simp only
        rw [if_neg (show ¬ nI _ = (0 : Int32) from fun q => c ((nI_eq (b := 0) (by omega) (by decide)).mp q))]
        exact ⟨_, rfl, k0.tr (a2.keM (by decide))⟩
  · refine st_same v T ((-10 : Int32) - 1) ?_ (fun h' M => ?_)
    · unfold f_Top_act
      rw [n_stHind' TV.tX q, Option.bind_some, if_neg (by decide)]
    · obtain ⟨k0, MV⟩ := s0M M v hb
      unfold f_Mod_act
      simp only [am_let]
      rw [n_whyTold' MV q, Option.bind_some]
      simp only
      rw [if_neg (by decide)]
      exact ⟨_, rfl, k0⟩
/-! fog -/
def sFog (s : sS) (f : Nat) : sS := ((sH s, f, sD s), s.2)
theorem ok_fog (b : Nat) (hb : b ≤ 90000) (x : Int32) : ok2 b (f_Top_fog x) (f_Mod_fog x) := by
  refine ok2_st (fun g h v T M0 => ?_)
  have hr := v.1
  rcases rng2 (n := 99) (by decide) (show (99 : Int64) = lN 99 from rfl) x with ⟨f, hf, rfl, e⟩ | ⟨q, e⟩
  · have hv' : vS (b + 48) g.1.1 (sFog g.1.2.1 f) := by
      have v2 := v.2.1.up (show b ≤ b + 48 by omega)
      exact ⟨v2.1, hf, v2.2.2⟩
    refine ⟨nI (sF g.1.2.1), gS' (gP g) (sFog g.1.2.1 f), v.push hv', ?_, fun h' M => ?_⟩
    · obtain ⟨h1, c1, c2, c3, c4⟩ := n_will v T
      have T1 : tS 10 g.1.1 g.1.2.1 h1 := c2.2.1
      have T2 : tS 10 g.1.1 (sFog g.1.2.1 f) (am_sI h1 10 1 (nI f)) := by
        refine ⟨?_, ?_, ?_, fun k hk => ?_, fun q hq => ⟨?_, ?_⟩⟩
        · rw [sI_row, if_pos rfl, up_n (by decide)]; exact T1.1
        · rw [sI_row, if_pos rfl, up_s]; rfl
        · rw [sI_row, if_pos rfl, up_n (by decide)]; exact T1.2.2.1
        · rw [sI_row, if_neg (by decide)]; exact T1.2.2.2.1 k hk
        · rw [sI_row, if_neg (by decide)]; exact (T1.2.2.2.2 q hq).1
        · rw [sI_row, if_neg (by decide)]; exact (T1.2.2.2.2 q hq).2
      unfold f_Top_fog
      simp only [am_let]
      rw [if_neg (nI_pos (by omega)), if_pos (show nI f ≤ (99 : Int32) from nI_le (b := 99) hf (by decide)), c1, Option.bind_some, T1.2.1]
      exact ⟨_, rfl, c2.setS c3.1 c3.2 (e_sI (by omega)) (fun _ _ => rfl) id T2, c4.tr (frT_sI (by omega))⟩
    · obtain ⟨k0, MV⟩ := s0M M v hb
      obtain ⟨h2, b1, b2, b3, b4⟩ := m_keep M k0
      have V0 : mV (h'.2.1 137) g.1.1 g.1.2.1 := M.mV v (by omega)
      have w : mW h' (am_sI h2 137 27 (nI f)) := b2.mW.tr (mW.sI (by omega))
      have rr : ∀ j, j ≠ 27 → (am_sI h2 137 27 (nI f)).2.1 137 j = h'.2.1 137 j := fun j hj => by rw [sI_row, if_pos rfl, up_n hj, b4]
      have M2 : mS ((am_sI h2 137 27 (nI f)).2.1 137) 26 g.1.1 (sFog g.1.2.1 f) := by
        refine ⟨?_, ?_, ?_, fun k hk => ?_, fun q hq => ⟨?_, ?_⟩⟩
        · rw [rr _ (by omega)]; exact V0.ho
        · rw [sI_row, if_pos rfl, up_s]; rfl
        · rw [rr _ (by omega)]; exact V0.dn
        · rw [rr _ (by omega)]; exact V0.wk hk
        · rw [rr _ (by omega)]; exact V0.sp hq
        · rw [rr _ (by omega)]; exact V0.ac hq
      obtain ⟨h3, d1, d2, d3, d4, d5⟩ := n_notes (s := sFog g.1.2.1 f) v M w (fun j hj => by rw [sI_row, if_neg (by decide)]; exact b3 j hj) M2
      have e143 : h3.2.1 143 1 = nI (sF g.1.2.1) := by rw [d4 143 (by decide), sI_row, if_neg (by decide), b3 1 (by decide)]; exact V0.fo
      unfold f_Mod_fog
      simp only [am_let]
      rw [e, Option.bind_some, if_tt, b1, Option.bind_some, wr_lit (by decide) (by decide), Option.bind_some, d1, Option.bind_some, rd_lit (by decide) (by decide), Option.bind_some, e143]
      exact ⟨_, rfl, d2, w.1.tr d3⟩
  · refine st_same v T (-3) ?_ (fun h' M => ?_)
    · unfold f_Top_fog
      by_cases d : x < 0
      · rw [if_pos d]
      · rcases q with q | q
        · exact absurd q d
        · rw [if_neg d, if_neg (show ¬ x ≤ (99 : Int32) from q)]
    · unfold f_Mod_fog
      simp only [am_let]
      rw [e, Option.bind_some, if_ff]
      exact ⟨_, rfl, keM.s0 (by decide)⟩
/-! tell -/
theorem n_hasHour {h : am_H} {r : sR} {s : sS} (V : tV h r s) (x : Int32) : (∃ k, k < rW r ∧ x = nI k ∧ f_River_hasHour 1 x h = some true ∧ ∀ h', f_Mod_within x.toInt64 0 ((nI (rW r) - (1 : Int32)).toInt64) h' = some true) ∨ (f_River_hasHour 1 x h = some false ∧ ∀ h', f_Mod_within x.toInt64 0 ((nI (rW r) - (1 : Int32)).toInt64) h' = some false) := by
  have hW := V.hW
  unfold f_River_hasHour
  rw [V.w]
  rcases n_win (x := x) (n := rW r) (h := am_e) (by omega) with ⟨k, hk, rfl, e⟩ | ⟨q, e⟩
  · exact .inl ⟨k, hk, rfl, by rw [if_neg (nI_pos (by omega)), if_neg (nI_ge hk (by omega))], fun _ => e⟩
  · refine .inr ⟨?_, fun _ => e⟩
    by_cases d : x < 0
    · rw [if_pos d]
    · rcases q with q | q
      · exact absurd q d
      · rw [if_neg d, if_pos q]
theorem n_gapOr {h : am_H} {r : sR} {s : sS} (V : tV h r s) (y : Int32) : (∃ l, (∀ g, l = some g → g < rG r) ∧ y = oI l ∧ (y = -1 ∨ f_River_hasGap 1 y h = some true) ∧ ∀ h', f_Mod_within y.toInt64 (-1) ((nI (rG r) - (1 : Int32)).toInt64) h' = some true) ∨ (y ≠ -1 ∧ f_River_hasGap 1 y h = some false ∧ ∀ h', f_Mod_within y.toInt64 (-1) ((nI (rG r) - (1 : Int32)).toInt64) h' = some false) := by
  have hG := V.hG
  by_cases c : y = -1
  · subst c
    refine .inl ⟨none, (fun g hg => by cases hg), rfl, .inl rfl, fun h' => ?_⟩
    rw [n_within]
    congr 1
    apply decide_eq_true
    refine ⟨by decide, ?_⟩
    have : ∀ n, n ≤ 4 → 2 ≤ n → (-1 : Int32).toInt64 ≤ (nI n - (1 : Int32)).toInt64 := by decide
    exact this _ hG.2 hG.1
  · unfold f_River_hasGap
    rw [V.g]
    rcases n_win (x := y) (n := rG r) (h := am_e) (by omega) with ⟨k, hk, rfl, e⟩ | ⟨q, e⟩
    · refine .inl ⟨some k, (fun g hg => by cases hg; exact hk), rfl, .inr (by rw [if_neg (nI_pos (by omega)), if_neg (nI_ge hk (by omega))]), fun h' => ?_⟩
      rw [n_within] at e ⊢
      have e' := Option.some.inj e
      rw [decide_eq_true_eq] at e'
      congr 1
      apply decide_eq_true
      exact ⟨Int64.le_trans (by decide) e'.1, e'.2⟩
    · refine .inr ⟨c, ?_, fun h' => ?_⟩
      · by_cases d : y < 0
        · rw [if_pos d]
        · rcases q with q | q
          · exact absurd q d
          · rw [if_neg d, if_pos q]
      · rw [n_within] at e ⊢
        have e' := Option.some.inj e
        rw [decide_eq_false_iff_not] at e'
        congr 1
        apply decide_eq_false
        rintro ⟨a1, a2⟩
        refine e' ⟨?_, a2⟩
        rw [Int64.le_iff_toInt_le] at a1 ⊢
        rw [Int32.toInt_toInt64] at a1 ⊢
        have e1 : (-1 : Int64).toInt = -1 := by decide
        have e0 : (0 : Int64).toInt = 0 := by decide
        have hy : y.toInt ≠ -1 := fun z => c (Int32.toInt_inj.mp (by rw [z]; rfl))
        omega
theorem ok_tell (b : Nat) (hb : b ≤ 90000) (x y : Int32) : ok2 b (f_Top_tell x y) (f_Mod_tell x y) := by
  refine ok2_st (fun g h v T M0 => ?_)
  have TV := T.tV v (by omega)
  have hW := TV.hW
  have hr := v.1
  rcases n_hasHour TV x with ⟨k, hk, rfl, e1, e2⟩ | ⟨e1, e2⟩
  · rcases n_gapOr TV y with ⟨l, hl, rfl, e3, e4⟩ | ⟨c, e3, e4⟩
    · have hv' : vS (b + 48) g.1.1 (sWk g.1.2.1 (va_up (sW g.1.2.1) k l)) := by
        have v2 := v.2.1.up (show b ≤ b + 48 by omega)
        exact ⟨v2.1, v2.2.1, v2.2.2.1, vW.up (r := g.1.1) v2.2.2.2.1 hl, v2.2.2.2.2⟩
      refine ⟨oI (sW g.1.2.1 k), gS' (gP g) (sWk g.1.2.1 (va_up (sW g.1.2.1) k l)), v.push hv', ?_, fun h' M => ?_⟩
      · obtain ⟨h1, c1, c2, c3, c4⟩ := n_will v T
        have T1 : tS 10 g.1.1 g.1.2.1 h1 := c2.2.1
        have T2 : tS 10 g.1.1 (sWk g.1.2.1 (va_up (sW g.1.2.1) k l)) (am_sI h1 11 k (oI l)) := by
          refine ⟨?_, ?_, ?_, fun j hj => ?_, fun q hq => ⟨?_, ?_⟩⟩
          · rw [sI_row, if_neg (by decide)]; exact T1.1
          · rw [sI_row, if_neg (by decide)]; exact T1.2.1
          · rw [sI_row, if_neg (by decide)]; exact T1.2.2.1
          · rw [sI_row, if_pos rfl]
            show _ = oI (va_up (sW g.1.2.1) k l j)
            by_cases d : j = k
            · subst d; rw [up_s, up_s]
            · rw [up_n d, up_n d]; exact T1.2.2.2.1 j hj
          · rw [sI_row, if_neg (by decide)]; exact (T1.2.2.2.2 q hq).1
          · rw [sI_row, if_neg (by decide)]; exact (T1.2.2.2.2 q hq).2
        have body : ((f_Top_willChange h).bind fun q4 => (am_rd (q4.2.1 11) 6 (nI k)).bind fun x5 => (am_wr q4 11 6 (nI k) (oI l)).bind fun h6 => some (x5, h6)) = some (oI (sW g.1.2.1 k), am_sI h1 11 k (oI l)) := by
          rw [c1, Option.bind_some, n_rd (by omega) (by decide), Option.bind_some, n_wr (by omega) (by decide), Option.bind_some, T1.2.2.2.1 k hk]
        refine ⟨am_sI h1 11 k (oI l), ?_, c2.setS c3.1 c3.2 (e_sI (by omega)) (fun _ _ => rfl) id T2, c4.tr (frT_sI (by omega))⟩
        unfold f_Top_tell
        rw [e1, Option.bind_some, if_tt]
        by_cases d : oI l = -1
        · rw [if_pos d]; exact body
        · rcases e3 with e3 | e3
          · exact absurd e3 d
          · rw [if_neg d, e3, Option.bind_some, if_tt]; exact body
      · obtain ⟨k0, MV⟩ := s0M M v hb
        obtain ⟨h2, b1, b2, b3, b4⟩ := m_keep M k0
        have V0 : mV (h'.2.1 137) g.1.1 g.1.2.1 := M.mV v (by omega)
        have e29 : (29 : Int32) + nI k = nI (29 + k) := nI_add 29 k
        have e3k : (3 : Int32) + nI k = nI (3 + k) := nI_add 3 k
        have w : mW h' (am_sI h2 137 (29 + k) (oI l)) := b2.mW.tr (mW.sI (by omega))
        have V2 : mV ((am_sI h2 137 (29 + k) (oI l)).2.1 137) g.1.1 (sWk g.1.2.1 (va_up (sW g.1.2.1) k l)) := by
          rw [sI_row, if_pos rfl, b4]
          exact V0.up hk hl
        obtain ⟨h3, d1, d2, d3, d4, d5⟩ := n_notes (s := sWk g.1.2.1 (va_up (sW g.1.2.1) k l)) v M w (fun j hj => by rw [sI_row, if_neg (by decide)]; exact b3 j hj) V2.2.2.2
        have e143 : h3.2.1 143 (3 + k) = oI (sW g.1.2.1 k) := by
          rw [d4 143 (by decide), sI_row, if_neg (by decide), b3 (3 + k) (by omega), show 26 + (3 + k) = 29 + k by omega]; exact V0.wk hk
        unfold f_Mod_tell
        simp only [am_let]
        rw [rd_lit (by decide) (by decide), Option.bind_some, MV.w, e2, Option.bind_some, if_tt, rd_lit (by decide) (by decide), Option.bind_some, MV.g, e4, Option.bind_some, if_tt, b1, Option.bind_some, e29, n_wr (by omega) (by decide), Option.bind_some, d1, Option.bind_some, e3k, n_rd (by omega) (by decide), Option.bind_some, e143]
        exact ⟨_, rfl, d2, w.1.tr d3⟩
    · refine st_same v T (-2) ?_ (fun h' M => ?_)
      · unfold f_Top_tell
        rw [e1, Option.bind_some, if_tt, if_neg c, e3, Option.bind_some, if_ff]
      · obtain ⟨k0, MV⟩ := s0M M v hb
        unfold f_Mod_tell
        simp only [am_let]
        rw [rd_lit (by decide) (by decide), Option.bind_some, MV.w, e2, Option.bind_some, if_tt, rd_lit (by decide) (by decide), Option.bind_some, MV.g, e4, Option.bind_some, if_ff]
        exact ⟨_, rfl, k0⟩
  · refine st_same v T (-2) ?_ (fun h' M => ?_)
    · unfold f_Top_tell
      rw [e1, Option.bind_some, if_ff]
    · obtain ⟨k0, MV⟩ := s0M M v hb
      unfold f_Mod_tell
      simp only [am_let]
      rw [rd_lit (by decide) (by decide), Option.bind_some, MV.w, e2, Option.bind_some, if_ff]
      exact ⟨_, rfl, k0⟩
