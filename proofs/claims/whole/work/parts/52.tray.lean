-- deps: 31.law 32.nat 33.bit 34.spec 35.riv 36.let 37.mod 38.mod 39.it 40.ahead 41.rel 42.ask 43.why 44.meet 45.err 46.err 47.wk 50.ways 51.way
/-! ===== calls that change what is kept ===== -/
theorem ok2_st {α : Type} {b : Nat} {t m : am_H → Option (α × am_H)} (H : ∀ g h, VG b g → RT g h → RM g h → ∃ x g', VG (b + 48) g' ∧ (∃ h', t h = some (x, h') ∧ RT g' h' ∧ frT h h') ∧ (∀ h', RM g h' → ∃ h'', m h' = some (x, h'') ∧ RM g' h'' ∧ frM h' h'')) : ok2 b t m := by
  intro h ⟨g, v, T, M⟩
  obtain ⟨x, g', v', ⟨h', e1, T', k1⟩, e2⟩ := H g h v T M
  obtain ⟨h'', e3, M'', k3⟩ := e2 h' (M.cg k1)
  exact ⟨x, h', h'', e1, e3, g', v', T'.cg k3, M''⟩
def gT (g : sG) (i : Nat) (q : Nat × Nat × (Nat → Int64)) : sG := (g.1, g.2.1, g.2.2.1, g.2.2.2.1, va_up g.2.2.2.2 i (some q))
theorem VG.tray {b : Nat} {g : sG} {i : Nat} {q : Nat × Nat × (Nat → Int64)} (v : VG b g) (h1 : q.1 ≤ 3) (h2 : q.2.1 ≤ 40) : VG (b + 48) (gT g i q) := by
  have v2 := v.up (show b ≤ b + 48 by omega)
  refine ⟨v2.1, v2.2.1, v2.2.2.1, v2.2.2.2.1, v2.2.2.2.2.1, v2.2.2.2.2.2.1, v2.2.2.2.2.2.2.1, fun j hj x hx => ?_⟩
  have hx' : va_up g.2.2.2.2 i (some q) j = some x := hx
  by_cases c : j = i
  · subst c
    rw [up_s] at hx'
    cases hx'
    exact ⟨h1, h2⟩
  · rw [up_n c] at hx'
    exact v2.2.2.2.2.2.2.2 j hj x hx'
theorem RT.tray {g : sG} {h h' : am_H} {i : Nat} {q : Nat × Nat × (Nat → Int64)} (R : RT g h) (e : ∀ a, ¬ scr a → a ≠ 102 + 2 * i → h'.2.1 a = h.2.1 a) (eJ : ∀ j, j < 4 → j ≠ i → h'.2.2.1 (103 + 2 * j) = h.2.2.1 (103 + 2 * j)) (rf : tRef h → tRef h') (hi : i < 4)
    (c1 : h'.2.1 (102 + 2 * i) 0 = 1) (c2 : h'.2.1 (102 + 2 * i) 1 = nI q.2.1) (c3 : h'.2.1 (102 + 2 * i) 2 = nI q.1) (c4 : ∀ k, k < q.2.1 → h'.2.2.1 (103 + 2 * i) k = q.2.2 k) : RT (gT g i q) h' := by
  obtain ⟨R1, R2, ⟨e0, q1, q2, q3, q4⟩, ⟨m, i1, i2, i3⟩, ⟨t1, t2⟩, ⟨f1, f2⟩, R7, R8, R9, R10⟩ := R
  have s91 : ¬ scr 91 := by unfold scr; omega
  refine ⟨R1.cg (fun a _ _ => e a (by unfold scr; omega) (by omega)), R2.cg (fun a _ _ => e a (by unfold scr; omega) (by omega)), ⟨_, q1, ?_, ?_, fun i hi => (q4 i hi).cg (fun a _ _ => e a (by unfold scr; omega) (by omega))⟩, ⟨m, i1, ?_, fun j hj => ⟨(i3 j hj).1, fun q hq => ⟨((i3 j hj).2 q hq).1.cg (fun a _ _ => e a (by unfold scr; omega) (by omega)), ((i3 j hj).2 q hq).2.cg (fun a _ _ => e a (by unfold scr; omega) (by omega))⟩⟩⟩, ⟨?_, ?_⟩, ⟨?_, ?_⟩, ?_, ?_, ?_, rf R10⟩
  · rw [e 18 (by unfold scr; omega) (by omega)]; exact q2
  · rw [e 18 (by unfold scr; omega) (by omega)]; exact q3
  · rw [e 0 (by unfold scr; omega) (by omega)]; exact i2
  · rw [e 0 (by unfold scr; omega) (by omega)]; exact t1
  · rw [e 60 (by unfold scr; omega) (by omega)]; exact t2
  · rw [e 61 (by unfold scr; omega) (by omega)]; exact f1
  · rw [e 61 (by unfold scr; omega) (by omega)]; exact f2
  · intro j hj
    show (va_up g.2.2.2.2 i (some q) j = none → _) ∧ ∀ x, va_up g.2.2.2.2 i (some q) j = some x → _
    by_cases c : j = i
    · subst c
      rw [up_s]
      refine ⟨(fun z => by cases z), fun x hx => ?_⟩
      cases hx
      exact ⟨c1, c2, c3, c4⟩
    · rw [up_n c, e (102 + 2 * j) (by unfold scr; omega) (by omega), eJ j hj c]
      exact R7 j hj
  · unfold tBest; rw [e 91 s91 (by omega), e 93 (by unfold scr; omega) (by omega)]; exact R8
  · unfold tGood; rw [e 91 s91 (by omega)]; exact R9
theorem RM.tray {g : sG} {h h' : am_H} {i : Nat} {q : Nat × Nat × (Nat → Int64)} (R : RM g h) (e : ∀ a, 137 ≤ a ∧ a ≤ 139 → h'.2.1 a = h.2.1 a) (e5 : h'.2.1 136 5 = h.2.1 136 5) (e13 : h'.2.1 136 13 = h.2.1 136 13) (e14 : h'.2.1 136 14 = h.2.1 136 14)
    (t1 : ∀ j, j ≠ i → h'.2.1 158 j = h.2.1 158 j) (t2 : ∀ j, j ≠ i → h'.2.1 159 j = h.2.1 159 j) (t3 : ∀ j, j < 4 → j ≠ i → ∀ k, k < 40 → h'.2.2.1 160 (40 * j + k) = h.2.2.1 160 (40 * j + k)) (hq : ∀ j, j < 4 → ∀ x, g.2.2.2.2 j = some x → x.2.1 ≤ 40)
    (c1 : h'.2.1 158 i = nI q.1) (c2 : h'.2.1 159 i = nI q.2.1) (c3 : ∀ k, k < q.2.1 → h'.2.2.1 160 (40 * i + k) = q.2.2 k) : RM (gT g i q) h' := by
  obtain ⟨M1, M2, M3, M4, M5, M6, M7⟩ := R
  refine ⟨?_, ?_, ?_, ?_, ?_, ?_, ?_⟩
  · rw [e 137 (by omega)]; exact M1
  · rw [e 137 (by omega)]; exact M2
  · rw [e 137 (by omega)]; exact M3
  · unfold mImg; rw [e 137 (by omega), e 138 (by omega)]; exact M4
  · unfold mTape; rw [e 139 (by omega), e5]; exact M5
  · unfold mFlt; rw [e13, e14]; exact M6
  · intro j hj
    show (va_up g.2.2.2.2 i (some q) j = none → _) ∧ ∀ x, va_up g.2.2.2.2 i (some q) j = some x → _
    by_cases c : j = i
    · subst c
      rw [up_s]
      refine ⟨(fun z => by cases z), fun x hx => ?_⟩
      cases hx
      exact ⟨c1, c2, c3⟩
    · rw [up_n c, t1 j c, t2 j c]
      refine ⟨(M7 j hj).1, fun x hx => ?_⟩
      obtain ⟨a1, a2, a3⟩ := (M7 j hj).2 x hx
      exact ⟨a1, a2, fun k hk => by rw [t3 j hj c k (by have := hq j hj x hx; omega)]; exact a3 k hk⟩
/-! trays -/
theorem tr4 (x : Int32) : (∃ i, i < 4 ∧ x = nI i ∧ (∀ h, f_Top_isTray x h = some true) ∧ ∀ h, f_Mod_within x.toInt64 0 3 h = some true) ∨ ((∀ h, f_Top_isTray x h = some false) ∧ ∀ h, f_Mod_within x.toInt64 0 3 h = some false) := by
  rcases rng2 (n := 3) (by decide) (show (3 : Int64) = lN 3 from rfl) x with ⟨k, hk, rfl, e⟩ | ⟨q, e⟩
  · refine .inl ⟨k, by omega, rfl, fun h => ?_, e⟩
    unfold f_Top_isTray
    rw [if_neg (nI_pos (by omega)), if_neg (show ¬ (4 : Int32) ≤ nI k from nI_ge (b := 4) (by omega) (by decide))]
  · refine .inr ⟨fun h => ?_, e⟩
    unfold f_Top_isTray
    by_cases d : x < 0
    · rw [if_pos d]
    · rw [if_neg d]
      rcases q with q | q
      · exact absurd q d
      · have : (4 : Int32) ≤ x := by
          rw [Int32.le_iff_toInt_le] at q ⊢
          have e1 : (nI 3).toInt = 3 := by decide
          have e2 : (4 : Int32).toInt = 4 := by decide
          omega
        rw [if_pos this]
def ctv (k : Nat) (v : Int64) : Int64 := if k = 0 then v.toInt32.toInt8.toInt32.toInt64 else if k = 1 then v.toInt32.toInt16.toInt32.toInt64 else if k = 2 then v.toInt32.toInt64 else v
theorem n_tcut {o k : Nat} {v : Int64} {h : am_H} (hk : k ≤ 3) (e : h.2.1 o 2 = nI k) : f_Tray_cut o v h = some (ctv k v) := by
  unfold f_Tray_cut ctv
  rw [e]
  rcases (show k = 0 ∨ k = 1 ∨ k = 2 ∨ k = 3 by omega) with rfl | rfl | rfl | rfl <;> rfl
theorem n_mcut {k : Nat} {v : Int64} {h : am_H} (hk : k ≤ 3) : f_Mod_cut v (nI k) h = some (ctv k v) := by
  unfold f_Mod_cut ctv
  rcases (show k = 0 ∨ k = 1 ∨ k = 2 ∨ k = 3 by omega) with rfl | rfl | rfl | rfl <;> rfl
theorem n_put {o k j : Nat} {v : Int64} {h : am_H} (hk : k ≤ 3) (e : h.2.1 o 2 = nI k) (hj : j < 40) : f_Tray_put o (nI j) v h = some (ctv k v, am_sJ h (o + 1) j (ctv k v)) := by
  unfold f_Tray_put f_Tray_at
  rw [if_neg (nI_pos (by omega)), if_neg (show ¬ Int32.ofNat 40 ≤ nI j from nI_ge (b := 40) hj (by decide)), n_tcut hk e, Option.bind_some, n_wrJ hj (by decide), Option.bind_some, Option.bind_some, if_neg (nI_pos (by omega)), if_neg (show ¬ Int32.ofNat 40 ≤ nI j from nI_ge (b := 40) hj (by decide)), n_rd hj (by decide), Option.bind_some, Option.bind_some, sJ_row, if_pos rfl, up_s]
theorem RT.tr {g : sG} {h : am_H} (R : RT g h) : tTry g h := R.2.2.2.2.2.2.1
theorem RM.tr {g : sG} {h : am_H} (R : RM g h) : mTry g h := R.2.2.2.2.2.2
theorem VG.tr {b : Nat} {g : sG} (v : VG b g) : ∀ i, i < 4 → ∀ q, g.2.2.2.2 i = some q → q.1 ≤ 3 ∧ q.2.1 ≤ 40 := v.2.2.2.2.2.2.2
theorem rf_id {h h' : am_H} (e : h'.2.2.2 = h.2.2.2) : tRef h → tRef h' := by unfold tRef am_rf; rw [e]; exact id
theorem ok_numbers (b : Nat) (hb : b ≤ 90000) (x y z : Int32) : ok2 b (f_Top_numbers x y z) (f_Mod_numbers x y z) := by
  refine ok2_st (fun g h v T M0 => ?_)
  have same : ∀ c : Int32, f_Top_numbers x y z h = some (c, h) → (∀ h' : am_H, f_Mod_numbers x y z h' = some (c, am_sI h' 136 0 0)) → ∃ x' g', VG (b + 48) g' ∧ (∃ h', f_Top_numbers x y z h = some (x', h') ∧ RT g' h' ∧ frT h h') ∧ (∀ h', RM g h' → ∃ h'', f_Mod_numbers x y z h' = some (x', h'') ∧ RM g' h'' ∧ frM h' h'') := fun c e1 e2 =>
    ⟨c, g, v.up (by omega), ⟨h, e1, T, frT.rf⟩, fun h' M => ⟨_, e2 h', M.ke (keM.s0 (by decide)), (keM.s0 (h := h') (j := 0) (x := 0) (by decide)).1⟩⟩
  rcases tr4 x with ⟨i, hi, rfl, e1, e2⟩ | ⟨e1, e2⟩
  · rcases rng2 (n := 3) (by decide) (show (3 : Int64) = lN 3 from rfl) y with ⟨k, hk, rfl, e3⟩ | ⟨q, e3⟩
    · rcases rng2 (n := 40) (by decide) (show (40 : Int64) = lN 40 from rfl) z with ⟨n, hn, rfl, e4⟩ | ⟨q, e4⟩
      · refine ⟨0, gT g i (k, n, fun _ => 0), v.tray hk hn, ?_, fun h' M => ?_⟩
        · obtain ⟨h4, g1, g2, g3, g4, g5, g6, g7⟩ := n_fillJ (h := am_sI (am_sI (am_sI h (102 + 2 * i) 0 1) (102 + 2 * i) 2 (nI k)) (102 + 2 * i) 1 (nI n)) (o := 102 + 2 * i + 1) (L := 40) (v := 0) (by decide)
          unfold f_Top_numbers f_Tray_empty
          simp only [am_let]
          rw [e1, Option.bind_some, if_tt, if_neg (nI_pos (by omega)), if_pos (show nI k ≤ (3 : Int32) from nI_le (b := 3) hk (by decide)), if_neg (nI_pos (by omega)), if_pos (show nI n ≤ (40 : Int32) from nI_le (b := 40) hn (by decide)), n_el hi (by decide), Option.bind_some, g1]
          have hrow : ∀ a, a ≠ 102 + 2 * i → h4.2.1 a = h.2.1 a := fun a ha => by rw [g3, sI_row, if_neg ha, sI_row, if_neg ha, sI_row, if_neg ha]
          have hr1 : h4.2.1 (102 + 2 * i) = va_up (va_up (va_up (h.2.1 (102 + 2 * i)) 0 1) 2 (nI k)) 1 (nI n) := by
            rw [g3]; simp only [sI_row, if_true]
          refine ⟨h4, rfl, T.tray (fun a _ ha => hrow a ha) (fun j hj hji => by rw [g5 _ (by omega)]; rfl) (rf_id g4) hi ?_ ?_ ?_ (fun j hj => ?_), fun a ha => ⟨hrow a (by omega), by rw [g5 _ (by omega)]; rfl⟩⟩
          · rw [hr1, up_n (by decide), up_n (by decide), up_s]
          · rw [hr1, up_s]
          · rw [hr1, up_n (by decide), up_s]
          · rw [show 103 + 2 * i = 102 + 2 * i + 1 by omega]
            have hj' : j < n := hj
            exact g6 j (by omega)
        · unfold f_Mod_numbers
          simp only [am_let]
          rw [e2, Option.bind_some, if_tt, e3, Option.bind_some, if_tt, e4, Option.bind_some, if_tt, n_wr (by omega) (by decide), Option.bind_some, n_wr (by omega) (by decide), Option.bind_some]
          have e40 : ∀ j, (40 : Int32) * nI i + nI j = nI (40 * i + j) := fun j => by
            have : (40 : Int32) * nI i = nI (40 * i) := nI_mul 40 i
            rw [this, nI_add]
          obtain ⟨c, f1, f2, f3, f4, f5⟩ := lpc2 (fun m (a1 : Int32) (a2 : am_H) => f_Mod_numbers_L64 (nI i) (nI k) (nI n) m a1 a2) n
            (fun t a1 a2 => a1 = nI t ∧ a2.2.1 = (am_sI (am_sI (am_sI h' 136 0 0) 158 i (nI k)) 159 i (nI n)).2.1 ∧ a2.2.2.2 = h'.2.2.2 ∧ (∀ a, a ≠ 160 → a2.2.2.1 a = h'.2.2.1 a) ∧ ∀ j, (j < t → a2.2.2.1 160 (40 * i + j) = 0) ∧ ((j < 40 * i ∨ 40 * i + n ≤ j) → a2.2.2.1 160 j = h'.2.2.1 160 j))
            (fun c => c.2.2.1 = (am_sI (am_sI (am_sI h' 136 0 0) 158 i (nI k)) 159 i (nI n)).2.1 ∧ c.2.2.2.2 = h'.2.2.2 ∧ (∀ a, a ≠ 160 → c.2.2.2.1 a = h'.2.2.1 a) ∧ ∀ j, (j < n → c.2.2.2.1 160 (40 * i + j) = 0) ∧ ((j < 40 * i ∨ 40 * i + n ≤ j) → c.2.2.2.1 160 j = h'.2.2.1 160 j))
            (fun m t a1 a2 ht hI => by
              obtain ⟨i1, i2, i3, i4, i5⟩ := hI
              subst i1
              rw [f_Mod_numbers_L64, if_neg (nI_ge ht (by omega)), e40, n_wrJ (by omega) (by decide), Option.bind_some]
              refine ⟨_, _, rfl, nI_up, i2, i3, fun a ha => by rw [sJ_row, if_neg ha]; exact i4 a ha, fun j => ⟨fun hj => ?_, fun hj => ?_⟩⟩
              · rw [sJ_row, if_pos rfl]
                by_cases c : j = t
                · subst c; rw [up_s]
                · rw [up_n (by omega)]; exact (i5 j).1 (by omega)
              · rw [sJ_row, if_pos rfl, up_n (by omega)]; exact (i5 j).2 hj)
            (fun m a1 a2 hI => by
              obtain ⟨i1, i2⟩ := hI
              subst i1
              rw [f_Mod_numbers_L64, if_pos (nI_le (Nat.le_refl _) (by omega))]
              exact ⟨_, rfl, i2⟩) (by unfold am_fu; omega) 0 (am_sI (am_sI (am_sI h' 136 0 0) 158 i (nI k)) 159 i (nI n)) ⟨rfl, rfl, rfl, fun _ _ => rfl, fun j => ⟨fun hj => by omega, fun _ => rfl⟩⟩
          rw [f1, Option.bind_some]
          have hrow : ∀ a, a ≠ 136 → a ≠ 158 → a ≠ 159 → c.2.2.1 a = h'.2.1 a := fun a h1 h2 h3 => by rw [f2, sI_row, if_neg h3, sI_row, if_neg h2, sI_row, if_neg h1]
          have r136 : c.2.2.1 136 = va_up (h'.2.1 136) 0 0 := by rw [f2]; rfl
          have r158 : c.2.2.1 158 = va_up (h'.2.1 158) i (nI k) := by rw [f2]; rfl
          have r159 : c.2.2.1 159 = va_up (h'.2.1 159) i (nI n) := by rw [f2]; rfl
          refine ⟨_, rfl, M.tray (fun a ha => hrow a (by omega) (by omega) (by omega)) ?_ ?_ ?_ (fun j hj => ?_) (fun j hj => ?_) (fun j hj hji k hk => (f5 _).2 (by omega)) (fun j hj x hx => (v.tr j hj x hx).2) ?_ ?_ (fun j hj => (f5 j).1 hj), ⟨fun a ha => ⟨hrow a (by omega) (by omega) (by omega), f4 a (by omega)⟩, f3⟩⟩
          · rw [r136, up_n (by decide)]
          · rw [r136, up_n (by decide)]
          · rw [r136, up_n (by decide)]
          · rw [r158, up_n hj]
          · rw [r159, up_n hj]
          · rw [r158, up_s]
          · rw [r159, up_s]
      · refine same (-3) ?_ (fun h' => ?_)
        · unfold f_Top_numbers
          rw [e1, Option.bind_some, if_tt, if_neg (nI_pos (by omega)), if_pos (show nI k ≤ (3 : Int32) from nI_le (b := 3) hk (by decide))]
          by_cases d : z < 0
          · rw [if_pos d]
          · rcases q with q | q
            · exact absurd q d
            · rw [if_neg d, if_neg (show ¬ z ≤ (40 : Int32) from q)]
        · unfold f_Mod_numbers
          simp only [am_let]
          rw [e2, Option.bind_some, if_tt, e3, Option.bind_some, if_tt, e4, Option.bind_some, if_ff]
    · refine same (-2) ?_ (fun h' => ?_)
      · unfold f_Top_numbers
        rw [e1, Option.bind_some, if_tt]
        by_cases d : y < 0
        · rw [if_pos d]
        · rcases q with q | q
          · exact absurd q d
          · rw [if_neg d, if_neg (show ¬ y ≤ (3 : Int32) from q)]
      · unfold f_Mod_numbers
        simp only [am_let]
        rw [e2, Option.bind_some, if_tt, e3, Option.bind_some, if_ff]
  · refine same (-2) ?_ (fun h' => ?_)
    · unfold f_Top_numbers
      rw [e1, Option.bind_some, if_ff]
    · unfold f_Mod_numbers
      simp only [am_let]
      rw [e2, Option.bind_some, if_ff]
/-- nothing changes -/
theorem st_same {α : Type} {b : Nat} {g : sG} {h : am_H} {t m : am_H → Option (α × am_H)} (v : VG b g) (T : RT g h) (c : α) (e1 : t h = some (c, h)) (e2 : ∀ h' : am_H, RM g h' → ∃ h'', m h' = some (c, h'') ∧ keM h' h'') :
    ∃ x' g', VG (b + 48) g' ∧ (∃ h', t h = some (x', h') ∧ RT g' h' ∧ frT h h') ∧ (∀ h', RM g h' → ∃ h'', m h' = some (x', h'') ∧ RM g' h'' ∧ frM h' h'') :=
  ⟨c, g, v.up (by omega), ⟨h, e1, T, frT.rf⟩, fun h' M => by
    obtain ⟨h'', a, k⟩ := e2 h' M
    exact ⟨h'', a, M.ke k, k.1⟩⟩
theorem n_noTray {b : Nat} {g : sG} {h : am_H} {i : Nat} (v : VG b g) (M : RM g h) (hi : i < 4) (e2 : f_Mod_within (nI i).toInt64 0 3 h = some true) : f_Mod_noTray (nI i) h = some (if (g.2.2.2.2 i).isSome then 0 else -6) := by
  unfold f_Mod_noTray
  rw [e2, Option.bind_some, if_tt, n_rd (by omega) (by decide), Option.bind_some]
  cases hg : g.2.2.2.2 i with
  | none => rw [(M.tr i hi).1 hg, if_pos rfl]; rfl
  | some q =>
    have := (v.tr i hi q hg).1
    rw [((M.tr i hi).2 q hg).1, if_neg (nI_nm1 (by omega))]; rfl
theorem ok_write (b : Nat) (hb : b ≤ 90000) (x y : Int32) (z : Int64) : ok2 b (f_Top_write x y z) (f_Mod_write x y z) := by
  refine ok2_st (fun g h v T M0 => ?_)
  rcases tr4 x with ⟨i, hi, rfl, e1, e2⟩ | ⟨e1, e2⟩
  · cases hg : g.2.2.2.2 i with
    | none =>
      refine st_same v T (-6) ?_ (fun h' M => ?_)
      · unfold f_Top_write
        rw [e1, Option.bind_some, if_tt, n_el hi (by decide), Option.bind_some, (T.tr i hi).1 hg, if_pos rfl]
      · have M1 := M.ke (keM.s0 (h := h') (j := 0) (x := 0) (by decide))
        unfold f_Mod_write
        simp only [am_let]
        rw [n_noTray v M1 hi (e2 _), hg, Option.bind_some]
        exact ⟨_, rfl, keM.s0 (by decide)⟩
    | some q =>
      obtain ⟨q1, q2⟩ := v.tr i hi q hg
      obtain ⟨c1, c2, c3, c4⟩ := (T.tr i hi).2 q hg
      by_cases hy : ∃ j, j < q.2.1 ∧ y = nI j
      · obtain ⟨j, hj, rfl⟩ := hy
        refine ⟨ctv q.1 z, gT g i (q.1, q.2.1, va_up q.2.2 j (ctv q.1 z)), v.tray q1 q2, ?_, fun h' M => ?_⟩
        · unfold f_Top_write
          rw [e1, Option.bind_some, if_tt, n_el hi (by decide), Option.bind_some, c1, if_neg (by decide), if_neg (nI_pos (by omega)), Option.bind_some, c2, if_pos (nI_lt hj (by omega)), Option.bind_some, n_put q1 c3 (by omega), Option.bind_some]
          refine ⟨_, rfl, T.tray (fun a _ _ => rfl) (fun j' hj' hji => by rw [sJ_row, if_neg (by omega)]) id hi c1 c2 c3 (fun j' hj' => ?_), fun a ha => ⟨rfl, by rw [sJ_row, if_neg (by omega)]⟩⟩
          rw [show 103 + 2 * i = 102 + 2 * i + 1 by omega, sJ_row, if_pos rfl]
          show _ = va_up q.2.2 j (ctv q.1 z) j'
          by_cases c : j' = j
          · subst c; rw [up_s, up_s]
          · rw [up_n c, up_n c]
            have := c4 j' hj'
            rw [show 103 + 2 * i = 102 + 2 * i + 1 by omega] at this
            exact this
        · have M1 := M.ke (keM.s0 (h := h') (j := 0) (x := 0) (by decide))
          obtain ⟨d1, d2, d3⟩ := (M1.tr i hi).2 q hg
          have e40 : (40 : Int32) * nI i + nI j = nI (40 * i + j) := by
            have : (40 : Int32) * nI i = nI (40 * i) := nI_mul 40 i
            rw [this, nI_add]
          have ew : f_Mod_within (nI j).toInt64 0 ((nI q.2.1 - (1 : Int32)).toInt64) (am_sI h' 136 0 0) = some true := by
            rcases n_win (x := nI j) (n := q.2.1) (h := am_sI h' 136 0 0) (by omega) with ⟨_, _, _, e⟩ | ⟨e, _⟩
            · exact e
            · rcases e with e | e
              · exact absurd e (nI_pos (by omega))
              · exact absurd e (nI_ge hj (by omega))
          unfold f_Mod_write
          simp only [am_let]
          rw [n_noTray v M1 hi (e2 _), hg, Option.bind_some, if_pos (by rfl), n_rd (by omega) (by decide), Option.bind_some, d2, ew, Option.bind_some, if_tt, n_rd (by omega) (by decide), Option.bind_some, d1, n_mcut q1, Option.bind_some, e40, n_wrJ (by omega) (by decide), Option.bind_some, n_rd (by omega) (by decide), Option.bind_some, sJ_row, if_pos rfl, up_s]
          refine ⟨_, rfl, M.tray (fun a ha => ?_) ?_ ?_ ?_ (fun j' _ => ?_) (fun j' _ => ?_) (fun j' hj' hji k hk => ?_) (fun j hj x hx => (v.tr j hj x hx).2) d1 d2 (fun k hk => ?_), ⟨fun a ha => ⟨?_, ?_⟩, rfl⟩⟩
          · show (am_sI h' 136 0 0).2.1 a = _
            rw [sI_row, if_neg (by omega)]
          · rfl
          · rfl
          · rfl
          · rfl
          · rfl
          · rw [sJ_row, if_pos rfl, up_n (by omega)]; rfl
          · rw [sJ_row, if_pos rfl]
            show _ = va_up q.2.2 j (ctv q.1 z) k
            by_cases c : k = j
            · subst c; rw [up_s, up_s]
            · rw [up_n (by omega), up_n c]; exact d3 k hk
          · show (am_sI h' 136 0 0).2.1 a = _
            rw [sI_row, if_neg (by omega)]
          · rw [sJ_row, if_neg (by omega)]; rfl
      · refine st_same v T (-7) ?_ (fun h' M => ?_)
        · unfold f_Top_write
          rw [e1, Option.bind_some, if_tt, n_el hi (by decide), Option.bind_some, c1, if_neg (by decide)]
          by_cases d : y < 0
          · rw [if_pos d]
          · rw [if_neg d, Option.bind_some, c2, if_neg (fun z => ?_)]
            rcases of_lt y (P := q.2.1) (by omega) with ⟨k, hk, rfl⟩ | ⟨e, _⟩
            · exact hy ⟨k, hk, rfl⟩
            · rcases e with e | e
              · exact d e
              · exact absurd z (Int32.not_lt.mpr e)
        · have M1 := M.ke (keM.s0 (h := h') (j := 0) (x := 0) (by decide))
          obtain ⟨d1, d2, d3⟩ := (M1.tr i hi).2 q hg
          have ew : f_Mod_within y.toInt64 0 ((nI q.2.1 - (1 : Int32)).toInt64) (am_sI h' 136 0 0) = some false := by
            rcases n_win (x := y) (n := q.2.1) (h := am_sI h' 136 0 0) (by omega) with ⟨k, hk, e0, e⟩ | ⟨_, e⟩
            · exact absurd ⟨k, hk, e0⟩ hy
            · exact e
          unfold f_Mod_write
          simp only [am_let]
          rw [n_noTray v M1 hi (e2 _), hg, Option.bind_some, if_pos (by rfl), n_rd (by omega) (by decide), Option.bind_some, d2, ew, Option.bind_some, if_ff]
          exact ⟨_, rfl, keM.s0 (by decide)⟩
  · refine st_same v T (-2) ?_ (fun h' M => ?_)
    · unfold f_Top_write
      rw [e1, Option.bind_some, if_ff]
    · unfold f_Mod_write f_Mod_noTray
      simp only [am_let]
      rw [e2, Option.bind_some, if_ff, Option.bind_some]
      exact ⟨_, rfl, keM.s0 (by decide)⟩
/-! lists -/
def lsv (r : sR) (s : sS) (p q n j : Nat) : Int64 := if j % 2 = 0 then (nI (10 * p + wat r s p q n (j / 2))).toInt64 else -1
theorem ctv_s : ∀ k, k ≤ 3 → ∀ m, m < 64 → ctv k (nI m).toInt64 = (nI m).toInt64 := by decide +kernel
theorem ctv_m : ∀ k, k ≤ 3 → ctv k (-1) = -1 := by decide +kernel
theorem wat_le {r : sR} {s : sS} {p q n t : Nat} : wat r s p q n t ≤ 6 := by
  unfold wat wac
  cases h : ff (ac1 r s p q n t (wps r s p q n t)) 0 7 with
  | none => exact Nat.zero_le _
  | some a =>
    have := (ff_some h).2.1
    show a ≤ 6
    omega
theorem lsv_c {r : sR} {s : sS} {p q n j k : Nat} (hp : p < 5) (hk : k ≤ 3) : ctv k (lsv r s p q n j) = lsv r s p q n j := by
  unfold lsv
  split
  · exact ctv_s k hk _ (by have := wat_le (r := r) (s := s) (p := p) (q := q) (n := n) (t := j / 2); omega)
  · exact ctv_m k hk
theorem n_tl88 {h : am_H} {r : sR} {s : sS} {p q n N i k : Nat} {v4 : Int32} (hp : p < 5) (hi : i < 4) (hk : k ≤ 3) (e2 : h.2.1 (102 + 2 * i) 2 = nI k) (hN : N ≤ 40) (hNn : N ≤ 2 * n) (e : ∀ t, t < n → h.2.1 88 t = nI (wat r s p q n t)) :
    ∃ y h', f_Top_lists_L88 (nI i) (nI p) (nI q) am_fu v4 (nI N) 0 h = some (y, h') ∧ h'.2.1 = h.2.1 ∧ h'.2.2.2 = h.2.2.2 ∧ (∀ a, a ≠ 103 + 2 * i → h'.2.2.1 a = h.2.2.1 a) ∧ ∀ j, (j < N → h'.2.2.1 (103 + 2 * i) j = lsv r s p q n j) ∧ (N ≤ j → h'.2.2.1 (103 + 2 * i) j = h.2.2.1 (103 + 2 * i) j) := by
  obtain ⟨c, f1, f2⟩ := lpc2 (fun m (a1 : Int32) (a2 : am_H) => f_Top_lists_L88 (nI i) (nI p) (nI q) m v4 (nI N) a1 a2) N
    (fun t a1 a2 => a1 = nI t ∧ a2.2.1 = h.2.1 ∧ a2.2.2.2 = h.2.2.2 ∧ (∀ a, a ≠ 103 + 2 * i → a2.2.2.1 a = h.2.2.1 a) ∧ ∀ j, (j < t → a2.2.2.1 (103 + 2 * i) j = lsv r s p q n j) ∧ (N ≤ j → a2.2.2.1 (103 + 2 * i) j = h.2.2.1 (103 + 2 * i) j))
    (fun c => c.2.2.1 = h.2.1 ∧ c.2.2.2.2 = h.2.2.2 ∧ (∀ a, a ≠ 103 + 2 * i → c.2.2.2.1 a = h.2.2.1 a) ∧ ∀ j, (j < N → c.2.2.2.1 (103 + 2 * i) j = lsv r s p q n j) ∧ (N ≤ j → c.2.2.2.1 (103 + 2 * i) j = h.2.2.1 (103 + 2 * i) j))
    (fun m t a1 a2 ht hI => by
      obtain ⟨i1, i2, i3, i4, i5⟩ := hI
      subst i1
      have e22 : a2.2.1 (102 + 2 * i) 2 = nI k := by rw [i2]; exact e2
      have hd : nI t / (2 : Int32) = nI (t / 2) := nI_div (by omega) (show (2 : Nat) < 2 ^ 31 by decide)
      have hv : ((if (nI t - nI t / (2 : Int32) * (2 : Int32)) = 0 then (f_Ahead_actAt (nI t / (2 : Int32)) a2).bind fun q16 => some ((((nI p * (10 : Int32)) + q16)).toInt64) else some (-1 : Int64)) : Option Int64) = some (lsv r s p q n t) := by
        rw [nI_md2 (by omega), hd]
        unfold lsv
        by_cases d : t % 2 = 0
        · rw [d, if_pos (show nI 0 = 0 from rfl), if_pos rfl]
          unfold f_Ahead_actAt
          rw [if_neg (nI_pos (by omega)), if_neg (show ¬ Int32.ofNat 60 ≤ nI (t / 2) from nI_ge (b := 60) (by omega) (by omega)), n_rd (by omega) (by decide), Option.bind_some, Option.bind_some, i2, e _ (by omega)]
          have : nI p * (10 : Int32) = nI (p * 10) := nI_mul p 10
          rw [this, nI_add, Nat.mul_comm]
        · have d1 : t % 2 = 1 := by omega
          rw [d1, if_neg (show ¬ nI 1 = 0 by decide), if_neg (by omega)]
      rw [f_Top_lists_L88, if_neg (nI_ge ht (by omega)), n_el hi (by decide), Option.bind_some, hv, Option.bind_some, n_put hk e22 (by omega), Option.bind_some, lsv_c hp hk]
      refine ⟨_, _, rfl, nI_up, i2, i3, fun a ha => by rw [sJ_row, if_neg (by omega)]; exact i4 a ha, fun j => ⟨fun hj => ?_, fun hj => ?_⟩⟩
      · rw [sJ_row, if_pos (by omega), show 102 + 2 * i + 1 = 103 + 2 * i by omega]
        by_cases c : j = t
        · subst c; rw [up_s]
        · rw [up_n (by omega)]; exact (i5 j).1 (by omega)
      · rw [sJ_row, if_pos (by omega), show 102 + 2 * i + 1 = 103 + 2 * i by omega, up_n (by omega)]; exact (i5 j).2 hj)
    (fun m a1 a2 hI => by
      obtain ⟨i1, i2⟩ := hI
      subst i1
      rw [f_Top_lists_L88, if_pos (nI_le (Nat.le_refl _) (by omega))]
      exact ⟨_, rfl, i2⟩) (by unfold am_fu; omega) 0 h ⟨rfl, rfl, rfl, fun _ _ => rfl, fun j => ⟨fun hj => by omega, fun _ => rfl⟩⟩
  exact ⟨_, _, f1, f2⟩
theorem n_ml101 {h : am_H} {r : sR} {s : sS} {p q n N i : Nat} {v4 v5 : Int32} (hi : i < 4) (hN : N ≤ 40) (hNn : N ≤ 2 * n) (e : ∀ t, t < n → h.2.1 148 t = nI (wat r s p q n t)) :
    ∃ y h', f_Mod_lists_L101 (nI i) (nI p) (nI q) am_fu v4 v5 (nI N) 0 h = some (y, h') ∧ h'.2.1 = h.2.1 ∧ h'.2.2.2 = h.2.2.2 ∧ (∀ a, a ≠ 160 → h'.2.2.1 a = h.2.2.1 a) ∧ ∀ j, (j < N → h'.2.2.1 160 (40 * i + j) = lsv r s p q n j) ∧ ((j < 40 * i ∨ 40 * i + N ≤ j) → h'.2.2.1 160 j = h.2.2.1 160 j) := by
  obtain ⟨c, f1, f2⟩ := lpc2 (fun m (a1 : Int32) (a2 : am_H) => f_Mod_lists_L101 (nI i) (nI p) (nI q) m v4 v5 (nI N) a1 a2) N
    (fun t a1 a2 => a1 = nI t ∧ a2.2.1 = h.2.1 ∧ a2.2.2.2 = h.2.2.2 ∧ (∀ a, a ≠ 160 → a2.2.2.1 a = h.2.2.1 a) ∧ ∀ j, (j < t → a2.2.2.1 160 (40 * i + j) = lsv r s p q n j) ∧ ((j < 40 * i ∨ 40 * i + N ≤ j) → a2.2.2.1 160 j = h.2.2.1 160 j))
    (fun c => c.2.2.1 = h.2.1 ∧ c.2.2.2.2 = h.2.2.2 ∧ (∀ a, a ≠ 160 → c.2.2.2.1 a = h.2.2.1 a) ∧ ∀ j, (j < N → c.2.2.2.1 160 (40 * i + j) = lsv r s p q n j) ∧ ((j < 40 * i ∨ 40 * i + N ≤ j) → c.2.2.2.1 160 j = h.2.2.1 160 j))
    (fun m t a1 a2 ht hI => by
      obtain ⟨i1, i2, i3, i4, i5⟩ := hI
      subst i1
      have hd : nI t / (2 : Int32) = nI (t / 2) := nI_div (by omega) (show (2 : Nat) < 2 ^ 31 by decide)
      have hv : ((if (nI t - nI t / (2 : Int32) * (2 : Int32)) = 0 then (am_rd (a2.2.1 148) 60 (nI t / (2 : Int32))).bind fun x18 => some (((((10 : Int32) * nI p) + x18)).toInt64) else some (-1 : Int64)) : Option Int64) = some (lsv r s p q n t) := by
        rw [nI_md2 (by omega), hd]
        unfold lsv
        by_cases d : t % 2 = 0
        · rw [d, if_pos (show nI 0 = 0 from rfl), if_pos rfl, n_rd (by omega) (by decide), Option.bind_some, i2, e _ (by omega)]
          have : (10 : Int32) * nI p = nI (10 * p) := nI_mul 10 p
          rw [this, nI_add]
        · have d1 : t % 2 = 1 := by omega
          rw [d1, if_neg (show ¬ nI 1 = 0 by decide), if_neg (by omega)]
      have e40 : (40 : Int32) * nI i + nI t = nI (40 * i + t) := by
        have : (40 : Int32) * nI i = nI (40 * i) := nI_mul 40 i
        rw [this, nI_add]
      rw [f_Mod_lists_L101, if_neg (nI_ge ht (by omega)), hv, Option.bind_some, e40, n_wrJ (by omega) (by decide), Option.bind_some]
      refine ⟨_, _, rfl, nI_up, i2, i3, fun a ha => by rw [sJ_row, if_neg ha]; exact i4 a ha, fun j => ⟨fun hj => ?_, fun hj => ?_⟩⟩
      · rw [sJ_row, if_pos rfl]
        by_cases c : j = t
        · subst c; rw [up_s]
        · rw [up_n (by omega)]; exact (i5 j).1 (by omega)
      · rw [sJ_row, if_pos rfl, up_n (by omega)]; exact (i5 j).2 hj)
    (fun m a1 a2 hI => by
      obtain ⟨i1, i2⟩ := hI
      subst i1
      rw [f_Mod_lists_L101, if_pos (nI_le (Nat.le_refl _) (by omega))]
      exact ⟨_, rfl, i2⟩) (by unfold am_fu; omega) 0 h ⟨rfl, rfl, rfl, fun _ _ => rfl, fun j => ⟨fun hj => by omega, fun _ => rfl⟩⟩
  exact ⟨_, _, f1, f2⟩
theorem ok_lists (b : Nat) (hb : b ≤ 90000) (x y z : Int32) : ok2 b (f_Top_lists x y z) (f_Mod_lists x y z) := by
  refine ok2_st (fun g h v T M0 => ?_)
  have TV := T.tV v (by omega)
  have hP := TV.hP
  rcases tr4 x with ⟨i, hi, rfl, e1, e2⟩ | ⟨e1, e2⟩
  · rcases per2 TV y with ⟨p, hp, rfl, e3, e4⟩ | ⟨e3, e4⟩
    · rcases spt2 TV (s0M M0 v hb).2 z with ⟨q, hq, rfl, e5, e6⟩ | ⟨e5, e6⟩
      · cases hg : g.2.2.2.2 i with
        | none =>
          refine st_same v T (-6) ?_ (fun h' M => ?_)
          · unfold f_Top_lists
            rw [e1, Option.bind_some, if_tt, e3, Option.bind_some, if_tt, e5, Option.bind_some, if_tt, n_el hi (by decide), Option.bind_some, (T.tr i hi).1 hg, if_pos rfl]
          · obtain ⟨k0, MV⟩ := s0M M v hb
            have M1 := M.ke k0
            unfold f_Mod_lists
            simp only [am_let]
            rw [e2, Option.bind_some, if_tt, e4 MV, Option.bind_some, if_tt, e6 MV, Option.bind_some, if_tt, n_noTray v M1 hi (e2 _), hg, Option.bind_some]
            exact ⟨_, rfl, k0⟩
        | some w =>
          obtain ⟨q1, q2⟩ := v.tr i hi w hg
          obtain ⟨c1, c2, c3, c4⟩ := (T.tr i hi).2 w hg
          obtain ⟨h1, a1, a2, a3⟩ := n_findWay TV hp hq
          have k1 := a2.keT (by unfold scr; simp)
          have T1 := T.ke k1
          have hT : f_Top_lists (nI i) (nI p) (nI q) h = (if oI (hrs g.1.1 g.1.2.1 p q) = (-1 : Int32) then some ((-5 : Int32), h1) else (f_Top_lists_L88 (nI i) (nI p) (nI q) am_fu (oI (hrs g.1.1 g.1.2.1 p q)) (if nI w.2.1 < (2 : Int32) * oI (hrs g.1.1 g.1.2.1 p q) then nI w.2.1 else (2 : Int32) * oI (hrs g.1.1 g.1.2.1 p q)) 0 h1).bind fun q19 => some ((if nI w.2.1 < (2 : Int32) * oI (hrs g.1.1 g.1.2.1 p q) then nI w.2.1 else (2 : Int32) * oI (hrs g.1.1 g.1.2.1 p q)), q19.2)) := by
            unfold f_Top_lists
            rw [e1, Option.bind_some, if_tt, e3, Option.bind_some, if_tt, e5, Option.bind_some, if_tt, n_el hi (by decide), Option.bind_some, c1, if_neg (by decide), a1, Option.bind_some]
            simp only [Option.bind_some, am_let]
            rw [((T1.tr i hi).2 w hg).2.1]
          have hM : ∀ h', RM g h' → ∃ h2, keM h' h2 ∧ (∀ n, hrs g.1.1 g.1.2.1 p q = some n → ∀ t, t < n → h2.2.1 148 t = nI (wat g.1.1 g.1.2.1 p q n t)) ∧ f_Mod_lists (nI i) (nI p) (nI q) h' = (if oI (hrs g.1.1 g.1.2.1 p q) = (-1 : Int32) then some ((-5 : Int32), h2) else ((if nI w.2.1 ≤ (2 : Int32) * oI (hrs g.1.1 g.1.2.1 p q) then some (nI w.2.1) else some ((2 : Int32) * oI (hrs g.1.1 g.1.2.1 p q))) : Option Int32).bind fun m15 => (f_Mod_lists_L101 (nI i) (nI p) (nI q) am_fu 0 (oI (hrs g.1.1 g.1.2.1 p q)) m15 0 h2).bind fun q21 => some (m15, q21.2)) := fun h' M => by
            obtain ⟨k0, MV⟩ := s0M M v hb
            have M1 := M.ke k0
            obtain ⟨h2, b1, b2, b3⟩ := n_laysWay MV hp hq
            have k2 := k0.tr (b2.keM (by decide))
            have M2 := M.ke k2
            refine ⟨h2, k2, b3, ?_⟩
            unfold f_Mod_lists
            simp only [am_let]
            rw [e2, Option.bind_some, if_tt, e4 MV, Option.bind_some, if_tt, e6 MV, Option.bind_some, if_tt, n_noTray v M1 hi (e2 _), hg, Option.bind_some, if_pos (by rfl), b1, Option.bind_some]
            simp only
            rw [n_rd (by omega) (by decide), Option.bind_some, ((M2.tr i hi).2 w hg).2.1]
            rfl
          cases hh : hrs g.1.1 g.1.2.1 p q with
          | none =>
            rw [hh, oI_none, if_pos rfl] at hT
            refine ⟨-5, g, v.up (by omega), ⟨h1, hT, T1, k1.fr⟩, fun h' M => ?_⟩
            obtain ⟨h2, k2, _, m2⟩ := hM h' M
            rw [hh, oI_none, if_pos rfl] at m2
            exact ⟨h2, m2, M.ke k2, k2.1⟩
          | some n =>
            have hn := hrs_le hh
            have h2n : (2 : Int32) * nI n = nI (2 * n) := nI_mul 2 n
            have hmin : ∀ z, z = (2 : Int32) * nI n → (if nI w.2.1 < z then nI w.2.1 else z) = nI (min w.2.1 (2 * n)) := fun z hz => by
              rw [hz, h2n]
              by_cases c : w.2.1 < 2 * n
              · rw [if_pos (nI_lt c (by omega)), show min w.2.1 (2 * n) = w.2.1 by omega]
              · rw [if_neg (nI_nlt (by omega) (by omega)), show min w.2.1 (2 * n) = 2 * n by omega]
            rw [hh, oI_some, if_neg (nI_nm1 (by omega)), hmin _ rfl] at hT
            obtain ⟨y1, h3, f1, f2, f3, f4, f5⟩ := n_tl88 (N := min w.2.1 (2 * n)) (v4 := nI n) (by omega) hi q1 (by rw [((T1.tr i hi).2 w hg).2.2.1]) (by omega) (by omega) (a3 n hh)
            rw [f1, Option.bind_some] at hT
            refine ⟨nI (min w.2.1 (2 * n)), gT g i (w.1, w.2.1, fun k => if k < min w.2.1 (2 * n) then lsv g.1.1 g.1.2.1 p q n k else w.2.2 k), v.tray q1 q2, ⟨h3, hT, ?_, ?_⟩, fun h' M => ?_⟩
            · obtain ⟨d1, d2, d3, d4⟩ := (T1.tr i hi).2 w hg
              refine T1.tray (fun a _ _ => by rw [f2]) (fun j hj hji => f4 _ (by omega)) (rf_id f3) hi (by rw [f2]; exact d1) (by rw [f2]; exact d2) (by rw [f2]; exact d3) (fun k hk => ?_)
              show _ = if k < min w.2.1 (2 * n) then lsv g.1.1 g.1.2.1 p q n k else w.2.2 k
              by_cases c : k < min w.2.1 (2 * n)
              · rw [if_pos c]; exact (f5 k).1 c
              · rw [if_neg c, (f5 k).2 (by omega)]; exact d4 k hk
            · exact k1.fr.tr (fun a ha => ⟨by rw [f2], f4 a (by omega)⟩)
            · obtain ⟨h2, k2, m1, m2⟩ := hM h' M
              have M2 := M.ke k2
              obtain ⟨d1, d2, d3⟩ := (M2.tr i hi).2 w hg
              have hmin2 : ((if nI w.2.1 ≤ nI (2 * n) then some (nI w.2.1) else some (nI (2 * n))) : Option Int32) = some (nI (min w.2.1 (2 * n))) := by
                by_cases c : w.2.1 ≤ 2 * n
                · rw [if_pos (nI_le c (by omega)), show min w.2.1 (2 * n) = w.2.1 by omega]
                · rw [if_neg (nI_ge (by omega) (by omega)), show min w.2.1 (2 * n) = 2 * n by omega]
              obtain ⟨y2, h4, s1, s2, s3, s4, s5⟩ := n_ml101 (N := min w.2.1 (2 * n)) (v4 := 0) (v5 := nI n) hi (by omega) (by omega) (m1 n hh)
              rw [hh, oI_some, if_neg (nI_nm1 (by omega)), h2n, hmin2, Option.bind_some, s1, Option.bind_some] at m2
              refine ⟨h4, m2, ?_, ?_⟩
              · refine M2.tray (fun a _ => by rw [s2]) (by rw [s2]) (by rw [s2]) (by rw [s2]) (fun j _ => by rw [s2]) (fun j _ => by rw [s2]) (fun j hj hji k hk => (s5 _).2 (by omega)) (fun j hj x hx => (v.tr j hj x hx).2) (by rw [s2]; exact d1) (by rw [s2]; exact d2) (fun k hk => ?_)
                show _ = if k < min w.2.1 (2 * n) then lsv g.1.1 g.1.2.1 p q n k else w.2.2 k
                by_cases c : k < min w.2.1 (2 * n)
                · rw [if_pos c]; exact (s5 k).1 c
                · have hk' : k < w.2.1 := hk
                  rw [if_neg c, (s5 (40 * i + k)).2 (by omega)]; exact d3 k hk
              · exact k2.1.tr ⟨fun a ha => ⟨by rw [s2], s4 a (by omega)⟩, s3⟩
      · refine st_same v T (-2) ?_ (fun h' M => ?_)
        · unfold f_Top_lists
          rw [e1, Option.bind_some, if_tt, e3, Option.bind_some, if_tt, e5, Option.bind_some, if_ff]
        · obtain ⟨k0, MV⟩ := s0M M v hb
          unfold f_Mod_lists
          simp only [am_let]
          rw [e2, Option.bind_some, if_tt, e4 MV, Option.bind_some, if_tt, e6 MV, Option.bind_some, if_ff]
          exact ⟨_, rfl, k0⟩
    · refine st_same v T (-2) ?_ (fun h' M => ?_)
      · unfold f_Top_lists
        rw [e1, Option.bind_some, if_tt, e3, Option.bind_some, if_ff]
      · obtain ⟨k0, MV⟩ := s0M M v hb
        unfold f_Mod_lists
        simp only [am_let]
        rw [e2, Option.bind_some, if_tt, e4 MV, Option.bind_some, if_ff]
        exact ⟨_, rfl, k0⟩
  · refine st_same v T (-2) ?_ (fun h' M => ?_)
    · unfold f_Top_lists
      rw [e1, Option.bind_some, if_ff]
    · unfold f_Mod_lists
      simp only [am_let]
      rw [e2, Option.bind_some, if_ff]
      exact ⟨_, rfl, keM.s0 (by decide)⟩
