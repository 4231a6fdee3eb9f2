-- deps: 31.law 32.nat 33.bit 34.spec 35.riv 36.let 37.mod 38.mod 39.it 40.ahead 41.rel 42.ask 43.why 44.meet 45.err 46.err 47.wk 48.chg 50.ways 51.way 52.tray 54.past 55.hour 56.act
/-! ===== hours ===== -/
def mid (r : sR) (s : sS) : sS := ((sH s + 1, sF s - 1, sD s), sW s, ps r s, fun _ => 0)
def itN (r : sR) (s : sS) : Nat → sS
  | 0 => s
  | n + 1 => sN r (itN r s n)
def nwN (r : sR) (s : sS) : Nat → Nat
  | 0 => 0
  | n + 1 => nwN r s n + nw r (mid r (itN r s n))
theorem itN_v {b : Nat} {r : sR} {s : sS} (hr : vR r) (v : vS b r s) : ∀ n, vS (b + n) r (itN r s n)
  | 0 => v
  | n + 1 => sN_v hr (itN_v hr v n)
theorem cnt_add {f g h : Nat → Bool} : ∀ {n : Nat}, (∀ p, p < n → (if f p then 1 else 0) = (if g p then 1 else 0) + (if h p then 1 else 0)) → cnt f n = cnt g n + cnt h n
  | 0, _ => rfl
  | n + 1, e => by
    rw [cnt_s, cnt_s, cnt_s, cnt_add (fun p hp => e p (by omega)), e n (by omega)]
    omega
theorem cnt_ext {f g : Nat → Bool} : ∀ {n m : Nat}, n ≤ m → (∀ p, p < n → f p = g p) → (∀ p, n ≤ p → p < m → f p = false) → cnt f m = cnt g n
  | 0, 0, _, _, _ => rfl
  | 0, m + 1, _, e1, e2 => by
    rw [cnt_s, cnt_ext (n := 0) (m := m) (g := g) (by omega) e1 (fun p h1 h2 => e2 p h1 (by omega)), e2 m (by omega) (by omega)]
    rfl
  | n + 1, 0, h, _, _ => by omega
  | n + 1, m + 1, h, e1, e2 => by
    by_cases c : n = m
    · subst c
      rw [cnt_s, cnt_s, e1 n (by omega), cnt_ext (n := n) (m := n) (g := g) (by omega) (fun p hp => e1 p (by omega)) (fun p h1 h2 => by omega)]
    · rw [cnt_s, cnt_ext (n := n + 1) (m := m) (g := g) (by omega) e1 (fun p h1 h2 => e2 p h1 (by omega)), e2 m (by omega) (by omega)]
      rfl
def pop (a : Nat) : Nat := cnt a.testBit 5
theorem n_pop {h : am_H} {a : Nat} (ha : a < 32) : f_Integer_bitCount (nI a) h = some (nI (pop a)) := by
  have e : f_Integer_bitCount (nI a) h = f_Integer_bitCount (nI a) am_e := rfl
  rw [e, bc32 _ ha]
  rfl
theorem pop_N {b : Nat} {r : sR} {s : sS} (hr : vR r) : pop (sD (sN r s)) = pop (sD s) + nw r (mid r s) := by
  have e1 : nw r (mid r s) = cnt (fun p => decide (p < rP r) && (dn1 r (mid r s) p && !(sD s).testBit p)) 5 :=
    (cnt_ext hr.2.2.1 (fun p hp => by simp [hp]; rfl) (fun p h1 h2 => by simp; omega)).symm
  rw [e1]
  apply cnt_add
  intro p hp
  show (if (sD s ||| bts (rP r) (dn1 r (mid r s))).testBit p = true then 1 else 0) = _
  rw [Nat.testBit_or, bts_t]
  cases (sD s).testBit p <;> cases decide (p < rP r) <;> cases dn1 r (mid r s) p <;> rfl
theorem pop_itN {r : sR} {s : sS} (hr : vR r) : ∀ n, pop (sD (itN r s n)) = pop (sD s) + nwN r s n
  | 0 => rfl
  | n + 1 => by
    show pop (sD (sN r (itN r s n))) = _
    rw [pop_N (b := 0) hr, pop_itN hr n, nwN]
    omega
theorem pop_le (a : Nat) : pop a ≤ 5 := cnt_le _ _
theorem rng1 {n : Nat} {u : Int64} (hn : n < 2 ^ 30) (hu : u = lN n) (x : Int32) : (∃ k, 1 ≤ k ∧ k ≤ n ∧ x = nI k ∧ ∀ h, f_Mod_within x.toInt64 1 u h = some true) ∨ ((x < 1 ∨ ¬ x ≤ nI n) ∧ ∀ h, f_Mod_within x.toInt64 1 u h = some false) := by
  rcases rng2 hn hu x with ⟨k, hk, rfl, e⟩ | ⟨q, e⟩
  · by_cases c : k = 0
    · subst c
      refine .inr ⟨.inl (by decide), fun h => ?_⟩
      rw [n_within]
      exact congrArg some (decide_eq_false (fun a => absurd a.1 (by decide)))
    · refine .inl ⟨k, by omega, hk, rfl, fun h => ?_⟩
      have e := e h
      rw [n_within] at e ⊢
      have e' := Option.some.inj e
      rw [decide_eq_true_eq] at e'
      congr 1
      apply decide_eq_true
      refine ⟨?_, e'.2⟩
      rw [nI_l (by omega)]
      exact (lN_le (a := 1) (by omega) (by omega)).mpr (by omega)
  · refine .inr ⟨?_, fun h => ?_⟩
    · rcases q with q | q
      · exact .inl (Int32.lt_trans q (by decide))
      · exact .inr q
    · have e := e h
      rw [n_within] at e ⊢
      have e' := Option.some.inj e
      rw [decide_eq_false_iff_not] at e'
      congr 1
      apply decide_eq_false
      rintro ⟨a1, a2⟩
      exact e' ⟨Int64.le_trans (by decide) a1, a2⟩
theorem am_ex.fT {X : List Nat} {h h' : am_H} (x : am_ex X h h') (hX : ∀ a ∈ X, 10 ≤ a ∧ a ≤ 13) : ∀ a, a < 136 → ¬ scr a → a < 10 ∨ 13 < a → h'.2.1 a = h.2.1 a := fun a _ _ ha => x.2.2 a (fun c => by have := hX a c; omega)
theorem ok_hours (b : Nat) (hb : b ≤ 90000) (x : Int32) : ok2 b (f_Top_hours x) (f_Mod_hours x) := by
  refine ok2_st (fun g h v T M0 => ?_)
  have hr := v.1
  rcases rng1 (n := 48) (by decide) (show (48 : Int64) = lN 48 from rfl) x with ⟨n, hn1, hn, rfl, e⟩ | ⟨q, e⟩
  · have hv := itN_v hr v.2.1
    have hv' : vS (b + 48) g.1.1 (itN g.1.1 g.1.2.1 n) := (hv n).up (by omega)
    refine ⟨nI (nwN g.1.1 g.1.2.1 n), gS' (gP g) (itN g.1.1 g.1.2.1 n), v.push hv', ?_, fun h' M => ?_⟩
    · obtain ⟨h1, c1, c2, c3, c4⟩ := n_will v T
      have T1 : tS 10 g.1.1 g.1.2.1 h1 := c2.2.1
      have R1 : tR 1 g.1.1 h1 := c2.1
      obtain ⟨c, f1, f2, f3⟩ := lpc2 (fun m (a1 : Int32) (a2 : am_H) => f_Top_hours_L31 (nI n) m (nI (pop (sD g.1.2.1))) a1 a2) n
        (fun t a1 a2 => a1 = nI t ∧ am_ex [10, 12, 13] h1 a2 ∧ tS 10 g.1.1 (itN g.1.1 g.1.2.1 t) a2)
        (fun c => am_ex [10, 12, 13] h1 c.2 ∧ tS 10 g.1.1 (itN g.1.1 g.1.2.1 n) c.2)
        (fun m t a1 a2 ht hI => by
          obtain ⟨rfl, i2, i3⟩ := hI
          have R2 : tR 1 g.1.1 a2 := R1.cg (fun a _ _ => i2.2.2 a (by simp; omega))
          obtain ⟨h2, d1, d2, d3⟩ := n_pass (by omega) hr (hv t) R2 i3 (by omega)
          rw [f_Top_hours_L31, if_neg (nI_ge ht (by omega)), d1, Option.bind_some]
          exact ⟨_, _, rfl, nI_up, i2.tr d2 (fun _ z => z) (fun _ z => z), d3⟩)
        (fun m a1 a2 hI => by
          obtain ⟨rfl, i2⟩ := hI
          rw [f_Top_hours_L31, if_pos (nI_le (Nat.le_refl _) (by omega))]
          exact ⟨_, rfl, i2⟩) (by unfold am_fu; omega) 0 h1 ⟨rfl, am_ex.rf, T1⟩
      have hsub : nI (pop (sD (itN g.1.1 g.1.2.1 n))) - nI (pop (sD g.1.2.1)) = nI (nwN g.1.1 g.1.2.1 n) := by
        rw [pop_itN hr, nI_sub (by omega)]
        congr 1
        omega
      unfold f_Top_hours
      rw [if_neg (show ¬ nI n < (1 : Int32) from nI_nlt (a := n) (b := 1) hn1 (by omega)), if_pos (show nI n ≤ (48 : Int32) from nI_le (b := 48) hn (by decide)), c1, Option.bind_some, T1.2.2.1, n_pop v.2.1.2.2.1, Option.bind_some, f1, Option.bind_some, f3.2.2.1, n_pop (hv n).2.2.1, Option.bind_some, hsub]
      refine ⟨_, rfl, c2.setS c3.1 c3.2 (f2.fT (by decide)) (fun _ _ => by rw [f2.2.1]) (rf_id (by rw [f2.2.1])) f3, c4.tr (f2.frT (by decide))⟩
    · obtain ⟨k0, MV⟩ := s0M M v hb
      obtain ⟨h2, b1, b2, b3, b4⟩ := m_keep M k0
      have V0 : mV (h2.2.1 137) g.1.1 g.1.2.1 := by rw [b4]; exact M.mV v (by omega)
      obtain ⟨c, f1, f2, f3, f4, f5⟩ := lpc3 (fun m (a1 : Int32) (a2 : Int32) (a3 : am_H) => f_Mod_hours_L28 (nI n) m a1 a2 a3) n
        (fun t a1 a2 a3 => a1 = nI (nwN g.1.1 g.1.2.1 t) ∧ a2 = nI t ∧ mW h2 a3 ∧ mS (a3.2.1 137) 26 g.1.1 (itN g.1.1 g.1.2.1 t) ∧ a3.2.1 143 = h2.2.1 143)
        (fun c => c.1 = nI (nwN g.1.1 g.1.2.1 n) ∧ mW h2 c.2.2 ∧ mS (c.2.2.2.1 137) 26 g.1.1 (itN g.1.1 g.1.2.1 n) ∧ c.2.2.2.1 143 = h2.2.1 143)
        (fun m t a1 a2 a3 ht hI => by
          obtain ⟨rfl, rfl, i2, i3, i4⟩ := hI
          have V2 : mV (a3.2.1 137) g.1.1 (itN g.1.1 g.1.2.1 t) := i2.mV V0 ((hv t).up (by omega)) i3
          obtain ⟨h3, d1, d2, d3, d4⟩ := n_goesHour (b := b + t) (by omega) (hv t) V2
          rw [f_Mod_hours_L28, if_neg (nI_ge ht (by omega)), d1, Option.bind_some]
          refine ⟨_, _, _, rfl, nI_add _ _, nI_up, i2.tr d2, d3, (d4 143 (by omega)).trans i4⟩)
        (fun m a1 a2 a3 hI => by
          obtain ⟨rfl, rfl, i2⟩ := hI
          rw [f_Mod_hours_L28, if_pos (nI_le (Nat.le_refl _) (by omega))]
          exact ⟨_, rfl, rfl, i2⟩) (by unfold am_fu; omega) 0 0 h2 ⟨rfl, rfl, mW.rf, V0.2.2.2, rfl⟩
      have w := b2.mW.tr f3
      obtain ⟨h3, d1, d2, d3, d4, d5⟩ := n_notes (s := itN g.1.1 g.1.2.1 n) v M w (fun j hj => by rw [f5]; exact b3 j hj) f4
      unfold f_Mod_hours
      simp only [am_let]
      rw [e, Option.bind_some, if_tt, b1, Option.bind_some, f1, Option.bind_some, d1, Option.bind_some, f2]
      exact ⟨_, rfl, d2, w.1.tr d3⟩
  · refine st_same v T (-3) ?_ (fun h' M => ?_)
    · unfold f_Top_hours
      by_cases d : x < 1
      · rw [if_pos d]
      · rcases q with q | q
        · exact absurd q d
        · rw [if_neg d, if_neg (show ¬ x ≤ (48 : Int32) from q)]
    · unfold f_Mod_hours
      simp only [am_let]
      rw [e, Option.bind_some, if_ff]
      exact ⟨_, rfl, keM.s0 (by decide)⟩
/-! ===== undo ===== -/
def gB (g : sG) (n : Nat) : sG := ((g.1.1, g.1.2.2.2 n, n, g.1.2.2.2), g.2)
theorem ok_undo (b : Nat) (hb : b ≤ 90000) (x : Int32) : ok2 b (f_Top_undo x) (f_Mod_undo x) := by
  refine ok2_st (fun g h v T M0 => ?_)
  have hr := v.1
  have hN := v.2.2.1
  have p9 : h.2.1 18 2 = nI g.1.2.2.1 := by obtain ⟨e, _, _, q, _⟩ := T.2.2.1; exact q
  rcases rng1 (n := 10) (by decide) (show (10 : Int64) = lN 10 from rfl) x with ⟨k, hk1, hk, rfl, e⟩ | ⟨q, e⟩
  · by_cases c : k ≤ g.1.2.2.1
    · have vv : VG (b + 48) (gB g (g.1.2.2.1 - k)) := by
        have v2 := v.up (show b ≤ b + 48 by omega)
        refine ⟨v2.1, v2.2.2.2.1 _ (by omega), ?_, fun i hi => v2.2.2.2.1 i ?_, v2.2.2.2.2⟩
        · show g.1.2.2.1 - k ≤ 10
          omega
        · have hi' : i < g.1.2.2.1 - k := hi
          omega
      refine ⟨nI (g.1.2.2.1 - k), gB g (g.1.2.2.1 - k), vv, ?_, fun h' M => ?_⟩
      · obtain ⟨R1, R2, ⟨e0, q1, q2, q3, q4⟩, ⟨m, i1, i2, i3⟩, ⟨t1, t2⟩, ⟨u1, u2⟩, R7, R8, R9, R10⟩ := T
        have hmax : (if (0 : Int32) < nI (g.1.2.2.1 - k) then nI (g.1.2.2.1 - k) else (0 : Int32)) = nI (g.1.2.2.1 - k) := by
          by_cases d : g.1.2.2.1 - k = 0
          · rw [d]; rfl
          · rw [if_pos (show (0 : Int32) < nI (g.1.2.2.1 - k) from nI_lt (a := 0) (by omega) (by omega))]
        have s1 : (am_sI h 18 2 (nI (g.1.2.2.1 - k))).2.1 18 1 = nI e0 := by rw [sI_row, if_pos rfl, up_n (by decide)]; exact q2
        have s2 : (am_sI h 18 2 (nI (g.1.2.2.1 - k))).2.1 18 2 = nI (g.1.2.2.1 - k) := by rw [sI_row, if_pos rfl, up_s]
        obtain ⟨h1, c1, c2, c3, c4, c5, c6, c7⟩ := n_stCopy (h := am_sI h 18 2 (nI (g.1.2.2.1 - k))) (o := 10) (q := 20 + 4 * ((e0 + (g.1.2.2.1 - k)) % 10)) (by omega)
        unfold f_Top_undo f_Past_back f_Weeks_forget
        simp only [am_let]
        rw [if_neg (show ¬ nI k < (1 : Int32) from nI_nlt (a := k) (b := 1) hk1 (by omega)), if_neg (show ¬ (10 : Int32) < nI k from nI_nlt (a := 10) (b := k) hk (by decide)), q3, if_pos (nI_le c (by omega)), nI_sub c, hmax, s1, s2, nI_add, md10 (by omega), n_el (by omega) (by decide), Option.bind_some, Option.bind_some]
        simp only
        rw [c1, Option.bind_some, Option.bind_some]
        have e : ∀ a, (a < 10 ∨ 13 < a) → a ≠ 18 → a ≠ 91 → (am_sI (am_sI h1 91 8 0) 91 9 0).2.1 a = h.2.1 a := fun a h1 h2 h3 => by
          rw [sI_row, if_neg h3, sI_row, if_neg h3, c3 a (by omega), sI_row, if_neg h2]
        have e18 : (am_sI (am_sI h1 91 8 0) 91 9 0).2.1 18 = va_up (h.2.1 18) 2 (nI (g.1.2.2.1 - k)) := by
          rw [sI_row, if_neg (by decide), sI_row, if_neg (by decide), c3 18 (by omega), sI_row, if_pos rfl]
        have eJ : (am_sI (am_sI h1 91 8 0) 91 9 0).2.2 = h.2.2 := c2
        have f8 : (am_sI (am_sI h1 91 8 0) 91 9 0).2.1 91 8 = 0 := by rw [sI_row, if_pos rfl, up_n (by decide), sI_row, if_pos rfl, up_s]
        have f9 : (am_sI (am_sI h1 91 8 0) 91 9 0).2.1 91 9 = 0 := by rw [sI_row, if_pos rfl, up_s]
        have TS : tS 10 g.1.1 (g.1.2.2.2 (g.1.2.2.1 - k)) h1 := ((q4 (g.1.2.2.1 - k) (by omega)).cg (h' := am_sI h 18 2 (nI (g.1.2.2.1 - k))) (fun a _ _ => by rw [sI_row, if_neg (by omega)])).mv hr c4 c5 c6 c7
        rw [e18, up_s]
        refine ⟨_, rfl, ⟨R1.cg (fun a _ _ => e a (by omega) (by omega) (by omega)), TS.cg (fun a _ _ => by rw [sI_row, if_neg (by omega), sI_row, if_neg (by omega)]), ⟨e0, q1, ?_, ?_, fun i hi => (q4 i ?_).cg (fun a _ _ => e a (by omega) (by omega) (by omega))⟩, ⟨m, i1, ?_, fun j hj => ⟨(i3 j hj).1, fun q hq => ⟨((i3 j hj).2 q hq).1.cg (fun a _ _ => e a (by omega) (by omega) (by omega)), ((i3 j hj).2 q hq).2.cg (fun a _ _ => e a (by omega) (by omega) (by omega))⟩⟩⟩, ⟨?_, ?_⟩, ⟨?_, ?_⟩, ?_, .inl f8, .inl f9, rf_id (by rw [eJ]) R10⟩, fun a ha => ⟨e a (by omega) (by omega) (by omega), by rw [eJ]⟩⟩
        · rw [e18, up_n (by decide)]; exact q2
        · rw [e18, up_s]; rfl
        · have hi' : i < g.1.2.2.1 - k := hi
          omega
        · rw [e 0 (by omega) (by omega) (by omega)]; exact i2
        · rw [e 0 (by omega) (by omega) (by omega)]; exact t1
        · rw [e 60 (by omega) (by omega) (by omega)]; exact t2
        · rw [e 61 (by omega) (by omega) (by omega)]; exact u1
        · rw [e 61 (by omega) (by omega) (by omega)]; exact u2
        · intro i hi
          rw [e (102 + 2 * i) (by omega) (by omega) (by omega), eJ]
          exact R7 i hi
      · obtain ⟨k0, MV⟩ := s0M M v hb
        have M1 := M.ke k0
        generalize hh1 : am_sI h' 136 0 0 = h1 at *
        have e45 : h1.2.1 137 45 = nI g.1.2.2.1 := M1.2.2.1.1
        have r0 : (am_sI h1 137 45 (nI (g.1.2.2.1 - k))).2.1 137 = va_up (h1.2.1 137) 45 (nI (g.1.2.2.1 - k)) := by rw [sI_row, if_pos rfl]
        obtain ⟨c', f1, f2, f3, f4⟩ := lpc2 (fun m (a1 : Int32) (a2 : am_H) => f_Mod_undo_L44 (nI k) m a1 a2) 19
          (fun t a1 a2 => a1 = nI t ∧ am_ex [137] h1 a2 ∧ (∀ j, j < 26 ∨ 45 ≤ j → a2.2.1 137 j = va_up (h1.2.1 137) 45 (nI (g.1.2.2.1 - k)) j) ∧ ∀ j, j < t → a2.2.1 137 (26 + j) = h1.2.1 137 (46 + 19 * (g.1.2.2.1 - k) + j))
          (fun c => am_ex [137] h1 c.2 ∧ (∀ j, j < 26 ∨ 45 ≤ j → c.2.2.1 137 j = va_up (h1.2.1 137) 45 (nI (g.1.2.2.1 - k)) j) ∧ ∀ j, j < 19 → c.2.2.1 137 (26 + j) = h1.2.1 137 (46 + 19 * (g.1.2.2.1 - k) + j))
          (fun m t a1 a2 ht hI => by
            obtain ⟨rfl, i2, i3, i4⟩ := hI
            have ee : (46 : Int32) + (19 : Int32) * nI (g.1.2.2.1 - k) + nI t = nI (46 + 19 * (g.1.2.2.1 - k) + t) := by
              have h1 : (19 : Int32) * nI (g.1.2.2.1 - k) = nI (19 * (g.1.2.2.1 - k)) := nI_mul 19 _
              have h2 : (46 : Int32) + nI (19 * (g.1.2.2.1 - k)) = nI (46 + 19 * (g.1.2.2.1 - k)) := nI_add 46 _
              rw [h1, h2, nI_add]
            have e26 : (26 : Int32) + nI t = nI (26 + t) := nI_add 26 t
            rw [f_Mod_undo_L44, if_neg (show ¬ (19 : Int32) ≤ nI t from nI_ge (b := 19) ht (by decide)), rd_lit (by decide) (by decide), Option.bind_some, i3 45 (by omega), up_s, ee, n_rd (by omega) (by decide), Option.bind_some, i3 _ (by omega), up_n (by omega), e26, n_wr (by omega) (by decide), Option.bind_some]
            refine ⟨_, _, rfl, nI_up, i2.tr (am_ex.sI (X := [137]) (by decide)) (fun _ z => z) (fun _ z => z), fun j hj => ?_, fun j hj => ?_⟩
            · rw [sI_row, if_pos rfl, up_n (by omega)]; exact i3 j hj
            · rw [sI_row, if_pos rfl]
              by_cases c : j = t
              · subst c; rw [up_s]
              · rw [up_n (by omega)]; exact i4 j (by omega))
          (fun m a1 a2 hI => by
            obtain ⟨rfl, i2⟩ := hI
            rw [f_Mod_undo_L44, if_pos (show (19 : Int32) ≤ nI 19 by decide)]
            exact ⟨_, rfl, i2⟩) (by decide) 0 (am_sI h1 137 45 (nI (g.1.2.2.1 - k))) ⟨rfl, am_ex.sI (by decide), fun j _ => by rw [r0], fun j hj => by omega⟩
        unfold f_Mod_undo
        simp only [am_let]
        rw [hh1, e, Option.bind_some, if_tt, rd_lit (by decide) (by decide), Option.bind_some, e45, if_pos (nI_le c (by omega)), Option.bind_some, nI_sub c, wr_lit (by decide) (by decide), Option.bind_some, f1, Option.bind_some]
        rw [rd_lit (by decide) (by decide), Option.bind_some, f3 45 (by omega), up_s]
        obtain ⟨N1, N2, ⟨P1, P2⟩, N4, N5, N6, N7⟩ := M1
        have rr : ∀ j, j < 26 ∨ 46 ≤ j → c'.2.2.1 137 j = h1.2.1 137 j := fun j hj => by rw [f3 j (by omega), up_n (by omega)]
        refine ⟨_, rfl, ⟨mR.cg hr N1 (fun j hj => rr j (by omega)), (P2 (g.1.2.2.1 - k) (by omega)).mv hr (fun j hj => f4 j hj), ⟨?_, fun i hi => (P2 i ?_).mv hr (fun j hj => rr _ (by omega))⟩, RM.cgI (g := g) (h := h1) (fun i hi q hq => (v.2.2.2.2.1 i hi q hq).1) N4 (fun j hj => rr j (by omega)) (f2.2.2 138 (by decide)), ⟨?_, ?_⟩, ⟨?_, ?_⟩, ?_⟩, k0.1.tr (f2.frM (by decide))⟩
        · rw [f3 45 (by omega), up_s]; rfl
        · have hi' : i < g.1.2.2.1 - k := hi
          omega
        · rw [f2.2.2 136 (by decide)]; exact N5.1
        · rw [f2.2.2 139 (by decide)]; exact N5.2
        · rw [f2.2.2 136 (by decide)]; exact N6.1
        · rw [f2.2.2 136 (by decide)]; exact N6.2
        · intro i hi
          rw [f2.2.2 158 (by decide), f2.2.2 159 (by decide), f2.2.1]
          exact N7 i hi
    · refine st_same v T (-3) ?_ (fun h' M => ?_)
      · unfold f_Top_undo
        rw [if_neg (show ¬ nI k < (1 : Int32) from nI_nlt (a := k) (b := 1) hk1 (by omega)), if_neg (show ¬ (10 : Int32) < nI k from nI_nlt (a := 10) (b := k) hk (by decide)), p9, if_neg (nI_ge (by omega) (by omega))]
      · obtain ⟨k0, MV⟩ := s0M M v hb
        have M1 := M.ke k0
        have e45 : (am_sI h' 136 0 0).2.1 137 45 = nI g.1.2.2.1 := M1.2.2.1.1
        unfold f_Mod_undo
        simp only [am_let]
        rw [e, Option.bind_some, if_tt, rd_lit (by decide) (by decide), Option.bind_some, e45, if_neg (nI_ge (by omega) (by omega))]
        exact ⟨_, rfl, k0⟩
  · refine st_same v T (-3) ?_ (fun h' M => ?_)
    · unfold f_Top_undo
      by_cases d : x < 1
      · rw [if_pos d]
      · rcases q with q | q
        · exact absurd q d
        · have : (10 : Int32) < x := by
            have q' : ¬ x ≤ (10 : Int32) := q
            rw [Int32.not_le] at q'
            exact q'
          rw [if_neg d, if_pos this]
    · unfold f_Mod_undo
      simp only [am_let]
      rw [e, Option.bind_some, if_ff]
      exact ⟨_, rfl, keM.s0 (by decide)⟩
