-- deps: 31.law 32.nat 33.bit 34.spec 35.riv 36.let 37.mod 38.mod 39.it 40.ahead 41.rel 42.ask 43.why 44.meet 45.err 46.err 47.wk 50.ways 51.way 52.tray
/-! ===== what can be undone ===== -/
def pst (n : Nat) (P : Nat → sS) (s : sS) : Nat × (Nat → sS) := if n < 10 then (n + 1, va_up P n s) else (10, fun i => if i < 9 then P (i + 1) else s)
/-- another state; a state more to undo -/
def gS' (g : sG) (s : sS) : sG := ((g.1.1, s, g.1.2.2.1, g.1.2.2.2), g.2)
def gP (g : sG) : sG := ((g.1.1, g.1.2.1, pst g.1.2.2.1 g.1.2.2.2 g.1.2.1), g.2)
theorem tS.mv {o o' : Nat} {r : sR} {s : sS} {h h' : am_H} (hr : vR r) (T : tS o r s h) (e0 : ∀ j, j < 3 → h'.2.1 o' j = h.2.1 o j) (e1 : ∀ j, j < 6 → h'.2.1 (o' + 1) j = h.2.1 (o + 1) j) (e2 : ∀ j, j < 5 → h'.2.1 (o' + 2) j = h.2.1 (o + 2) j) (e3 : ∀ j, j < 5 → h'.2.1 (o' + 3) j = h.2.1 (o + 3) j) : tS o' r s h' := by
  have hW := hr.2.1
  have hP := hr.2.2.1
  refine ⟨by rw [e0 0 (by omega)]; exact T.1, by rw [e0 1 (by omega)]; exact T.2.1, by rw [e0 2 (by omega)]; exact T.2.2.1, fun k hk => by rw [e1 k (by omega)]; exact T.2.2.2.1 k hk, fun p hp => ⟨by rw [e2 p (by omega)]; exact (T.2.2.2.2 p hp).1, by rw [e3 p (by omega)]; exact (T.2.2.2.2 p hp).2⟩⟩
/-- a state copied -/
theorem n_stCopy {h : am_H} {o q : Nat} (hq : q + 3 < o ∨ o + 3 < q) : ∃ h', f_State_copyFrom o q h = some h' ∧ h'.2.2 = h.2.2 ∧ (∀ a, a < o ∨ o + 3 < a → h'.2.1 a = h.2.1 a) ∧ (∀ j, j < 3 → h'.2.1 o j = h.2.1 q j) ∧ (∀ j, j < 6 → h'.2.1 (o + 1) j = h.2.1 (q + 1) j) ∧ (∀ j, j < 5 → h'.2.1 (o + 2) j = h.2.1 (q + 2) j) ∧ (∀ j, j < 5 → h'.2.1 (o + 3) j = h.2.1 (q + 3) j) := by
  unfold f_State_copyFrom
  simp only [am_let]
  have e6 : ∀ x o0 o1, am_cp x o0 6 0 o1 6 0 6 = _ := fun x o0 o1 => n_cp (h := x) (o0 := o0) (o1 := o1) (n0 := 6) (n1 := 6) (n := 6) (by decide) (by decide) (by decide)
  have e5 : ∀ x o0 o1, am_cp x o0 5 0 o1 5 0 5 = _ := fun x o0 o1 => n_cp (h := x) (o0 := o0) (o1 := o1) (n0 := 5) (n1 := 5) (n := 5) (by decide) (by decide) (by decide)
  rw [e6, Option.bind_some, e5, Option.bind_some, e5, Option.bind_some]
  refine ⟨_, rfl, rfl, fun a ha => ?_, fun j hj => ?_, fun j hj => ?_, fun j hj => ?_, fun j hj => ?_⟩
  · simp only [rI_row, sI_row]
    rw [if_neg (by omega), if_neg (by omega), if_neg (by omega), if_neg (by omega), if_neg (by omega), if_neg (by omega)]
  · simp only [rI_row, sI_row]
    rw [if_neg (show ¬ o = o + 3 by omega), if_neg (show ¬ o = o + 2 by omega), if_neg (show ¬ o = o + 1 by omega)]
    simp only [if_true, show ¬ q = o by omega, if_false]
    rcases (show j = 0 ∨ j = 1 ∨ j = 2 by omega) with rfl | rfl | rfl
    · rw [up_n (by decide), up_n (by decide), up_s]
    · rw [up_n (by decide), up_s]
    · rw [up_s]
  · simp only [rI_row, sI_row]
    rw [if_neg (show ¬ o + 1 = o + 3 by omega), if_neg (show ¬ o + 1 = o + 2 by omega)]
    simp only [if_true, hj, show ¬ q + 1 = o by omega, if_false]
  · simp only [rI_row, sI_row]
    rw [if_neg (show ¬ o + 2 = o + 3 by omega)]
    simp only [if_true, hj, show ¬ q + 2 = o + 1 by omega, show ¬ q + 2 = o by omega, if_false]
  · simp only [rI_row, sI_row]
    simp only [if_true, hj, show ¬ q + 3 = o + 2 by omega, show ¬ q + 3 = o + 1 by omega, show ¬ q + 3 = o by omega, if_false]
theorem md10 {k : Nat} (hk : k < 2 ^ 31) : nI k - nI k / (10 : Int32) * (10 : Int32) = nI (k % 10) := by
  have e : nI k / (10 : Int32) * (10 : Int32) = nI (k / 10 * 10) := (congrArg (· * (10 : Int32)) (nI_div hk (show (10 : Nat) < 2 ^ 31 by decide))).trans (nI_mul (k / 10) 10)
  rw [e, nI_sub (by omega)]
  congr 1
  omega
theorem n_keep {b : Nat} {g : sG} {h : am_H} (v : VG b g) (R : RT g h) : ∃ h1, f_Past_keep 10 h = some h1 ∧ h1.2.2 = h.2.2 ∧ (∀ a, a ≠ 18 → a < 20 ∨ 60 ≤ a → h1.2.1 a = h.2.1 a) ∧ (∀ j, j ≠ 1 → j ≠ 2 → h1.2.1 18 j = h.2.1 18 j) ∧ tPast (gP g) h1 := by
  have hr := v.1
  have hn := v.2.2.1
  obtain ⟨_, R2, ⟨e, q1, q2, q3, q4⟩, _⟩ := R
  generalize hN : g.1.2.2.1 = n at *
  obtain ⟨h1, c1, c2, c3, c4, c5, c6, c7⟩ := n_stCopy (h := h) (o := 20 + 4 * ((e + n) % 10)) (q := 10) (by omega)
  have hne : ∀ a, a < 20 → h1.2.1 a = h.2.1 a := fun a ha => c3 a (by omega)
  unfold f_Past_keep
  rw [q2, q3, nI_add, md10 (by omega), n_el (by omega) (by decide), Option.bind_some, c1, Option.bind_some, hne 18 (by omega), q3, q2]
  have s18 : h1.2.1 18 = h.2.1 18 := hne 18 (by omega)
  have hS : tS (20 + 4 * ((e + n) % 10)) g.1.1 g.1.2.1 h1 := R2.mv hr c4 c5 c6 c7
  have hold : ∀ i, i < n → (e + i) % 10 ≠ (e + n) % 10 → tS (20 + 4 * ((e + i) % 10)) g.1.1 (g.1.2.2.2 i) h1 := fun i hi hd => (q4 i hi).cg (fun a a1 a2 => c3 a (by omega))
  by_cases c : n < 10
  · rw [if_neg (show ¬ (10 : Int32) ≤ nI n from nI_ge (b := 10) c (by decide)), nI_up]
    refine ⟨_, rfl, c2, fun a ha1 ha2 => ?_, fun j hj1 hj2 => ?_, e, q1, ?_, ?_, fun i hi => ?_⟩
    · rw [sI_row, if_neg ha1]; exact c3 a (by omega)
    · rw [sI_row, if_pos rfl, up_n hj2, s18]
    · rw [sI_row, if_pos rfl, up_n (by decide), s18]; exact q2
    · rw [sI_row, if_pos rfl, up_s]
      show _ = nI (pst g.1.2.2.1 g.1.2.2.2 g.1.2.1).1
      unfold pst
      rw [hN, if_pos c]
    · have hi' : i < (pst g.1.2.2.1 g.1.2.2.2 g.1.2.1).1 := hi
      show tS (20 + 4 * ((e + i) % 10)) g.1.1 ((pst g.1.2.2.1 g.1.2.2.2 g.1.2.1).2 i) _
      unfold pst at hi' ⊢
      rw [hN, if_pos c] at hi' ⊢
      have hi2 : i < n + 1 := hi'
      show tS (20 + 4 * ((e + i) % 10)) g.1.1 (va_up g.1.2.2.2 n g.1.2.1 i) _
      by_cases d : i = n
      · subst d
        rw [up_s]
        exact hS.cg (fun a a1 a2 => by rw [sI_row, if_neg (by omega)])
      · rw [up_n d]
        exact (hold i (by omega) (by omega)).cg (fun a a1 a2 => by rw [sI_row, if_neg (by omega)])
  · have hn10 : n = 10 := by omega
    rw [hn10, if_pos (show (10 : Int32) ≤ nI 10 by decide), nI_up, md10 (by omega)]
    refine ⟨_, rfl, c2, fun a ha1 ha2 => ?_, fun j hj1 hj2 => ?_, (e + 1) % 10, by omega, ?_, ?_, fun i hi => ?_⟩
    · rw [sI_row, if_neg ha1]; exact c3 a (by omega)
    · rw [sI_row, if_pos rfl, up_n hj1, s18]
    · rw [sI_row, if_pos rfl, up_s]
    · rw [sI_row, if_pos rfl, up_n (by decide), s18, q3]
      show _ = nI (pst g.1.2.2.1 g.1.2.2.2 g.1.2.1).1
      unfold pst
      rw [hN, if_neg c, hn10]
    · have hi' : i < (pst g.1.2.2.1 g.1.2.2.2 g.1.2.1).1 := hi
      show tS (20 + 4 * (((e + 1) % 10 + i) % 10)) g.1.1 ((pst g.1.2.2.1 g.1.2.2.2 g.1.2.1).2 i) _
      unfold pst at hi' ⊢
      rw [hN, if_neg c] at hi' ⊢
      have hi2 : i < 10 := hi'
      show tS (20 + 4 * (((e + 1) % 10 + i) % 10)) g.1.1 (if i < 9 then g.1.2.2.2 (i + 1) else g.1.2.1) _
      by_cases d : i < 9
      · rw [if_pos d]
        have e1 : ((e + 1) % 10 + i) % 10 = (e + (i + 1)) % 10 := by omega
        rw [e1]
        exact (hold (i + 1) (by omega) (by omega)).cg (fun a a1 a2 => by rw [sI_row, if_neg (by omega)])
      · rw [if_neg d]
        have e1 : ((e + 1) % 10 + i) % 10 = (e + n) % 10 := by omega
        rw [e1]
        exact hS.cg (fun a a1 a2 => by rw [sI_row, if_neg (by omega)])
/-- the class is going to change its state -/
theorem n_will0 {b : Nat} {g : sG} {h : am_H} (v : VG b g) (R : RT g h) : ∃ h1, f_Top_willChange h = some h1 ∧ RT (gP g) h1 ∧ (h1.2.1 91 8 = 0 ∧ h1.2.1 91 9 = 0) ∧ frT h h1 ∧ ∀ a, a ≠ 18 → a ≠ 91 → a < 20 ∨ 60 ≤ a → h1.2.1 a = h.2.1 a := by
  obtain ⟨h1, c1, c2, c3, c4, c5⟩ := n_keep v R
  unfold f_Top_willChange f_Weeks_forget
  simp only [am_let]
  rw [c1, Option.bind_some, Option.bind_some]
  have e : ∀ a, a ≠ 18 → a ≠ 91 → a < 20 ∨ 60 ≤ a → (am_sI (am_sI h1 91 8 0) 91 9 0).2.1 a = h.2.1 a := fun a h1 h2 h3 => by
    rw [sI_row, if_neg h2, sI_row, if_neg h2]; exact c3 a h1 h3
  have eJ : (am_sI (am_sI h1 91 8 0) 91 9 0).2.2 = h.2.2 := c2
  have f8 : (am_sI (am_sI h1 91 8 0) 91 9 0).2.1 91 8 = 0 := by rw [sI_row, if_pos rfl, up_n (by decide), sI_row, if_pos rfl, up_s]
  have f9 : (am_sI (am_sI h1 91 8 0) 91 9 0).2.1 91 9 = 0 := by rw [sI_row, if_pos rfl, up_s]
  obtain ⟨R1, R2, R3, ⟨m, i1, i2, i3⟩, ⟨t1, t2⟩, ⟨u1, u2⟩, R7, R8, R9, R10⟩ := R
  refine ⟨_, rfl, ⟨R1.cg (fun a _ _ => e a (by omega) (by omega) (by omega)), R2.cg (fun a _ _ => e a (by omega) (by omega) (by omega)), ?_, ⟨m, i1, ?_, fun j hj => ⟨(i3 j hj).1, fun q hq => ⟨((i3 j hj).2 q hq).1.cg (fun a _ _ => e a (by omega) (by omega) (by omega)), ((i3 j hj).2 q hq).2.cg (fun a _ _ => e a (by omega) (by omega) (by omega))⟩⟩⟩, ⟨?_, ?_⟩, ⟨?_, ?_⟩, ?_, .inl f8, .inl f9, rf_id (by rw [eJ]) R10⟩, ⟨f8, f9⟩, fun a ha => ⟨e a (by omega) (by omega) (by omega), by rw [eJ]⟩, e⟩
  · obtain ⟨e0, p1, p2, p3, p4⟩ := c5
    refine ⟨e0, p1, ?_, ?_, fun i hi => (p4 i hi).cg (fun a _ _ => by rw [sI_row, if_neg (by omega), sI_row, if_neg (by omega)])⟩
    · rw [sI_row, if_neg (by decide), sI_row, if_neg (by decide)]; exact p2
    · rw [sI_row, if_neg (by decide), sI_row, if_neg (by decide)]; exact p3
  · rw [e 0 (by omega) (by omega) (by omega)]; exact i2
  · rw [e 0 (by omega) (by omega) (by omega)]; exact t1
  · rw [e 60 (by omega) (by omega) (by omega)]; exact t2
  · rw [e 61 (by omega) (by omega) (by omega)]; exact u1
  · rw [e 61 (by omega) (by omega) (by omega)]; exact u2
  · intro i hi
    rw [e (102 + 2 * i) (by omega) (by omega) (by omega), eJ]
    exact R7 i hi
theorem n_will {b : Nat} {g : sG} {h : am_H} (v : VG b g) (R : RT g h) : ∃ h1, f_Top_willChange h = some h1 ∧ RT (gP g) h1 ∧ (h1.2.1 91 8 = 0 ∧ h1.2.1 91 9 = 0) ∧ frT h h1 := by
  obtain ⟨h1, a, b, c, d, _⟩ := n_will0 v R
  exact ⟨h1, a, b, c, d⟩
/-- another state of the class -/
theorem RT.setS {g : sG} {h h' : am_H} {s : sS} (R : RT g h) (f8 : h.2.1 91 8 = 0) (f9 : h.2.1 91 9 = 0) (e : ∀ a, a < 136 → ¬ scr a → a < 10 ∨ 13 < a → h'.2.1 a = h.2.1 a) (eJ : ∀ i, i < 4 → h'.2.2.1 (103 + 2 * i) = h.2.2.1 (103 + 2 * i)) (rf : tRef h → tRef h') (T : tS 10 g.1.1 s h') : RT (gS' g s) h' := by
  obtain ⟨R1, R2, ⟨e0, q1, q2, q3, q4⟩, ⟨m, i1, i2, i3⟩, ⟨t1, t2⟩, ⟨u1, u2⟩, R7, R8, R9, R10⟩ := R
  refine ⟨R1.cg (fun a _ _ => e a (by omega) (by unfold scr; omega) (by omega)), T, ⟨e0, q1, ?_, ?_, fun i hi => (q4 i hi).cg (fun a _ _ => e a (by omega) (by unfold scr; omega) (by omega))⟩, ⟨m, i1, ?_, fun j hj => ⟨(i3 j hj).1, fun q hq => ⟨((i3 j hj).2 q hq).1.cg (fun a _ _ => e a (by omega) (by unfold scr; omega) (by omega)), ((i3 j hj).2 q hq).2.cg (fun a _ _ => e a (by omega) (by unfold scr; omega) (by omega))⟩⟩⟩, ⟨?_, ?_⟩, ⟨?_, ?_⟩, ?_, .inl ?_, .inl ?_, rf R10⟩
  · rw [e 18 (by omega) (by unfold scr; omega) (by omega)]; exact q2
  · rw [e 18 (by omega) (by unfold scr; omega) (by omega)]; exact q3
  · rw [e 0 (by omega) (by unfold scr; omega) (by omega)]; exact i2
  · rw [e 0 (by omega) (by unfold scr; omega) (by omega)]; exact t1
  · rw [e 60 (by omega) (by unfold scr; omega) (by omega)]; exact t2
  · rw [e 61 (by omega) (by unfold scr; omega) (by omega)]; exact u1
  · rw [e 61 (by omega) (by unfold scr; omega) (by omega)]; exact u2
  · intro i hi
    rw [e (102 + 2 * i) (by omega) (by unfold scr; omega) (by omega), eJ i hi]
    exact R7 i hi
  · rw [e 91 (by omega) (by unfold scr; omega) (by omega)]; exact f8
  · rw [e 91 (by omega) (by unfold scr; omega) (by omega)]; exact f9
theorem VG.push {b : Nat} {g : sG} {s : sS} (v : VG b g) (hs : vS (b + 48) g.1.1 s) : VG (b + 48) (gS' (gP g) s) := by
  have v2 := v.up (show b ≤ b + 48 by omega)
  refine ⟨v2.1, hs, ?_, fun i hi => ?_, v2.2.2.2.2.1, v2.2.2.2.2.2⟩
  · show (pst g.1.2.2.1 g.1.2.2.2 g.1.2.1).1 ≤ 10
    unfold pst
    have := v.2.2.1
    split
    · show g.1.2.2.1 + 1 ≤ 10; omega
    · exact Nat.le_refl _
  · have hi' : i < (pst g.1.2.2.1 g.1.2.2.2 g.1.2.1).1 := hi
    show vS (b + 48) g.1.1 ((pst g.1.2.2.1 g.1.2.2.2 g.1.2.1).2 i)
    have := v.2.2.1
    unfold pst at hi' ⊢
    by_cases c : g.1.2.2.1 < 10
    · rw [if_pos c] at hi' ⊢
      show vS (b + 48) g.1.1 (va_up g.1.2.2.2 g.1.2.2.1 g.1.2.1 i)
      have hi2 : i < g.1.2.2.1 + 1 := hi'
      by_cases d : i = g.1.2.2.1
      · rw [d, up_s]; exact v2.2.1
      · rw [up_n d]; exact v2.2.2.2.1 i (by omega)
    · rw [if_neg c] at hi' ⊢
      have hi2 : i < 10 := hi'
      show vS (b + 48) g.1.1 (if i < 9 then g.1.2.2.2 (i + 1) else g.1.2.1)
      split
      · exact v2.2.2.2.1 (i + 1) (by omega)
      · exact v2.2.1
/-! the reference -/
theorem mS.mv {A B : Nat → Int32} {a b : Nat} {r : sR} {s : sS} (hr : vR r) (M : mS A a r s) (e : ∀ j, j < 19 → B (b + j) = A (a + j)) : mS B b r s := by
  have hW := hr.2.1
  have hP := hr.2.2.1
  refine ⟨by have := e 0 (by omega); rw [Nat.add_zero, Nat.add_zero] at this; rw [this]; exact M.1, by rw [e 1 (by omega)]; exact M.2.1, by rw [e 2 (by omega)]; exact M.2.2.1, fun k hk => ?_, fun p hp => ⟨?_, ?_⟩⟩
  · rw [Nat.add_assoc, e (3 + k) (by omega), ← Nat.add_assoc]; exact M.2.2.2.1 k hk
  · rw [Nat.add_assoc, e (9 + p) (by omega), ← Nat.add_assoc]; exact (M.2.2.2.2 p hp).1
  · rw [Nat.add_assoc, e (14 + p) (by omega), ← Nat.add_assoc]; exact (M.2.2.2.2 p hp).2
theorem n_keeps {h : am_H} : ∃ h', f_Mod_keeps h = some h' ∧ am_ex [143] h h' ∧ ∀ j, j < 19 → h'.2.1 143 j = h.2.1 137 (26 + j) := by
  obtain ⟨c, f1, f2⟩ := lpc2 (fun m (a1 : Int32) (a2 : am_H) => f_Mod_keeps_L2 m a1 a2) 19
    (fun t a1 a2 => a1 = nI t ∧ am_ex [143] h a2 ∧ ∀ j, j < t → a2.2.1 143 j = h.2.1 137 (26 + j))
    (fun c => am_ex [143] h c.2 ∧ ∀ j, j < 19 → c.2.2.1 143 j = h.2.1 137 (26 + j))
    (fun m t a1 a2 ht hI => by
      obtain ⟨rfl, i2, i3⟩ := hI
      have e26 : (26 : Int32) + nI t = nI (26 + t) := nI_add 26 t
      rw [f_Mod_keeps_L2, if_neg (show ¬ (19 : Int32) ≤ nI t from nI_ge (b := 19) ht (by decide)), e26, n_rd (by omega) (by decide), Option.bind_some, n_wr ht (by decide), Option.bind_some]
      refine ⟨_, _, rfl, nI_up, i2.tr (am_ex.sI (X := [143]) (by decide)) (fun _ z => z) (fun _ z => z), fun j hj => ?_⟩
      rw [sI_row, if_pos rfl]
      by_cases c : j = t
      · subst c; rw [up_s, i2.2.2 137 (by decide)]
      · rw [up_n c]; exact i3 j (by omega))
    (fun m a1 a2 hI => by
      obtain ⟨rfl, i2⟩ := hI
      rw [f_Mod_keeps_L2, if_pos (show (19 : Int32) ≤ nI 19 by decide)]
      exact ⟨_, rfl, i2⟩) (by decide) 0 h ⟨rfl, am_ex.rf, fun j hj => by omega⟩
  unfold f_Mod_keeps
  rw [f1, Option.bind_some]
  exact ⟨_, rfl, f2⟩
theorem n_nt14 {h : am_H} : ∃ y h', f_Mod_notes_L14 am_fu 0 h = some (y, h') ∧ am_ex [137] h h' ∧ ∀ j, h'.2.1 137 j = if 46 ≤ j ∧ j < 217 then h.2.1 137 (j + 19) else h.2.1 137 j := by
  obtain ⟨c, f1, f2, f3⟩ := lpc2 (fun m (a1 : Int32) (a2 : am_H) => f_Mod_notes_L14 m a1 a2) 171
    (fun t a1 a2 => a1 = nI t ∧ am_ex [137] h a2 ∧ ∀ j, a2.2.1 137 j = if 46 ≤ j ∧ j < 46 + t then h.2.1 137 (j + 19) else h.2.1 137 j)
    (fun c => am_ex [137] h c.2 ∧ ∀ j, c.2.2.1 137 j = if 46 ≤ j ∧ j < 217 then h.2.1 137 (j + 19) else h.2.1 137 j)
    (fun m t a1 a2 ht hI => by
      obtain ⟨rfl, i2, i3⟩ := hI
      have e65 : (65 : Int32) + nI t = nI (65 + t) := nI_add 65 t
      have e46 : (46 : Int32) + nI t = nI (46 + t) := nI_add 46 t
      rw [f_Mod_notes_L14, if_neg (show ¬ (171 : Int32) ≤ nI t from nI_ge (b := 171) ht (by decide)), e65, n_rd (by omega) (by decide), Option.bind_some, e46, n_wr (by omega) (by decide), Option.bind_some]
      refine ⟨_, _, rfl, nI_up, i2.tr (am_ex.sI (X := [137]) (by decide)) (fun _ z => z) (fun _ z => z), fun j => ?_⟩
      rw [sI_row, if_pos rfl]
      by_cases c : j = 46 + t
      · subst c
        rw [up_s, if_pos (by omega), i3, if_neg (by omega), show 65 + t = 46 + t + 19 by omega]
      · rw [up_n c, i3]
        by_cases d : 46 ≤ j ∧ j < 46 + t
        · rw [if_pos d, if_pos (by omega)]
        · rw [if_neg d, if_neg (by omega)])
    (fun m a1 a2 hI => by
      obtain ⟨rfl, i2⟩ := hI
      rw [f_Mod_notes_L14, if_pos (show (171 : Int32) ≤ nI 171 by decide)]
      exact ⟨_, rfl, i2⟩) (by decide) 0 h ⟨rfl, am_ex.rf, fun j => by rw [if_neg (by omega)]⟩
  obtain ⟨c1, c2⟩ := c
  exact ⟨c1, c2, f1, f2, f3⟩
theorem n_nt58 {h : am_H} {n : Nat} (hn : n ≤ 9) (e : h.2.1 137 45 = nI n) : ∃ y h', f_Mod_notes_L58 am_fu 0 h = some (y, h') ∧ am_ex [137] h h' ∧ (∀ j, j < 46 + 19 * n ∨ 46 + 19 * n + 19 ≤ j → h'.2.1 137 j = h.2.1 137 j) ∧ ∀ j, j < 19 → h'.2.1 137 (46 + 19 * n + j) = h.2.1 143 j := by
  obtain ⟨c, f1, f2, f3⟩ := lpc2 (fun m (a1 : Int32) (a2 : am_H) => f_Mod_notes_L58 m a1 a2) 19
    (fun t a1 a2 => a1 = nI t ∧ am_ex [137] h a2 ∧ (∀ j, j < 46 + 19 * n ∨ 46 + 19 * n + 19 ≤ j → a2.2.1 137 j = h.2.1 137 j) ∧ ∀ j, j < t → a2.2.1 137 (46 + 19 * n + j) = h.2.1 143 j)
    (fun c => am_ex [137] h c.2 ∧ (∀ j, j < 46 + 19 * n ∨ 46 + 19 * n + 19 ≤ j → c.2.2.1 137 j = h.2.1 137 j) ∧ ∀ j, j < 19 → c.2.2.1 137 (46 + 19 * n + j) = h.2.1 143 j)
    (fun m t a1 a2 ht hI => by
      obtain ⟨rfl, i2, i3, i4⟩ := hI
      have e45 : a2.2.1 137 45 = nI n := by rw [i3 45 (by omega)]; exact e
      have ee : (46 : Int32) + (19 : Int32) * nI n + nI t = nI (46 + 19 * n + t) := by
        have h1 : (19 : Int32) * nI n = nI (19 * n) := nI_mul 19 n
        have h2 : (46 : Int32) + nI (19 * n) = nI (46 + 19 * n) := nI_add 46 _
        rw [h1, h2, nI_add]
      rw [f_Mod_notes_L58, if_neg (show ¬ (19 : Int32) ≤ nI t from nI_ge (b := 19) ht (by decide)), rd_lit (by decide) (by decide), Option.bind_some, e45, n_rd ht (by decide), Option.bind_some, ee, n_wr (by omega) (by decide), Option.bind_some]
      refine ⟨_, _, rfl, nI_up, i2.tr (am_ex.sI (X := [137]) (by decide)) (fun _ z => z) (fun _ z => z), fun j hj => ?_, fun j hj => ?_⟩
      · rw [sI_row, if_pos rfl, up_n (by omega)]; exact i3 j hj
      · rw [sI_row, if_pos rfl]
        by_cases c : j = t
        · subst c; rw [up_s, i2.2.2 143 (by decide)]
        · rw [up_n (by omega)]; exact i4 j (by omega))
    (fun m a1 a2 hI => by
      obtain ⟨rfl, i2⟩ := hI
      rw [f_Mod_notes_L58, if_pos (show (19 : Int32) ≤ nI 19 by decide)]
      exact ⟨_, rfl, i2⟩) (by decide) 0 h ⟨rfl, am_ex.rf, fun _ _ => rfl, fun j hj => by omega⟩
  obtain ⟨c1, c2⟩ := c
  exact ⟨c1, c2, f1, f2, f3⟩
/-- only the reference's state words changed, and what nobody asks for -/
def mW (h h' : am_H) : Prop := frM h h' ∧ (∀ a, (138 ≤ a ∧ a ≤ 139) ∨ 158 ≤ a → h'.2.1 a = h.2.1 a) ∧ h'.2.2.1 160 = h.2.2.1 160 ∧ (h'.2.1 136 5 = h.2.1 136 5 ∧ h'.2.1 136 13 = h.2.1 136 13 ∧ h'.2.1 136 14 = h.2.1 136 14) ∧ ∀ j, j < 26 ∨ 45 ≤ j → h'.2.1 137 j = h.2.1 137 j
theorem mW.tr {h h' h'' : am_H} (a : mW h h') (b : mW h' h'') : mW h h'' := ⟨a.1.tr b.1, fun x hx => (b.2.1 x hx).trans (a.2.1 x hx), b.2.2.1.trans a.2.2.1, ⟨b.2.2.2.1.1.trans a.2.2.2.1.1, b.2.2.2.1.2.1.trans a.2.2.2.1.2.1, b.2.2.2.1.2.2.trans a.2.2.2.1.2.2⟩, fun j hj => (b.2.2.2.2 j hj).trans (a.2.2.2.2 j hj)⟩
theorem keM.mW {h h' : am_H} (k : keM h h') : mW h h' := ⟨k.1, fun a ha => k.2.1 a (by omega), k.2.2.1, k.2.2.2, fun j _ => by rw [k.2.1 137 (by omega)]⟩
theorem mW.rf {h : am_H} : mW h h := keM.rf.mW
theorem mW.sI {h : am_H} {j : Nat} {x : Int32} (hj : 26 ≤ j ∧ j < 45) : mW h (am_sI h 137 j x) :=
  ⟨⟨fun a ha => ⟨by rw [sI_row, if_neg (by omega)], rfl⟩, rfl⟩, fun a ha => by rw [sI_row, if_neg (by omega)], rfl, ⟨rfl, rfl, rfl⟩, fun i hi => by rw [sI_row, if_pos rfl, up_n (by omega)]⟩
theorem mW.mV {h h' : am_H} {r : sR} {s s' : sS} (w : mW h h') (V : mV (h.2.1 137) r s) (v' : vS 100000 r s') (M : mS (h'.2.1 137) 26 r s') : mV (h'.2.1 137) r s' :=
  ⟨V.1, v', mR.cg V.1 V.2.2.1 (fun j hj => w.2.2.2.2 j (by omega)), M⟩
theorem RM.cgI {g : sG} {h h' : am_H} (hv : ∀ i, i < 2 → ∀ q, g.2.1 i = some q → vR q.1) (R : mImg g h) (e : ∀ j, 1137 ≤ j → h'.2.1 137 j = h.2.1 137 j) (e2 : h'.2.1 138 = h.2.1 138) : mImg g h' := by
  intro i hi
  rw [e2]
  refine ⟨(R i hi).1, fun q hq => ?_⟩
  obtain ⟨a1, a2, a3⟩ := (R i hi).2 q hq
  refine ⟨a1, ?_, a3.mv (hv i hi q hq) (fun j hj => e _ (by omega))⟩
  have : (fun j => h'.2.1 137 (1137 * (i + 1) + j)) = (fun j => h.2.1 137 (1137 * (i + 1) + j)) := funext (fun j => e _ (by omega))
  rw [this]
  exact a2
/-- the reference notes what was -/
theorem n_notes {b : Nat} {g : sG} {h0 h : am_H} {s : sS} (v : VG b g) (R : RM g h0) (w : mW h0 h) (k : ∀ j, j < 19 → h.2.1 143 j = h0.2.1 137 (26 + j)) (M : mS (h.2.1 137) 26 g.1.1 s) : ∃ h', f_Mod_notes h = some h' ∧ RM (gS' (gP g) s) h' ∧ frM h h' ∧ (∀ a, a ≠ 137 → h'.2.1 a = h.2.1 a) ∧ ∀ j, j < 45 → h'.2.1 137 j = h.2.1 137 j := by
  have hr := v.1
  have hn := v.2.2.1
  obtain ⟨M1, M2, ⟨P1, P2⟩, M4, M5, M6, M7⟩ := R
  have e45 : h.2.1 137 45 = nI g.1.2.2.1 := by rw [w.2.2.2.2 45 (by omega)]; exact P1
  -- what is enough to know of the end
  have fin : ∀ h', am_ex [137] h h' → (∀ j, j < 45 ∨ 237 ≤ j → h'.2.1 137 j = h.2.1 137 j) → h'.2.1 137 45 = nI (pst g.1.2.2.1 g.1.2.2.2 g.1.2.1).1 → (∀ i, i < (pst g.1.2.2.1 g.1.2.2.2 g.1.2.1).1 → mS (h'.2.1 137) (46 + 19 * i) g.1.1 ((pst g.1.2.2.1 g.1.2.2.2 g.1.2.1).2 i)) → RM (gS' (gP g) s) h' ∧ frM h h' ∧ (∀ a, a ≠ 137 → h'.2.1 a = h.2.1 a) ∧ ∀ j, j < 45 → h'.2.1 137 j = h.2.1 137 j := fun h' x1 x2 x3 x4 => by
    refine ⟨⟨?_, ?_, ⟨x3, x4⟩, ?_, ⟨?_, ?_⟩, ⟨?_, ?_⟩, ?_⟩, x1.frM (by decide), fun a ha => x1.2.2 a (by simpa using ha), fun j hj => x2 j (by omega)⟩
    · exact mR.cg hr M1 (fun j hj => by rw [x2 j (by omega), w.2.2.2.2 j (by omega)])
    · exact M.mv hr (fun j hj => x2 _ (by omega))
    · exact RM.cgI (g := g) (h := h0) (fun i hi q hq => (v.2.2.2.2.1 i hi q hq).1) M4 (fun j hj => by rw [x2 j (by omega), w.2.2.2.2 j (by omega)]) (by rw [x1.2.2 138 (by decide), w.2.1 138 (by omega)])
    · rw [x1.2.2 136 (by decide), w.2.2.2.1.1]; exact M5.1
    · rw [x1.2.2 139 (by decide), w.2.1 139 (by omega)]; exact M5.2
    · rw [x1.2.2 136 (by decide), w.2.2.2.1.2.1]; exact M6.1
    · rw [x1.2.2 136 (by decide), w.2.2.2.1.2.2]; exact M6.2
    · intro i hi
      rw [x1.2.2 158 (by decide), x1.2.2 159 (by decide), x1.2.1, w.2.1 158 (by omega), w.2.1 159 (by omega), w.2.2.1]
      exact M7 i hi
  unfold f_Mod_notes
  rw [rd_lit (by decide) (by decide), Option.bind_some, e45]
  by_cases c : g.1.2.2.1 < 10
  · rw [if_neg (show ¬ nI g.1.2.2.1 = (10 : Int32) from fun q => by have := (nI_eq (b := 10) (by omega) (by decide)).mp q; omega), Option.bind_some]
    obtain ⟨y, h1, d1, d2, d3, d4⟩ := n_nt58 (h := h) (n := g.1.2.2.1) (by omega) e45
    have e45' : h1.2.1 137 45 = nI g.1.2.2.1 := by rw [d3 45 (by omega)]; exact e45
    rw [d1, Option.bind_some]
    simp only
    rw [rd_lit (by decide) (by decide), Option.bind_some, e45', nI_up, wr_lit (by decide) (by decide), Option.bind_some]
    refine ⟨_, rfl, fin _ (d2.tr (am_ex.sI (X := [137]) (by decide)) (fun _ z => z) (fun _ z => z)) (fun j hj => ?_) ?_ (fun i hi => ?_)⟩
    · rw [sI_row, if_pos rfl, up_n (by omega)]; exact d3 j (by omega)
    · rw [sI_row, if_pos rfl, up_s]
      unfold pst
      rw [if_pos c]
    · unfold pst at hi ⊢
      rw [if_pos c] at hi ⊢
      have hi2 : i < g.1.2.2.1 + 1 := hi
      show mS _ (46 + 19 * i) g.1.1 (va_up g.1.2.2.2 g.1.2.2.1 g.1.2.1 i)
      by_cases d : i = g.1.2.2.1
      · rw [d, up_s]
        exact M2.mv hr (fun j hj => by rw [sI_row, if_pos rfl, up_n (by omega), d4 j hj, k j hj])
      · rw [up_n d]
        exact (P2 i (by omega)).mv hr (fun j hj => by rw [sI_row, if_pos rfl, up_n (by omega), d3 _ (by omega), w.2.2.2.2 _ (by omega)])
  · have h10 : g.1.2.2.1 = 10 := by omega
    obtain ⟨y0, h2, s1, s2, s3⟩ := n_nt14 (h := h)
    have e2 : h2.2.1 137 45 = nI 10 := by rw [s3, if_neg (by omega), e45, h10]
    have e9 : (10 : Int32) - 1 = nI 9 := rfl
    rw [h10, if_pos (show nI 10 = (10 : Int32) from rfl), s1, Option.bind_some]
    simp only
    rw [rd_lit (by decide) (by decide), Option.bind_some, e2, show nI 10 - (1 : Int32) = nI 9 from rfl, wr_lit (by decide) (by decide), Option.bind_some, Option.bind_some]
    have e45b : (am_sI h2 137 45 (nI 9)).2.1 137 45 = nI 9 := by rw [sI_row, if_pos rfl, up_s]
    obtain ⟨y, h1, d1, d2, d3, d4⟩ := n_nt58 (h := am_sI h2 137 45 (nI 9)) (n := 9) (by omega) e45b
    have e45' : h1.2.1 137 45 = nI 9 := by rw [d3 45 (by omega)]; exact e45b
    rw [d1, Option.bind_some]
    simp only
    rw [rd_lit (by decide) (by decide), Option.bind_some, e45', nI_up, wr_lit (by decide) (by decide), Option.bind_some]
    have r0 : ∀ j, j ≠ 45 → (am_sI h2 137 45 (nI 9)).2.1 137 j = h2.2.1 137 j := fun j hj => by rw [sI_row, if_pos rfl, up_n hj]
    refine ⟨_, rfl, fin _ (((s2.tr (am_ex.sI (X := [137]) (by decide)) (Z := [137]) (fun _ z => z) (fun _ z => z)).tr d2 (fun _ z => z) (fun _ z => z)).tr (am_ex.sI (X := [137]) (by decide)) (fun _ z => z) (fun _ z => z)) (fun j hj => ?_) ?_ (fun i hi => ?_)⟩
    · rw [sI_row, if_pos rfl, up_n (by omega), d3 j (by omega), r0 j (by omega), s3, if_neg (by omega)]
    · rw [sI_row, if_pos rfl, up_s]
      unfold pst
      rw [if_neg c]
    · unfold pst at hi ⊢
      rw [if_neg c] at hi ⊢
      have hi2 : i < 10 := hi
      show mS _ (46 + 19 * i) g.1.1 (if i < 9 then g.1.2.2.2 (i + 1) else g.1.2.1)
      by_cases d : i < 9
      · rw [if_pos d]
        exact (P2 (i + 1) (by omega)).mv hr (fun j hj => by
          rw [sI_row, if_pos rfl, up_n (by omega), d3 _ (by omega), r0 _ (by omega), s3, if_pos (by omega), w.2.2.2.2 _ (by omega), show 46 + 19 * i + j + 19 = 46 + 19 * (i + 1) + j by omega])
      · rw [if_neg d]
        have h9 : i = 9 := by omega
        subst h9
        have k143 : ∀ j, (am_sI h2 137 45 (nI 9)).2.1 143 j = h.2.1 143 j := fun j => by rw [sI_row, if_neg (by decide), s2.2.2 143 (by decide)]
        exact M2.mv hr (fun j hj => by rw [sI_row, if_pos rfl, up_n (by omega), d4 j hj, k143, k j hj])
