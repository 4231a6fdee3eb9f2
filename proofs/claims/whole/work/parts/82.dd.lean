-- deps: 73.eval 74.wrd 75.tok 76.next 77.cut 78.prs 79.rec 80.rd 81.unit
/-! ===== the drafts of both readers ===== -/
def fA (h h' : am_H) : Prop := (∀ a, a < 61 ∨ 82 < a → h'.2.1 a = h.2.1 a) ∧ h'.2.2.1 = h.2.2.1 ∧ ∀ a, a ≠ 61 → h'.2.2.2 a = h.2.2.2 a
def fB (h h' : am_H) : Prop := am_ex [136, 140] h h' ∧ ∀ j, j < 6 ∨ j = 13 ∨ j = 14 → h'.2.1 136 j = h.2.1 136 j
theorem fA.rf {h : am_H} : fA h h := ⟨fun _ _ => rfl, rfl, fun _ _ => rfl⟩
theorem fA.tr {h h' h'' : am_H} (a : fA h h') (b : fA h' h'') : fA h h'' := ⟨fun x q => (b.1 x q).trans (a.1 x q), b.2.1.trans a.2.1, fun x q => (b.2.2 x q).trans (a.2.2 x q)⟩
theorem am_ex.fA {X : List Nat} {h h' : am_H} (x : am_ex X h h') (hX : ∀ a ∈ X, 61 ≤ a ∧ a ≤ 82) : fA h h' := ⟨fun a q => x.2.2 a (fun z => by have := hX a z; omega), by rw [x.2.1], fun a _ => by rw [x.2.1]⟩
theorem fA.x1 {h h' : am_H} (x : am_ex [61] h h') : fA h h' := x.fA (fun a z => by rw [List.mem_singleton] at z; omega)
theorem fA.sI {h : am_H} {o j : Nat} {x : Int32} (ho : 61 ≤ o ∧ o ≤ 82) : fA h (am_sI h o j x) := am_ex.fA (X := [o]) (am_ex.sI (by simp)) (fun a z => by rw [List.mem_singleton] at z; omega)
theorem fB.rf {h : am_H} : fB h h := ⟨am_ex.rf, fun _ _ => rfl⟩
theorem fB.tr {h h' h'' : am_H} (a : fB h h') (b : fB h' h'') : fB h h'' := ⟨a.1.tr b.1 (fun _ z => z) (fun _ z => z), fun x q => (b.2 x q).trans (a.2 x q)⟩
theorem fM.fB {h h' : am_H} (a : fM h h') : fB h h' := ⟨a.1, fun j q => a.2.1 j (by omega)⟩
theorem nw8.fB {h h' : am_H} (a : nw8 h h') : fB h h' := a.fM.fB
theorem fB.s140 {h : am_H} {j : Nat} {x : Int32} : fB h (am_sI h 140 j x) := ⟨am_ex.sI (by decide), fun i _ => by rw [sI_row, if_neg (by decide)]⟩
/-- both stand at a token from b on, or have found one fault -/
def U (B : Nat → Nat) (n M b : Nat) (hc hm : am_H) : Prop := Jf hc hm ∨ ∃ i, b ≤ i ∧ Jo B n M i hc hm
theorem xpcU {B : Nat → Nat} {n M b : Nat} {hc hm : am_H} (tk : tkM B n M) (u : U B n M b hc hm) {k : Nat} (hk : k ∈ kds) (h0 : k ≠ 0) (h1 : k ≠ 1) : ∃ hc' hm', f_Reader_expect (nI k) hc = some hc' ∧ eof (nI (rk k)) hm = some hm' ∧ am_ex [61] hc hc' ∧ nw8 hm hm' ∧ U B n M (b + 1) hc' hm' := by
  have hl := rk_lt k hk
  rcases u with f | ⟨i, hi, j⟩
  · exact ⟨hc, hm, cF_expect f (by omega), mF_eof f _, am_ex.rf, nw8.rf, .inl f⟩
  · obtain ⟨hc', hm', a1, a2, a3, a4, a5⟩ := xpc tk j hk h0 h1
    refine ⟨hc', hm', a1, a2, a3, a4, ?_⟩
    rcases a5 with ⟨_, _, j'⟩ | f
    · exact .inr ⟨i + 1, by omega, j'⟩
    · exact .inl f
theorem numU {B : Nat → Nat} {n M b : Nat} {hc hm : am_H} (tk : tkM B n M) (u : U B n M b hc hm) {lo hi : Nat} (hh : hi < 2 ^ 30) (hl : lo ≤ hi) : ∃ w y hc' hm', f_Reader_readNumber (nI lo) (nI hi) hc = some (nI w, hc') ∧ f_Mod_takes (nI lo) (nI hi) hm = some (y, hm') ∧ lo ≤ w ∧ w ≤ hi ∧ am_ex [61] hc hc' ∧ nw8 hm hm' ∧ (Jf hc' hm' ∨ ∃ i, b + 1 ≤ i ∧ Jo B n M i hc' hm' ∧ y = nI w) := by
  rcases u with f | ⟨i, hi', j⟩
  · exact ⟨lo, _, hc, hm, cF_num f _ _, mF_num f _ _, Nat.le_refl _, hl, am_ex.rf, nw8.rf, .inl f⟩
  · obtain ⟨x, y, hc', hm', a1, a2, a3, a4, a5⟩ := num tk j hh (show lo < 2 ^ 30 by omega)
    rcases a5 with ⟨v, _, _, c1, c2, rfl, rfl, _, j'⟩ | ⟨rfl, f⟩
    · exact ⟨v, _, hc', hm', a1, a2, c1, c2, a3, a4, .inr ⟨i + 1, by omega, j', rfl⟩⟩
    · exact ⟨lo, y, hc', hm', a1, a2, Nat.le_refl _, hl, a3, a4, .inl f⟩
theorem spotU {B : Nat → Nat} {n M b G : Nat} {hc hm : am_H} (tk : tkM B n M) (u : U B n M b hc hm) (hG : 2 ≤ G ∧ G ≤ 4) (g1 : hc.2.1 62 0 = nI G) (g2 : hm.2.1 140 1 = nI G) : ∃ x y hc' hm', f_Reader_readSpot hc = some (x, hc') ∧ f_Mod_readSpot hm = some (y, hm') ∧ am_ex [61] hc hc' ∧ nw8 hm hm' ∧ (Jf hc' hm' ∨ ∃ i s, b + 1 ≤ i ∧ Jo B n M i hc' hm' ∧ s < 2 * G ∧ x = nI s ∧ y = nI s) := by
  have e1 : nI G - (1 : Int32) = nI (G - 1) := nI_sub (b := 1) (by omega)
  have r1 : am_rd (hm.2.1 140) 1137 (1 : Int32) = some (nI G) := (n_rd (i := 1) (by decide) (by decide)).trans (by rw [g2])
  obtain ⟨w, y, hc1, hm1, a1, a2, a3, a4, a5, a6, a7⟩ := numU tk u (lo := 0) (hi := G - 1) (by omega) (by omega)
  have a1' : f_Reader_readNumber (0 : Int32) (nI (G - 1)) hc = some (nI w, hc1) := a1
  have a2' : f_Mod_takes (0 : Int32) (nI (G - 1)) hm = some (y, hm1) := a2
  have w2 : (2 : Int32) * nI w = nI (2 * w) := nI_mul 2 w
  unfold f_Reader_readSpot f_Mod_readSpot
  simp only [am_let]
  rw [g1, r1, Option.bind_some, e1, a1', a2', Option.bind_some, Option.bind_some]
  rcases a7 with f | ⟨i, hi, j, rfl⟩
  · have t107 : f_Reader_take (107 : Int32) hc1 = some (false, hc1) := cF_take f (k := 107) (by decide)
    have x108 : f_Reader_expect (108 : Int32) hc1 = some hc1 := cF_expect f (k := 108) (by decide)
    simp only [t107, x108, mF_is f, mF_eats f, mF_fails f, Option.bind_some, Bool.false_eq_true, if_false]
    exact ⟨_, _, _, _, rfl, rfl, a5, a6, .inl f⟩
  · have e7 : f_Mod_is (7 : Int32) hm1 = some (decide (kdd B n i = 108)) := mR_is tk j (k := 108) (by decide)
    simp only [e7, Option.bind_some, decide_eq_true_eq]
    rcases tke tk j (k := 108) (by decide) (by decide) (by decide) with ⟨b1, b2, hm2, b3, b4, b5, b6⟩ | ⟨b1, b2, b3⟩
    · have t107 : f_Reader_take (107 : Int32) hc1 = some (false, hc1) := takeN tk j (k := 107) (by omega) (by decide)
      have x108 : f_Reader_expect (108 : Int32) hc1 = some (am_sI hc1 61 3 (nI (i + 1))) := by
        unfold f_Reader_expect
        have b3' : f_Reader_take (108 : Int32) hc1 = some (true, am_sI hc1 61 3 (nI (i + 1))) := b3
        rw [b3', Option.bind_some, if_pos rfl]
      have b4' : f_Mod_eats (7 : Int32) hm1 = some (true, hm2) := b4
      simp only [t107, x108, b4', Option.bind_some, Bool.false_eq_true, if_false, if_true, if_pos b1, w2]
      have e2 : nI (2 * w) + (1 : Int32) = nI (2 * w + 1) := nI_up
      rw [e2]
      exact ⟨_, _, _, _, rfl, rfl, a5.tr (am_ex.sI (X := [61]) (by decide)) (fun _ z => z) (fun _ z => z), a6.tr b6, .inr ⟨i + 1, 2 * w + 1, by omega, b5, by omega, rfl, rfl⟩⟩
    · have b3' : f_Mod_eats (7 : Int32) hm1 = some (false, hm1) := b3
      have b2' : f_Reader_take (108 : Int32) hc1 = some (false, hc1) := b2
      rcases tke tk j (k := 107) (by decide) (by decide) (by decide) with ⟨d1, d2, hm2, d3, d4, d5, d6⟩ | ⟨d1, d2, d3⟩
      · have d3' : f_Reader_take (107 : Int32) hc1 = some (true, am_sI hc1 61 3 (nI (i + 1))) := d3
        have d4' : f_Mod_eats (6 : Int32) hm1 = some (true, hm2) := d4
        simp only [d3', d4', b3', Option.bind_some, Bool.false_eq_true, if_false, if_true, if_neg b1, w2]
        have e2 : nI (2 * w) + (0 : Int32) = nI (2 * w) := nI_add (2 * w) 0
        rw [e2]
        exact ⟨_, _, _, _, rfl, rfl, a5.tr (am_ex.sI (X := [61]) (by decide)) (fun _ z => z) (fun _ z => z), a6.tr d6, .inr ⟨i + 1, 2 * w, by omega, d5, by omega, rfl, rfl⟩⟩
      · have d2' : f_Reader_take (107 : Int32) hc1 = some (false, hc1) := d2
        have d3' : f_Mod_eats (6 : Int32) hm1 = some (false, hm1) := d3
        obtain ⟨hc2, hm2, c1, c2, c3, c4, c5⟩ := blm tk j (k := 2) (by decide) (by decide)
        have c1' : f_Reader_blame (2 : Int32) hc1 = some hc2 := c1
        have c2' : f_Mod_fails (2 : Int32) hm1 = some hm2 := c2
        have x108 : f_Reader_expect (108 : Int32) hc1 = some hc2 := by
          unfold f_Reader_expect
          rw [b2', Option.bind_some, if_neg Bool.false_ne_true, c1', Option.bind_some]
        simp only [d2', d3', b3', x108, c2', Option.bind_some, Bool.false_eq_true, if_false]
        exact ⟨_, _, _, _, rfl, rfl, a5.tr c4 (fun _ z => z) (fun _ z => z), a6.tr c5, .inl c3⟩
/-- pairs of places: the class's row and slot, the reference's slot -/
def prt (t : Nat) : Nat × Nat × Nat := if t = 0 then (62, 0, 1) else if t = 1 then (62, 1, 2) else if t = 2 then (62, 3, 4) else if t = 3 then (62, 4, 26) else if t = 4 then (62, 5, 0) else if t < 11 then (63, t - 5, 24 + t) else if t < 16 then (64, t - 11, 24 + t) else if t < 21 then (65, t - 16, t - 5) else if t < 26 then (66, t - 21, t - 5) else (67, t - 26, t - 5)
def prtB : Bool := (List.range 31).all (fun t => (List.range 31).all (fun u => decide (t = u) || ((decide ((prt t).1 ≠ (prt u).1) || decide ((prt t).2.1 ≠ (prt u).2.1)) && decide ((prt t).2.2 ≠ (prt u).2.2))))
theorem prtB_t : prtB = true := by decide +kernel
theorem prt_inj {t u : Nat} (ht : t < 31) (hu : u < 31) (h : t ≠ u) : ((prt t).1 ≠ (prt u).1 ∨ (prt t).2.1 ≠ (prt u).2.1) ∧ (prt t).2.2 ≠ (prt u).2.2 := by
  have h1 := List.all_eq_true.mp prtB_t t (List.mem_range.mpr ht)
  have h2 := List.all_eq_true.mp h1 u (List.mem_range.mpr hu)
  simp only [Bool.or_eq_true, Bool.and_eq_true, decide_eq_true_eq] at h2
  rcases h2 with q | q
  · exact absurd q h
  · exact q
theorem prt_r : ∀ t, t < 31 → (62 ≤ (prt t).1 ∧ (prt t).1 ≤ 67 ∧ ((prt t).1 = 62 → (prt t).2.1 ≠ 2)) ∧ ((prt t).2.2 < 40 ∧ (prt t).2.2 ≠ 3 ∧ ¬ (5 ≤ (prt t).2.2 ∧ (prt t).2.2 ≤ 10) ∧ (prt t).2.2 ≠ 27 ∧ (prt t).2.2 ≠ 28) ∧ ((prt t).2.2 < 16 ∨ 25 < (prt t).2.2 ∨ 21 ≤ t) := by decide +kernel
def Qt (G W i t : Nat) (x : Int32) : Prop := if t = 0 then x = nI G else if t = 1 then x = nI W else if t = 2 then ∃ v, v ≤ 10 ∧ x = nI v else if t = 3 then ∃ v, v ≤ 999 ∧ x = nI v else if t = 4 then ∃ v, v ≤ i ∧ x = nI v else if t < 11 then ∃ l : Option Nat, (∀ g, l = some g → g < G) ∧ x = oI l else if t < 16 then ∃ s, s < 2 * G ∧ x = nI s else if t < 21 then ∃ v, v ≤ 99 ∧ x = nI v else if t < 26 then (x = -1 ∨ ∃ g, g < 2 * G ∧ x = nI g) else (x = -1 ∨ ∃ v, v ≤ 999 ∧ x = nI v)
theorem Qt.up {G W i i' t : Nat} {x : Int32} (h : Qt G W i t x) (hi : i ≤ i') : Qt G W i' t x := by
  unfold Qt at h ⊢
  by_cases c : t = 4
  · subst c
    obtain ⟨v, h1, h2⟩ := h
    exact ⟨v, Nat.le_trans h1 hi, h2⟩
  · simp only [if_neg c] at h ⊢
    exact h
def act (Ps t : Nat) : Prop := ¬ (11 + Ps ≤ t ∧ t < 16)
/-- a law of both drafts -/
def LW (law C : Nat) (hc hm : am_H) : Prop := (hc.2.1 (75 + 4 * law) 0 = 0 ∧ hm.2.1 140 (5 + law) = 0) ∨ (hc.2.1 (75 + 4 * law) 0 = 1 ∧ hm.2.1 140 (5 + law) = 1 ∧ ∃ frm many, frm + many ≤ C ∧ hm.2.1 140 (7 + law) = nI frm ∧ hm.2.1 140 (9 + law) = nI many ∧ hc.2.1 (75 + 4 * law) 1 = nI many ∧ (∀ j, j < many → hc.2.1 (75 + 4 * law + 1) j = mpc (hm.2.1 140 (237 + frm + j))) ∧ tyc (nI (1006 - law)) (cds (hm.2.1 140) (237 + frm) many) [] = some [true])
theorem LW.cg {law C C' : Nat} {hc hm hc' hm' : am_H} (L : LW law C hc hm) (hlaw : law < 2) (hC : C ≤ C') (a1 : hc'.2.1 (75 + 4 * law) 0 = hc.2.1 (75 + 4 * law) 0) (a2 : hc'.2.1 (75 + 4 * law) 1 = hc.2.1 (75 + 4 * law) 1) (a3 : hc'.2.1 (75 + 4 * law + 1) = hc.2.1 (75 + 4 * law + 1)) (b1 : ∀ j, 5 + law = j ∨ 7 + law = j ∨ 9 + law = j → hm'.2.1 140 j = hm.2.1 140 j) (b2 : ∀ j, j < C → hm'.2.1 140 (237 + j) = hm.2.1 140 (237 + j)) : LW law C' hc' hm' := by
  unfold LW at L ⊢
  rw [a1, a2, a3, b1 _ (.inl rfl), b1 _ (.inr (.inl rfl)), b1 _ (.inr (.inr rfl))]
  rcases L with L | ⟨l1, l2, frm, many, l3, l4, l5, l6, l7, l8⟩
  · exact .inl L
  · refine .inr ⟨l1, l2, frm, many, by omega, l4, l5, l6, fun j hj => ?_, ?_⟩
    · rw [show 237 + frm + j = 237 + (frm + j) by omega, b2 (frm + j) (by omega), ← Nat.add_assoc]
      exact l7 j hj
    · rw [← l8]
      congr 1
      exact cdq_cg (fun j j1 j2 => by
        have := b2 (j - 237) (by omega)
        rwa [show 237 + (j - 237) = j by omega] at this)
def DD (G W i Pc Pm Ps C : Nat) (hc hm : am_H) : Prop := ((2 ≤ G ∧ G ≤ 4) ∧ 1 ≤ W ∧ W ≤ 6) ∧ (∀ t, t < 31 → act Ps t → hc.2.1 (prt t).1 (prt t).2.1 = hm.2.1 140 (prt t).2.2 ∧ Qt G W i t (hm.2.1 140 (prt t).2.2)) ∧ (∀ a, a = 27 ∨ a = 28 ∨ (40 ≤ a ∧ a ≤ 45) → hm.2.1 140 a = 0) ∧ (hc.2.1 62 2 = nI Pc ∧ hm.2.1 140 3 = nI Pm) ∧ (C ≤ i ∧ hm.2.1 140 236 = nI C) ∧ ∀ law, law < 2 → LW law C hc hm
/-- an errand has its hour -/
def TB (A : Nat → Int32) : Prop := ∀ p, p < 5 → A (16 + p) = -1 ∨ ∃ b, b ≤ 999 ∧ A (21 + p) = nI b
theorem DD.up {G W i i' Pc Pm Ps C : Nat} {hc hm : am_H} (D : DD G W i Pc Pm Ps C hc hm) (hi : i ≤ i') : DD G W i' Pc Pm Ps C hc hm :=
  ⟨D.1, fun t ht ha => ⟨(D.2.1 t ht ha).1, (D.2.1 t ht ha).2.up hi⟩, D.2.2.1, D.2.2.2.1, ⟨Nat.le_trans D.2.2.2.2.1.1 hi, D.2.2.2.2.1.2⟩, D.2.2.2.2.2⟩
theorem DD.cg {G W i Pc Pm Ps C : Nat} {hc hm hc' hm' : am_H} (D : DD G W i Pc Pm Ps C hc hm) (a : ∀ o, (62 ≤ o ∧ o ≤ 67) ∨ (75 ≤ o ∧ o ≤ 80) → hc'.2.1 o = hc.2.1 o) (b : hm'.2.1 140 = hm.2.1 140) : DD G W i Pc Pm Ps C hc' hm' := by
  obtain ⟨d1, d2, d3, d4, d5, d6⟩ := D
  refine ⟨d1, fun t ht ha => ?_, ?_, ?_, ?_, fun law hlaw => (d6 law hlaw).cg hlaw (Nat.le_refl _) (by rw [a _ (by omega)]) (by rw [a _ (by omega)]) (a _ (by omega)) (fun j _ => by rw [b]) (fun j _ => by rw [b])⟩
  · have := (prt_r t ht).1
    rw [a _ (by omega), b]
    exact d2 t ht ha
  · rw [b]; exact d3
  · rw [a 62 (by omega), b]; exact d4
  · rw [b]; exact d5
theorem DD.k {G W i Pc Pm Ps C : Nat} {hc hm hc' hm' : am_H} (D : DD G W i Pc Pm Ps C hc hm) (a : am_ex [61] hc hc') (b : nw8 hm hm') : DD G W i Pc Pm Ps C hc' hm' := D.cg (fun o ho => a.2.2 o (by simp; omega)) (b.row (by decide))
theorem sI_at {h : am_H} {o j a q : Nat} {x : Int32} (e : a ≠ o ∨ q ≠ j) : (am_sI h o j x).2.1 a q = h.2.1 a q := by
  rw [sI_row]
  by_cases c : a = o
  · rw [if_pos c, up_n (by omega), c]
  · rw [if_neg c]
theorem sI_me {h : am_H} {o j : Nat} {x : Int32} : (am_sI h o j x).2.1 o j = x := by rw [sI_row, if_pos rfl, up_s]
/-- a pair is written -/
theorem DD.set {G W i Pc Pm Ps Ps' C t0 : Nat} {hc hm : am_H} {x : Int32} (D : DD G W i Pc Pm Ps C hc hm) (h0 : t0 < 31) (hq : Qt G W i t0 x) (hP : ∀ t, t ≠ t0 → act Ps' t → act Ps t) : DD G W i Pc Pm Ps' C (am_sI hc (prt t0).1 (prt t0).2.1 x) (am_sI hm 140 (prt t0).2.2 x) := by
  obtain ⟨d1, d2, d3, d4, d5, d6⟩ := D
  obtain ⟨r1, r2, r3⟩ := prt_r t0 h0
  refine ⟨d1, fun t ht ha => ?_, fun a ha => ?_, ⟨?_, ?_⟩, ⟨d5.1, ?_⟩, fun law hlaw => (d6 law hlaw).cg hlaw (Nat.le_refl _) (sI_at (.inl (by omega))) (sI_at (.inl (by omega))) ?_ (fun j _ => sI_at (.inr (by omega))) (fun j _ => sI_at (.inr (by omega)))⟩
  · by_cases c : t = t0
    · subst c
      rw [sI_me, sI_me]
      exact ⟨rfl, hq⟩
    · obtain ⟨i1, i2⟩ := prt_inj ht h0 c
      rw [sI_at i1, sI_at (.inr i2)]
      exact d2 t ht (hP t c ha)
  · rw [sI_at (.inr (by omega))]
    exact d3 a ha
  · rw [sI_at (by omega)]
    exact d4.1
  · rw [sI_at (.inr (by omega))]
    exact d4.2
  · rw [sI_at (.inr (by omega))]
    exact d5.2
  · rw [sI_row, if_neg (by omega)]
theorem DD.pc {G W i Pc Pm Ps C q : Nat} {hc hm : am_H} (D : DD G W i Pc Pm Ps C hc hm) : DD G W i q Pm Ps C (am_sI hc 62 2 (nI q)) hm := by
  obtain ⟨d1, d2, d3, d4, d5, d6⟩ := D
  refine ⟨d1, fun t ht ha => ?_, d3, ⟨sI_me, d4.2⟩, d5, fun law hlaw => (d6 law hlaw).cg hlaw (Nat.le_refl _) (sI_at (.inl (by omega))) (sI_at (.inl (by omega))) ?_ (fun j _ => rfl) (fun j _ => rfl)⟩
  · have := (prt_r t ht).1
    rw [sI_at (by omega)]
    exact d2 t ht ha
  · rw [sI_row, if_neg (by omega)]
theorem DD.pm {G W i Pc Pm Ps C q : Nat} {hc hm : am_H} (D : DD G W i Pc Pm Ps C hc hm) : DD G W i Pc q Ps C hc (am_sI hm 140 3 (nI q)) := by
  obtain ⟨d1, d2, d3, d4, d5, d6⟩ := D
  refine ⟨d1, fun t ht ha => ?_, fun a ha => ?_, ⟨d4.1, sI_me⟩, ⟨d5.1, ?_⟩, fun law hlaw => (d6 law hlaw).cg hlaw (Nat.le_refl _) rfl rfl rfl (fun j _ => sI_at (.inr (by omega))) (fun j _ => sI_at (.inr (by omega)))⟩
  · have := (prt_r t ht).2.1
    rw [sI_at (.inr (by omega))]
    exact d2 t ht ha
  · rw [sI_at (.inr (by omega))]
    exact d3 a ha
  · rw [sI_at (.inr (by omega))]
    exact d5.2
theorem TB.cg {A A' : Nat → Int32} (T : TB A) (h : ∀ j, 16 ≤ j → j < 26 → A' j = A j) : TB A' := fun p hp => by
  rw [h (16 + p) (by omega) (by omega), h (21 + p) (by omega) (by omega)]
  exact T p hp
theorem TB.set {h : am_H} {t : Nat} {x : Int32} (T : TB (h.2.1 140)) (ht : t < 21) : TB ((am_sI h 140 (prt t).2.2 x).2.1 140) := T.cg (fun j h1 h2 => by
  have := (prt_r t (by omega)).2.2
  exact sI_at (.inr (by omega)))
theorem DD.G {G W i Pc Pm Ps C : Nat} {hc hm : am_H} (D : DD G W i Pc Pm Ps C hc hm) : hc.2.1 62 0 = nI G ∧ hm.2.1 140 1 = nI G := by
  have := D.2.1 0 (by decide) (by unfold act; omega)
  have q : hm.2.1 140 1 = nI G := this.2
  exact ⟨this.1.trans q, q⟩
theorem DD.W {G W i Pc Pm Ps C : Nat} {hc hm : am_H} (D : DD G W i Pc Pm Ps C hc hm) : hc.2.1 62 1 = nI W ∧ hm.2.1 140 2 = nI W := by
  have := D.2.1 1 (by decide) (by unfold act; omega)
  have q : hm.2.1 140 2 = nI W := this.2
  exact ⟨this.1.trans q, q⟩
