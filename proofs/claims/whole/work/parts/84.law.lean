-- deps: 73.eval 74.wrd 75.tok 76.next 77.cut 78.prs 79.rec 80.rd 81.unit 82.dd 83.line
theorem ln_person {B : Nat → Nat} {n M G W i P C : Nat} {hc hm : am_H} (tk : tkM B n M) (J : Jo B n M i hc hm) (hP : P < 5) (D : DD G W i P P P C hc hm) (T : TB (hm.2.1 140)) (d : kdd B n i = 106) : ∃ hc' hm', f_Reader_readPerson (am_sI hc 61 3 (nI (i + 1))) = some hc' ∧ f_Mod_readPerson hm = some hm' ∧ fA hc hc' ∧ fB hm hm' ∧ LO B n M G W (i + 1) hc' hm' := by
  have hM := M_le tk
  have hpr := prt16 P hP
  obtain ⟨a1, a2, hm1, a3, a4, a5⟩ := adv tk J (by omega) (by omega)
  have x0 : am_ex [61] hc (am_sI hc 61 3 (nI (i + 1))) := am_ex.sI (by decide)
  have D0 := D.k x0 a4
  generalize am_sI hc 61 3 (nI (i + 1)) = hc1 at x0 D0 a5 ⊢
  have hG := D.1.1
  have r3 : am_rd (hm.2.1 140) 1137 (3 : Int32) = some (nI P) := (n_rd (i := 3) (by decide) (by decide)).trans (by rw [D.2.2.2.1.2])
  have c2 : hc1.2.1 62 2 = nI P := D0.2.2.2.1.1
  have n5 : ¬ nI P = (5 : Int32) := fun q => by have := (nI_eq (b := 5) (by omega) (by decide)).mp q; omega
  have jm := J.2.2.2.1
  have D1 := D0.pc (q := P + 1)
  obtain ⟨hc2, hm2, t1, t2, t3, t4, t5⟩ := xpcU tk (.inr ⟨i + 1, Nat.le_refl _, a5.wc (o := 62) (j := 2) (x := nI (P + 1)) (by decide)⟩) (k := 104) (by decide) (by decide) (by decide)
  have t1' : f_Reader_expect (104 : Int32) (am_sI hc1 62 2 (nI (P + 1))) = some hc2 := t1
  have t2' : eof (3 : Int32) hm1 = some hm2 := t2
  have D2 := D1.k t3 t4
  obtain ⟨xs, ys, hc4, hm4, s1, s2, s3, s4, s5⟩ := spotU tk t5 hG D2.G.1 D2.G.2
  have w64 : ∀ h x, am_wr h 64 5 (nI P) x = some (am_sI h 64 P x) := fun h x => n_wr hP (by decide)
  have w35 : ∀ h x, am_wr h 140 1137 ((35 : Int32) + nI P) x = some (am_sI h 140 (35 + P) x) := fun h x => by rw [show (35 : Int32) + nI P = nI (35 + P) from nI_add 35 P]; exact n_wr (by omega) (by decide)
  unfold f_Reader_readPerson f_Mod_readPerson
  simp only [am_let]
  rw [c2, nI_up, t1', Option.bind_some, s1, Option.bind_some, w64, Option.bind_some, r3, Option.bind_some, if_neg n5, Option.bind_some, if_pos jm, a3, Option.bind_some, eof_b, t2', Option.bind_some, s2, Option.bind_some, w35, Option.bind_some]
  have X := ((((fA.x1 x0).tr (fA.sI (h := hc1) (o := 62) (j := 2) (x := nI (P + 1)) (by decide))).tr (fA.x1 t3)).tr (fA.x1 s3)).tr (fA.sI (h := hc4) (o := 64) (j := P) (x := xs) (by decide))
  have Y := ((a4.fB.tr t4.fB).tr s4.fB).tr (fB.s140 (h := hm4) (j := 35 + P) (x := ys))
  rcases s5 with f | ⟨i4, s, g1, g2, g3, rfl, rfl⟩
  · have f' : Jf (am_sI hc4 64 P xs) (am_sI hm4 140 (35 + P) ys) := (f.wc (by decide)).wm
    have e1 : f_Reader_readPerson_L39 am_fu (nI P) 0 (am_sI hc4 64 P xs) = some (0, am_sI hc4 64 P xs) := (flgF f' 4999 _ _).1
    have e2 : f_Mod_readPerson_L55 am_fu (nI P) (am_sI hm4 140 (35 + P) ys) = some (am_sI hm4 140 (35 + P) ys) := (flgF f' 4999 _ 0).2
    rw [e1, e2, Option.bind_some, Option.bind_some, if_neg f'.ne]
    exact ⟨_, _, rfl, rfl, X, Y, .inl f'⟩
  · have j5 : Jo B n M i4 (am_sI hc4 64 P (nI s)) (am_sI hm4 140 (35 + P) (nI s)) := (g2.wc (by decide)).wm
    have D5 := ((D2.k s3 s4).up (show i ≤ i4 by omega)).set (t0 := 11 + P) (Ps' := P + 1) (x := nI s) (by omega) (Q11 hP g3) (fun t h1 h2 => by unfold act at h2 ⊢; omega)
    have T4 : TB (hm4.2.1 140) := by rw [s4.row (by decide), t4.row (by decide), a4.row (by decide)]; exact T
    have T5 := TB.set (t := 11 + P) (x := nI s) T4 (by omega)
    rw [hpr.2.2.2] at D5 T5
    have hi4 := g2.1
    obtain ⟨w, hc6, hm6, z1, z2, z3, z4, z5⟩ := flg tk hP (M - i4 + 1) i4 0 am_fu am_fu _ _ (by omega) (by unfold am_fu; omega) (by unfold am_fu; omega) (by omega) j5 D5 T5
    have z1' : f_Reader_readPerson_L39 am_fu (nI P) 0 (am_sI hc4 64 P (nI s)) = some (w, hc6) := z1
    rw [z1', z2, Option.bind_some, Option.bind_some]
    rcases z5 with f | ⟨i', q1, q2, q3, q4⟩
    · rw [if_neg f.ne]
      exact ⟨_, _, rfl, rfl, X.tr z3, Y.tr z4, .inl f⟩
    · have r3' : am_rd (hm6.2.1 140) 1137 (3 : Int32) = some (nI P) := (n_rd (i := 3) (by decide) (by decide)).trans (by rw [q3.2.2.2.1.2])
      have w3 : ∀ x, am_wr hm6 140 1137 (3 : Int32) x = some (am_sI hm6 140 3 x) := fun x => n_wr (i := 3) (by decide) (by decide)
      rw [if_pos q2.2.2.2.1, r3', Option.bind_some, w3, Option.bind_some, nI_up]
      exact ⟨_, _, rfl, rfl, X.tr z3, (Y.tr z4).tr fB.s140, .inr ⟨i', P + 1, C, by omega, by omega, q2.wm, q3.pm, q4.cg (fun j h1 h2 => sI_at (.inr (by omega)))⟩⟩
/-! a law -/
theorem rf_sR7 {h : am_H} {a j p : Nat} : am_rf (am_sR h a j (some p)) a j = p := by
  unfold am_rf am_sR am_rR
  simp [va_up]
theorem ln_law {B : Nat → Nat} {n M G W i P C law : Nat} {hc hm : am_H} (tk : tkM B n M) (J : Jo B n M i hc hm) (hP : P ≤ 5) (D : DD G W i P P P C hc hm) (T : TB (hm.2.1 140)) (hlaw : law < 2) (d : kdd B n i = 112 + law) : ∃ hc1 hc' hm', f_Reader_beginLaw (75 + 4 * law) hc = some hc1 ∧ f_Reader_readTruth (0 : Int32) hc1 = some hc' ∧ f_Mod_readLaw (nI law) hm = some hm' ∧ fA hc hc' ∧ fB hm hm' ∧ LO B n M G W (i + 1) hc' hm' := by
  have hM := M_le tk
  obtain ⟨a1, a2, hm1, a3, a4, a5⟩ := adv tk J (by omega) (by omega)
  obtain ⟨o, ho⟩ : ∃ o, o = 75 + 4 * law := ⟨_, rfl⟩
  have RS0 : RS B n M law C true 18 (f_Reader_readTruth (0 : Int32)) (f_Mod_readTruth (0 : Int32)) := rdOK hlaw tk 60 0 6 (by decide) (by decide) (by decide)
  unfold f_Reader_beginLaw f_Law_clear f_Mod_readLaw
  simp only [am_let, Option.bind_some]
  rw [← ho]
  have e1 : am_rf (am_sR hc 61 7 (some o)) 61 7 = o := rf_sR7
  rw [e1]
  have e2 : am_rf (am_sI (am_sI (am_sR hc 61 7 (some o)) o 0 0) o 1 0) 61 7 = o := e1
  rw [e2]
  have e3 : (am_sI (am_sI (am_sI (am_sR hc 61 7 (some o)) o 0 0) o 1 0) o 0 1).2.1 61 3 = nI i := by
    rw [sI_at (.inl (by omega)), sI_at (.inl (by omega)), sI_at (.inl (by omega))]
    exact J.2.1.2.2.2
  rw [e3, nI_up]
  obtain ⟨hcB, hB⟩ : ∃ h, h = am_sI (am_sI (am_sI (am_sI (am_sR hc 61 7 (some o)) o 0 0) o 1 0) o 0 1) 61 3 (nI (i + 1)) := ⟨_, rfl⟩
  rw [← hB]
  have B1 : am_rf hcB 61 7 = o := by rw [hB]; exact e1
  have B2 : hcB.2.1 o 0 = 1 := by rw [hB, sI_at (.inl (by omega)), sI_me]
  have B3 : hcB.2.1 o 1 = nI 0 := by rw [hB, sI_at (.inl (by omega)), sI_at (.inr (by decide)), sI_me]; rfl
  have B4 : ∀ a, a ≠ 61 → a ≠ o → hcB.2.1 a = hc.2.1 a := fun a h1 h2 => by
    rw [hB, sI_row, if_neg h1, sI_row, if_neg h2, sI_row, if_neg h2, sI_row, if_neg h2]
    rfl
  have B5 : hcB.2.1 61 = (am_sI hc 61 3 (nI (i + 1))).2.1 61 := by
    have q : ¬ 61 = o := by omega
    rw [hB, sI_row, if_pos rfl, sI_row, if_neg q, sI_row, if_neg q, sI_row, if_neg q, sI_row, if_pos rfl]
    rfl
  have B6 : fA hc hcB := ⟨fun a q => B4 a (by omega) (by omega), by rw [hB]; rfl, fun a q => by
    rw [hB]
    show (if a = 61 then _ else hc.2.2.2 a) = _
    rw [if_neg q]⟩
  have jB : Jo B n M (i + 1) hcB hm1 := a5.cg B5 (fun a h1 h2 => by rw [B4 a (by omega) (by omega), sI_row, if_neg (by omega)]) (fun _ _ => rfl) rfl
  clear hB e1 e2 e3
  obtain ⟨hc2, hm2, t1, t2, t3, t4, t5⟩ := xpcU tk (.inr ⟨i + 1, Nat.le_refl _, jB⟩) (k := 58) (by decide) (by decide) (by decide)
  have t1' : f_Reader_expect (58 : Int32) hcB = some hc2 := t1
  have t2' : eof (31 : Int32) hm1 = some hm2 := t2
  have e140 : hm2.2.1 140 = hm.2.1 140 := (t4.row (by decide)).trans (a4.row (by decide))
  have r236 : am_rd (hm2.2.1 140) 1137 (236 : Int32) = some (nI C) := (n_rd (i := 236) (by decide) (by decide)).trans (by rw [e140, D.2.2.2.2.1.2])
  rw [t1', a3, Option.bind_some, Option.bind_some, eof_b, t2', Option.bind_some, r236, Option.bind_some]
  have C1 : am_rf hc2 61 7 = o := by rw [rf_ex t3]; exact B1
  have C2 : hc2.2.1 o = hcB.2.1 o := t3.2.2 o (by simp; omega)
  have X2 := B6.tr (fA.x1 t3)
  have fD : fB hm (am_sI hm2 136 15 (nI law)) := (a4.fB.tr t4.fB).tr ⟨am_ex.sI (by decide), fun j hj => sI_at (.inr (by omega))⟩
  have d140 : (am_sI hm2 136 15 (nI law)).2.1 140 = hm.2.1 140 := by rw [sI_row, if_neg (by decide)]; exact e140
  have fCA : ∀ {h h'}, fC (75 + 4 * law) h h' → fA h h' := fun q => q.1.fA (fun a z => by
    simp only [List.mem_cons, List.not_mem_nil, or_false] at z
    omega)
  rcases t5 with f | ⟨i2, hi2, j2⟩
  · have f' : Jf hc2 (am_sI hm2 136 15 (nI law)) := f.cg rfl rfl (sI_at (.inr (by decide))) (sI_at (.inr (by decide)))
    obtain ⟨hc', hm', b1, b2, b3, b4, b5, b6⟩ := RS0.1 _ _ f' (by rw [← ho]; exact ⟨C1, 0, by omega, by rw [C2, B3]⟩)
    rw [b2, Option.bind_some, if_neg b3.ne]
    exact ⟨hc2, hc', hm', rfl, b1, rfl, X2.tr (fCA b5), fD.tr b6.fB, .inl b3⟩
  · have j3 : Jo B n M i2 hc2 (am_sI hm2 136 15 (nI law)) := j2.cg rfl (fun _ _ _ => rfl) (fun j hj => sI_at (.inr (by omega))) (by rw [sI_row, if_neg (by decide)])
    have L0 : LC law C 0 hc2 (am_sI hm2 136 15 (nI law)) := ⟨by rw [← ho]; exact C1, by rw [← ho, C2, B3], by rw [d140]; exact D.2.2.2.2.1.2, fun j hj => by omega, sI_me⟩
    have hC := D.2.2.2.2.1.1
    obtain ⟨hc', hm', b1, b2, b3, b4, b5⟩ := RS0.2 i2 0 _ _ j3 L0 (by omega)
    rw [b2, Option.bind_some]
    rcases b5 with ⟨f, _⟩ | ⟨i', s', p1, p2, p3⟩
    · rw [if_neg f.ne]
      exact ⟨hc2, hc', hm', rfl, b1, rfl, X2.tr (fCA b3), fD.tr b4.fB, .inl f⟩
    · obtain ⟨g1, g2, g3, g4, g5⟩ := p3
      have hi' := g1.1
      have w5 : ∀ h x, am_wr h 140 1137 ((5 : Int32) + nI law) x = some (am_sI h 140 (5 + law) x) := fun h x => by rw [show (5 : Int32) + nI law = nI (5 + law) from nI_add 5 law]; exact n_wr (by omega) (by decide)
      have w7 : ∀ h x, am_wr h 140 1137 ((7 : Int32) + nI law) x = some (am_sI h 140 (7 + law) x) := fun h x => by rw [show (7 : Int32) + nI law = nI (7 + law) from nI_add 7 law]; exact n_wr (by omega) (by decide)
      have w9 : ∀ h x, am_wr h 140 1137 ((9 : Int32) + nI law) x = some (am_sI h 140 (9 + law) x) := fun h x => by rw [show (9 : Int32) + nI law = nI (9 + law) from nI_add 9 law]; exact n_wr (by omega) (by decide)
      have c236 : (am_sI (am_sI hm' 140 (5 + law) 1) 140 (7 + law) (nI C)).2.1 140 236 = nI (C + s') := by
        rw [sI_at (.inr (by omega)), sI_at (.inr (by omega))]
        exact g2.2.2.1
      have r236' : am_rd ((am_sI (am_sI hm' 140 (5 + law) 1) 140 (7 + law) (nI C)).2.1 140) 1137 (236 : Int32) = some (nI (C + s')) := (n_rd (i := 236) (by decide) (by decide)).trans (by rw [c236])
      have esub : nI (C + s') - nI C = nI s' := by rw [nI_sub (by omega), Nat.add_sub_cancel_left]
      rw [if_pos g1.2.2.2.1, w5, Option.bind_some, w7, Option.bind_some, r236', Option.bind_some, w9, Option.bind_some, esub]
      have rowE : ∀ j, j ≠ 5 + law → j ≠ 7 + law → j ≠ 9 + law → (am_sI (am_sI (am_sI hm' 140 (5 + law) 1) 140 (7 + law) (nI C)) 140 (9 + law) (nI s')).2.1 140 j = hm'.2.1 140 j := fun j h1 h2 h3 => by
        rw [sI_at (.inr h3), sI_at (.inr h2), sI_at (.inr h1)]
      have s5 : (am_sI (am_sI (am_sI hm' 140 (5 + law) 1) 140 (7 + law) (nI C)) 140 (9 + law) (nI s')).2.1 140 (5 + law) = 1 := by rw [sI_at (.inr (by omega)), sI_at (.inr (by omega)), sI_me]
      have s7 : (am_sI (am_sI (am_sI hm' 140 (5 + law) 1) 140 (7 + law) (nI C)) 140 (9 + law) (nI s')).2.1 140 (7 + law) = nI C := by rw [sI_at (.inr (by omega)), sI_me]
      have s9 : (am_sI (am_sI (am_sI hm' 140 (5 + law) 1) 140 (7 + law) (nI C)) 140 (9 + law) (nI s')).2.1 140 (9 + law) = nI s' := sI_me
      have jE : Jo B n M i' hc' (am_sI (am_sI (am_sI hm' 140 (5 + law) 1) 140 (7 + law) (nI C)) 140 (9 + law) (nI s')) := ((g1.wm).wm).wm
      have fE : fB hm' (am_sI (am_sI (am_sI hm' 140 (5 + law) 1) 140 (7 + law) (nI C)) 140 (9 + law) (nI s')) := (fB.s140.tr fB.s140).tr fB.s140
      generalize am_sI (am_sI (am_sI hm' 140 (5 + law) 1) 140 (7 + law) (nI C)) 140 (9 + law) (nI s') = hmE at rowE s5 s7 s9 jE fE ⊢
      have low : ∀ j, j < 236 → hm'.2.1 140 j = hm.2.1 140 j := fun j hj => by rw [b4.2.2 j hj, d140]
      have crow : ∀ a, a ≠ 61 → a ≠ o → a ≠ o + 1 → hc'.2.1 a = hc.2.1 a := fun a h1 h2 h3 => by
        rw [b3.1.2.2 a (by simp; omega), t3.2.2 a (by simpa using h1), B4 a h1 h2]
      obtain ⟨d1, d2, d3, d4, d5, d6⟩ := D
      refine ⟨hc2, hc', hmE, rfl, b1, rfl, X2.tr (fCA b3), (fD.tr b4.fB).tr fE, .inr ⟨i', P, C + s', by omega, hP, jE, ⟨d1, fun t ht ha => ?_, fun a ha => ?_, ⟨?_, ?_⟩, ⟨by omega, ?_⟩, fun law' hlaw' => ?_⟩, ?_⟩⟩
      · obtain ⟨r1, r2, r3⟩ := prt_r t ht
        rw [crow _ (by omega) (by omega) (by omega), rowE _ (by omega) (by omega) (by omega), low _ (by omega)]
        exact ⟨(d2 t ht ha).1, (d2 t ht ha).2.up (by omega)⟩
      · rw [rowE _ (by omega) (by omega) (by omega), low _ (by omega)]
        exact d3 a ha
      · rw [crow _ (by omega) (by omega) (by omega)]
        exact d4.1
      · rw [rowE _ (by omega) (by omega) (by omega), low _ (by omega)]
        exact d4.2
      · rw [rowE _ (by omega) (by omega) (by omega)]
        exact g2.2.2.1
      · by_cases e : law' = law
        · subst e
          refine .inr ⟨?_, s5, C, s', Nat.le_refl _, s7, s9, g2.2.1, fun j hj => ?_, ?_⟩
          · rw [b3.2, ← ho, C2]
            exact B2
          · rw [rowE _ (by omega) (by omega) (by omega)]
            exact g2.2.2.2.1 j hj
          · have := g5 [] (by simp)
            unfold seg at this
            rw [Nat.sub_zero, Nat.add_zero] at this
            rw [← cdq_cg (A := hm'.2.1 140) (fun j h1 h2 => (rowE j (by omega) (by omega) (by omega)).symm)]
            exact this
        · exact (d6 law' hlaw').cg hlaw' (by omega) (by rw [crow _ (by omega) (by omega) (by omega)]) (by rw [crow _ (by omega) (by omega) (by omega)]) (crow _ (by omega) (by omega) (by omega)) (fun j hj => by rw [rowE j (by omega) (by omega) (by omega), low j (by omega)]) (fun j hj => by rw [rowE _ (by omega) (by omega) (by omega), g4 j (by omega), d140])
      · exact T.cg (fun j h1 h2 => by rw [rowE j (by omega) (by omega) (by omega), low j (by omega)])
