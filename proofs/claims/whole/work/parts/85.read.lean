-- deps: 73.eval 74.wrd 75.tok 76.next 77.cut 78.prs 79.rec 80.rd 81.unit 82.dd 83.line 84.law
/-! ===== a line ===== -/
theorem ln_line {B : Nat → Nat} {n M G W i P C : Nat} {hc hm : am_H} (tk : tkM B n M) (J : Jo B n M i hc hm) (hP : P ≤ 5) (D : DD G W i P P P C hc hm) (T : TB (hm.2.1 140)) : ∃ hc' hm', f_Reader_readLine hc = some hc' ∧ f_Mod_readLine hm = some hm' ∧ fA hc hc' ∧ fB hm hm' ∧ LO B n M G W i hc' hm' := by
  have hl := kdd_lt tk.2.1 i
  have wk : ∀ {hc' hm'}, LO B n M G W (i + 1) hc' hm' → LO B n M G W i hc' hm' := fun q => by
    rcases q with f | ⟨i', P', C', q1, q2⟩
    · exact .inl f
    · exact .inr ⟨i', P', C', by omega, q2⟩
  have jm := J.2.2.2.1
  have e2 : f_Mod_is (2 : Int32) hm = some (decide (kdd B n i = 103)) := mR_is tk J (k := 103) (by decide)
  have e5 : f_Mod_is (5 : Int32) hm = some (decide (kdd B n i = 106)) := mR_is tk J (k := 106) (by decide)
  have e11 : f_Mod_is (11 : Int32) hm = some (decide (kdd B n i = 112)) := mR_is tk J (k := 112) (by decide)
  have e12 : f_Mod_is (12 : Int32) hm = some (decide (kdd B n i = 113)) := mR_is tk J (k := 113) (by decide)
  have j9 := J.2.2.2.2.2.2.1
  have x3 : hc.2.1 61 3 + (1 : Int32) = nI (i + 1) := by rw [J.2.1.2.2.2, nI_up]
  by_cases d103 : kdd B n i = 103
  · obtain ⟨hc', hm', a1, a2, a3, a4, a5⟩ := ln_span tk J hP D T d103
    refine ⟨hc', hm', ?_, ?_, a3, a4, wk a5⟩
    · unfold f_Reader_readLine
      simp only [am_let]
      rw [cR_kind tk J, Option.bind_some, if_pos (by rw [d103]; rfl), x3, a1, Option.bind_some]
    · unfold f_Mod_readLine
      rw [if_pos jm, e2, Option.bind_some, if_pos (decide_eq_true d103), a2, Option.bind_some]
  · by_cases d106 : kdd B n i = 106
    · have t2 : f_Mod_readLine hm = (f_Mod_readPerson hm).bind fun q21 => some q21 := by
        unfold f_Mod_readLine
        rw [if_pos jm, e2, Option.bind_some, if_neg (show ¬ decide (kdd B n i = 103) = true by simpa using d103), e5, Option.bind_some, if_pos (decide_eq_true d106)]
      have t1 : f_Reader_readLine hc = (if (hc.2.1 62 2) < (5 : Int32) then (f_Reader_readPerson (am_sI hc 61 3 (nI (i + 1)))).bind fun q8 => some q8 else (f_Reader_blame (4 : Int32) hc).bind fun q9 => some q9) := by
        unfold f_Reader_readLine
        simp only [am_let]
        rw [cR_kind tk J, Option.bind_some, d106, if_neg (by decide), if_neg (by decide), if_neg (by decide), if_pos (show nI 106 = (106 : Int32) from rfl), x3]
      rw [t1, t2, D.2.2.2.1.1]
      by_cases hp : P = 5
      · subst hp
        obtain ⟨hc', hm', b1, b2, b3, b4, b5⟩ := blm tk J (k := 4) (by decide) (by decide)
        have b1' : f_Reader_blame (4 : Int32) hc = some hc' := b1
        have b2' : f_Mod_fails (4 : Int32) hm = some hm' := b2
        have r3 : am_rd (hm.2.1 140) 1137 (3 : Int32) = some (nI 5) := (n_rd (i := 3) (by decide) (by decide)).trans (by rw [D.2.2.2.1.2])
        have t3 : f_Mod_readPerson hm = some hm' := by
          unfold f_Mod_readPerson
          rw [r3, Option.bind_some, if_pos (show nI 5 = (5 : Int32) from rfl), b2', Option.bind_some, Option.bind_some, if_neg b3.ne]
        rw [if_neg (by decide), b1', t3, Option.bind_some, Option.bind_some]
        exact ⟨_, _, rfl, rfl, fA.x1 b4, b5.fB, .inl b3⟩
      · obtain ⟨hc', hm', a1, a2, a3, a4, a5⟩ := ln_person tk J (by omega) D T d106
        rw [if_pos (show nI P < (5 : Int32) from nI_lt (b := 5) (by omega) (by decide)), a1, a2, Option.bind_some, Option.bind_some]
        exact ⟨_, _, rfl, rfl, a3, a4, wk a5⟩
    · have m0 : f_Mod_readLine hm = ((f_Mod_is (11 : Int32) hm).bind fun q6 =>
        (if q6 = true then
          (f_Mod_readLaw ((hm.2.1 136 9) - (11 : Int32)) hm).bind fun q8 =>
          some q8
        else
          (f_Mod_is (12 : Int32) hm).bind fun q9 =>
          (if q9 = true then
            (f_Mod_readLaw ((hm.2.1 136 9) - (11 : Int32)) hm).bind fun q20 =>
            some q20
          else
            (f_Mod_eats (13 : Int32) hm).bind fun q11 =>
            (if q11.1 = true then
              (f_Mod_takes (0 : Int32) (10 : Int32) q11.2).bind fun q18 =>
              (am_wr q18.2 140 1137 (4 : Int32) q18.1).bind fun h19 =>
              some h19
            else
              (f_Mod_eats (14 : Int32) q11.2).bind fun q13 =>
              (if q13.1 = true then
                (f_Mod_takes (0 : Int32) (999 : Int32) q13.2).bind fun q16 =>
                (am_wr q16.2 140 1137 (26 : Int32) q16.1).bind fun h17 =>
                some h17
              else
                (f_Mod_fails (2 : Int32) q13.2).bind fun q15 =>
                some q15))))) := by
        unfold f_Mod_readLine
        rw [if_pos jm, e2, Option.bind_some, if_neg (show ¬ decide (kdd B n i = 103) = true by simpa using d103), e5, Option.bind_some, if_neg (show ¬ decide (kdd B n i = 106) = true by simpa using d106)]
      rw [m0, e11, Option.bind_some]
      by_cases d112 : kdd B n i = 112
      · obtain ⟨hc1, hc', hm', a1, a1', a2, a3, a4, a5⟩ := ln_law (law := 0) tk J hP D T (by decide) d112
        have a2' : f_Mod_readLaw (hm.2.1 136 9 - (11 : Int32)) hm = some hm' := by rw [j9, d112]; exact a2
        rw [if_pos (decide_eq_true d112), a2', Option.bind_some]
        refine ⟨hc', hm', ?_, rfl, a3, a4, wk a5⟩
        unfold f_Reader_readLine
        rw [cR_kind tk J, Option.bind_some, d112, if_neg (by decide), if_neg (by decide), if_neg (by decide), if_neg (by decide), if_neg (by decide), if_neg (by decide), if_neg (by decide), if_neg (by decide), if_neg (by decide), if_pos (show nI 112 = (112 : Int32) from rfl)]
        have a1q : f_Reader_beginLaw 75 hc = some hc1 := a1
        rw [a1q, Option.bind_some, a1', Option.bind_some]
      · rw [if_neg (show ¬ decide (kdd B n i = 112) = true by simpa using d112), e12, Option.bind_some]
        by_cases d113 : kdd B n i = 113
        · obtain ⟨hc1, hc', hm', a1, a1', a2, a3, a4, a5⟩ := ln_law (law := 1) tk J hP D T (by decide) d113
          have a2' : f_Mod_readLaw (hm.2.1 136 9 - (11 : Int32)) hm = some hm' := by rw [j9, d113]; exact a2
          rw [if_pos (decide_eq_true d113), a2', Option.bind_some]
          refine ⟨hc', hm', ?_, rfl, a3, a4, wk a5⟩
          unfold f_Reader_readLine
          rw [cR_kind tk J, Option.bind_some, d113, if_neg (by decide), if_neg (by decide), if_neg (by decide), if_neg (by decide), if_neg (by decide), if_neg (by decide), if_neg (by decide), if_neg (by decide), if_neg (by decide), if_neg (by decide), if_pos (show nI 113 = (113 : Int32) from rfl)]
          have a1q : f_Reader_beginLaw 79 hc = some hc1 := a1
          rw [a1q, Option.bind_some, a1', Option.bind_some]
        · rw [if_neg (show ¬ decide (kdd B n i = 113) = true by simpa using d113)]
          rcases tke tk J (k := 114) (by decide) (by decide) (by decide) with ⟨c1, c2, hm3, c3, c4, c5, c6⟩ | ⟨d114, c2, c3⟩
          · have c4' : f_Mod_eats (13 : Int32) hm = some (true, hm3) := c4
            have x1 : am_ex [61] hc (am_sI hc 61 3 (nI (i + 1))) := am_ex.sI (by decide)
            obtain ⟨w, y2, hc4, hm4, m1, m2, m3, m4, m5, m6, m7⟩ := numU tk (.inr ⟨i + 1, Nat.le_refl _, c5⟩) (lo := 0) (hi := 10) (by omega) (by omega)
            have m1' : f_Reader_readNumber (0 : Int32) (10 : Int32) (am_sI hc 61 3 (nI (i + 1))) = some (nI w, hc4) := m1
            have m2' : f_Mod_takes (0 : Int32) (10 : Int32) hm3 = some (y2, hm4) := m2
            have w4 : ∀ x, am_wr hm4 140 1137 (4 : Int32) x = some (am_sI hm4 140 4 x) := fun x => n_wr (i := 4) (by decide) (by decide)
            have t1 : f_Reader_readLine hc = some (am_sI hc4 62 3 (nI w)) := by
              unfold f_Reader_readLine
              simp only [am_let]
              rw [cR_kind tk J, Option.bind_some, c1, if_neg (by decide), if_neg (by decide), if_neg (by decide), if_neg (by decide), if_neg (by decide), if_neg (by decide), if_neg (by decide), if_neg (by decide), if_neg (by decide), if_neg (by decide), if_neg (by decide), if_pos (show nI 114 = (114 : Int32) from rfl), x3, m1', Option.bind_some]
            rw [t1, c4', Option.bind_some, if_pos rfl, m2', Option.bind_some, w4, Option.bind_some]
            refine ⟨_, _, rfl, rfl, ((fA.x1 x1).tr (fA.x1 m5)).tr (fA.sI (by decide)), (c6.fB.tr m6.fB).tr fB.s140, ?_⟩
            rcases m7 with f | ⟨i4, hi4, j4, rfl⟩
            · exact .inl ((f.wc (by decide)).wm)
            · refine .inr ⟨i4, P, C, by omega, hP, (j4.wc (by decide)).wm, (((D.k x1 c6).k m5 m6).up (by omega)).set (t0 := 2) (Ps' := P) (x := nI w) (by decide) ⟨w, m4, rfl⟩ (fun _ _ z => z), TB.set (t := 2) ?_ (by decide)⟩
              rw [m6.row (by decide), c6.row (by decide)]
              exact T
          · have c3' : f_Mod_eats (13 : Int32) hm = some (false, hm) := c3
            rw [c3', Option.bind_some, if_neg Bool.false_ne_true]
            rcases tke tk J (k := 115) (by decide) (by decide) (by decide) with ⟨c1, c2, hm3, c3, c4, c5, c6⟩ | ⟨d115, c2, c3⟩
            · have c4' : f_Mod_eats (14 : Int32) hm = some (true, hm3) := c4
              have x1 : am_ex [61] hc (am_sI hc 61 3 (nI (i + 1))) := am_ex.sI (by decide)
              obtain ⟨w, y2, hc4, hm4, m1, m2, m3, m4, m5, m6, m7⟩ := numU tk (.inr ⟨i + 1, Nat.le_refl _, c5⟩) (lo := 0) (hi := 999) (by omega) (by omega)
              have m1' : f_Reader_readNumber (0 : Int32) (999 : Int32) (am_sI hc 61 3 (nI (i + 1))) = some (nI w, hc4) := m1
              have m2' : f_Mod_takes (0 : Int32) (999 : Int32) hm3 = some (y2, hm4) := m2
              have w4 : ∀ x, am_wr hm4 140 1137 (26 : Int32) x = some (am_sI hm4 140 26 x) := fun x => n_wr (i := 26) (by decide) (by decide)
              have t1 : f_Reader_readLine hc = some (am_sI hc4 62 4 (nI w)) := by
                unfold f_Reader_readLine
                simp only [am_let]
                rw [cR_kind tk J, Option.bind_some, c1, if_neg (by decide), if_neg (by decide), if_neg (by decide), if_neg (by decide), if_neg (by decide), if_neg (by decide), if_neg (by decide), if_neg (by decide), if_neg (by decide), if_neg (by decide), if_neg (by decide), if_neg (by decide), if_pos (show nI 115 = (115 : Int32) from rfl), x3, m1', Option.bind_some]
              rw [t1, c4', Option.bind_some, if_pos rfl, m2', Option.bind_some, w4, Option.bind_some]
              refine ⟨_, _, rfl, rfl, ((fA.x1 x1).tr (fA.x1 m5)).tr (fA.sI (by decide)), (c6.fB.tr m6.fB).tr fB.s140, ?_⟩
              rcases m7 with f | ⟨i4, hi4, j4, rfl⟩
              · exact .inl ((f.wc (by decide)).wm)
              · refine .inr ⟨i4, P, C, by omega, hP, (j4.wc (by decide)).wm, (((D.k x1 c6).k m5 m6).up (by omega)).set (t0 := 3) (Ps' := P) (x := nI w) (by decide) ⟨w, m4, rfl⟩ (fun _ _ z => z), TB.set (t := 3) ?_ (by decide)⟩
                rw [m6.row (by decide), c6.row (by decide)]
                exact T
            · have c3' : f_Mod_eats (14 : Int32) hm = some (false, hm) := c3
              obtain ⟨hc', hm', b1, b2, b3, b4, b5⟩ := blm tk J (k := 2) (by decide) (by decide)
              have b1' : f_Reader_blame (2 : Int32) hc = some hc' := b1
              have b2' : f_Mod_fails (2 : Int32) hm = some hm' := b2
              have t1 : f_Reader_readLine hc = some hc' := by
                have n103 : (nI (kdd B n i) = (103 : Int32)) = False := eq_false (fun q => d103 ((nI_eq (b := 103) (by omega) (by decide)).mp q))
                have n106 : (nI (kdd B n i) = (106 : Int32)) = False := eq_false (fun q => d106 ((nI_eq (b := 106) (by omega) (by decide)).mp q))
                have n112 : (nI (kdd B n i) = (112 : Int32)) = False := eq_false (fun q => d112 ((nI_eq (b := 112) (by omega) (by decide)).mp q))
                have n113 : (nI (kdd B n i) = (113 : Int32)) = False := eq_false (fun q => d113 ((nI_eq (b := 113) (by omega) (by decide)).mp q))
                have n114 : (nI (kdd B n i) = (114 : Int32)) = False := eq_false (fun q => d114 ((nI_eq (b := 114) (by omega) (by decide)).mp q))
                have n115 : (nI (kdd B n i) = (115 : Int32)) = False := eq_false (fun q => d115 ((nI_eq (b := 115) (by omega) (by decide)).mp q))
                unfold f_Reader_readLine
                simp only [cR_kind tk J, Option.bind_some, n103, n106, n112, n113, n114, n115, if_false, b1']
                repeat' split
                all_goals rfl
              rw [t1, c3', Option.bind_some, if_neg Bool.false_ne_true, b2', Option.bind_some]
              exact ⟨_, _, rfl, rfl, fA.x1 b4, b5.fB, .inl b3⟩
/-! ===== all lines ===== -/
theorem r0m {h : am_H} : am_rd (h.2.1 140) 1137 (0 : Int32) = some (h.2.1 140 0) := n_rd (i := 0) (by decide) (by decide)
theorem w0m {h : am_H} {x : Int32} : am_wr h 140 1137 (0 : Int32) x = some (am_sI h 140 0 x) := n_wr (i := 0) (by decide) (by decide)
theorem allF {hc hm : am_H} (f : Jf hc hm) (k : Nat) (p2 p1 v : Int32) : f_Reader_read_L51 60 900 p2 (k + 1) v hc = some (v, hc) ∧ f_Mod_river_L108 p1 (k + 1) hm = some hm := by
  constructor
  · rw [f_Reader_read_L51, if_neg f.ne']
    split <;> rfl
  · rw [f_Mod_river_L108, if_neg f.ne]
theorem allL {B : Nat → Nat} {n M G W : Nat} {p2 p1 : Int32} (tk : tkM B n M) : ∀ (c i v fc fm P C : Nat) (hc hm : am_H), M - i < c → c < fc → c < fm → v < i → P ≤ 5 → Jo B n M i hc hm → DD G W i P P P C hc hm → TB (hm.2.1 140) → ∃ w hc' hm', f_Reader_read_L51 60 900 p2 fc (nI v) hc = some (w, hc') ∧ f_Mod_river_L108 p1 fm hm = some hm' ∧ fA hc hc' ∧ fB hm hm' ∧ LO B n M G W i hc' hm' := by
  have hM := M_le tk
  intro c
  induction c with
  | zero => intro i v fc fm P C hc hm h1; omega
  | succ c ih =>
    intro i v fc fm P C hc hm h1 h2 h3 h4 hP J D T
    obtain ⟨fc, rfl⟩ : ∃ f', fc = f' + 1 := ⟨fc - 1, by omega⟩
    obtain ⟨fm, rfl⟩ : ∃ f', fm = f' + 1 := ⟨fm - 1, by omega⟩
    have hiM := J.1
    have hl := kdd_lt tk.2.1 i
    have n900 : ¬ (900 : Int32) ≤ nI v := nI_ge (b := 900) (by omega) (by decide)
    have y24 : (nI (rk (kdd B n i)) = (24 : Int32)) = (kdd B n i = 0) := rk_k tk (k := 0) (by decide)
    rw [f_Reader_read_L51, f_Mod_river_L108, if_neg n900, if_pos J.2.1.2.1, if_pos J.2.2.2.1, cR_kind tk J, Option.bind_some, J.2.2.2.2.2.2.1]
    by_cases d : kdd B n i = 0
    · rw [if_pos (by rw [d]; rfl), if_pos (y24 ▸ d)]
      exact ⟨_, _, _, rfl, rfl, fA.rf, fB.rf, .inr ⟨i, P, C, Nat.le_refl _, hP, J, D, T⟩⟩
    · rw [if_neg (show ¬ nI (kdd B n i) = 0 from fun q => d ((nI_eq (b := 0) (by omega) (by decide)).mp q)), if_neg (y24 ▸ d)]
      obtain ⟨hc1, hm1, a1, a2, a3, a4, a5⟩ := ln_line tk J hP D T
      unfold f_Mod_ends
      rw [a1, a2, Option.bind_some, Option.bind_some, eof_b]
      have u1 : U B n M i hc1 hm1 := by
        rcases a5 with f | ⟨i1, P1, C1, g1, g2, g3, _⟩
        · exact .inl f
        · exact .inr ⟨i1, g1, g3⟩
      rcases a5 with f | ⟨i1, P1, C1, g1, g2, g3, g4, g5⟩
      · have e59 : f_Reader_expect (59 : Int32) hc1 = some hc1 := cF_expect f (k := 59) (by decide)
        rw [e59, Option.bind_some, mF_eof f, Option.bind_some, r0m, Option.bind_some, w0m, Option.bind_some, Option.bind_some]
        simp only [am_let]
        obtain ⟨fc, rfl⟩ : ∃ f', fc = f' + 1 := ⟨fc - 1, by omega⟩
        obtain ⟨fm, rfl⟩ : ∃ f', fm = f' + 1 := ⟨fm - 1, by omega⟩
        have f' : Jf (am_sI hc1 62 5 (hc1.2.1 62 5 + (1 : Int32))) (am_sI hm1 140 0 (hm1.2.1 140 0 + (1 : Int32))) := (f.wc (by decide)).wm
        rw [(allF f' fc p2 p1 _).1, (allF f' fm p2 p1 0).2]
        exact ⟨_, _, _, rfl, rfl, a3.tr (fA.sI (by decide)), a4.tr fB.s140, .inl f'⟩
      · obtain ⟨hc2, hm2, b1, b2, b3, b4, b5⟩ := xpc tk g3 (k := 59) (by decide) (by decide) (by decide)
        have b1' : f_Reader_expect (59 : Int32) hc1 = some hc2 := b1
        have b2' : eof (30 : Int32) hm1 = some hm2 := b2
        rw [b1', Option.bind_some, b2', Option.bind_some, r0m, Option.bind_some, w0m, Option.bind_some, Option.bind_some]
        simp only [am_let]
        have X := (a3.tr (fA.x1 b3)).tr (fA.sI (h := hc2) (o := 62) (j := 5) (x := hc2.2.1 62 5 + (1 : Int32)) (by decide))
        have Y := (a4.tr b4.fB).tr (fB.s140 (h := hm2) (j := 0) (x := hm2.2.1 140 0 + (1 : Int32)))
        rcases b5 with ⟨_, b6, j2⟩ | f
        · have D2 := (g4.k b3 b4).up (show i1 ≤ i1 + 1 by omega)
          have D2' := (g4.k b3 b4).2.1 4 (by decide) (by unfold act; omega)
          obtain ⟨q1, v1, q2, q3⟩ := D2'
          have q1' : hc2.2.1 62 5 = hm2.2.1 140 0 := q1
          have q3' : hm2.2.1 140 0 = nI v1 := q3
          have D3 := D2.set (t0 := 4) (Ps' := P1) (x := nI (v1 + 1)) (by decide) ⟨v1 + 1, by omega, rfl⟩ (fun _ _ z => z)
          have T2 : TB (hm2.2.1 140) := by rw [b4.row (by decide)]; exact g5
          have T3 := TB.set (t := 4) (x := nI (v1 + 1)) T2 (by decide)
          have j3 : Jo B n M (i1 + 1) (am_sI hc2 62 5 (nI (v1 + 1))) (am_sI hm2 140 0 (nI (v1 + 1))) := (j2.wc (by decide)).wm
          have eX : hc2.2.1 62 5 + (1 : Int32) = nI (v1 + 1) := by rw [q1', q3', nI_up]
          have eY : hm2.2.1 140 0 + (1 : Int32) = nI (v1 + 1) := by rw [q3', nI_up]
          rw [eX] at X
          rw [eY] at Y
          rw [eX, eY, nI_up]
          obtain ⟨w, hc4, hm4, z1, z2, z3, z4, z5⟩ := ih (i1 + 1) (v + 1) fc fm P1 C1 _ _ (by omega) (by omega) (by omega) (by omega) g2 j3 D3 T3
          rw [z1, z2]
          refine ⟨_, _, _, rfl, rfl, X.tr z3, Y.tr z4, ?_⟩
          rcases z5 with f | ⟨i', P', C', q1, q2⟩
          · exact .inl f
          · exact .inr ⟨i', P', C', by omega, q2⟩
        · obtain ⟨fc, rfl⟩ : ∃ f', fc = f' + 1 := ⟨fc - 1, by omega⟩
          obtain ⟨fm, rfl⟩ : ∃ f', fm = f' + 1 := ⟨fm - 1, by omega⟩
          have f' : Jf (am_sI hc2 62 5 (hc2.2.1 62 5 + (1 : Int32))) (am_sI hm2 140 0 (hm2.2.1 140 0 + (1 : Int32))) := (f.wc (by decide)).wm
          rw [(allF f' fc p2 p1 _).1, (allF f' fm p2 p1 0).2]
          exact ⟨_, _, _, rfl, rfl, X, Y, .inl f'⟩
