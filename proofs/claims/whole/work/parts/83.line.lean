-- deps: 73.eval 74.wrd 75.tok 76.next 77.cut 78.prs 79.rec 80.rd 81.unit 82.dd
/-! ===== lines ===== -/
theorem Jo.wc {B : Nat → Nat} {n M i o j : Nat} {hc hm : am_H} {x : Int32} (J : Jo B n M i hc hm) (ho : 62 ≤ o ∧ o ≤ 70) : Jo B n M i (am_sI hc o j x) hm := J.cg (by rw [sI_row, if_neg (by omega)]) (fun a h1 h2 => by rw [sI_row, if_neg (by omega)]) (fun _ _ => rfl) rfl
theorem Jo.wm {B : Nat → Nat} {n M i j : Nat} {hc hm : am_H} {x : Int32} (J : Jo B n M i hc hm) : Jo B n M i hc (am_sI hm 140 j x) := J.cg rfl (fun a h1 h2 => rfl) (fun _ _ => by rw [sI_row, if_neg (by decide)]) (by rw [sI_row, if_neg (by decide)])
theorem Jf.wc {o j : Nat} {hc hm : am_H} {x : Int32} (J : Jf hc hm) (ho : o ≠ 61) : Jf (am_sI hc o j x) hm := J.cg (sI_at (.inl (fun q => ho q.symm))) (sI_at (.inl (fun q => ho q.symm))) rfl rfl
theorem Jf.wm {j : Nat} {hc hm : am_H} {x : Int32} (J : Jf hc hm) : Jf hc (am_sI hm 140 j x) := J.cg rfl rfl (sI_at (.inl (by decide))) (sI_at (.inl (by decide)))
theorem U.wc {B : Nat → Nat} {n M b o j : Nat} {hc hm : am_H} {x : Int32} (u : U B n M b hc hm) (ho : 62 ≤ o ∧ o ≤ 70) : U B n M b (am_sI hc o j x) hm := by
  rcases u with f | ⟨i, hi, j⟩
  · exact .inl (f.wc (by omega))
  · exact .inr ⟨i, hi, j.wc ho⟩
def LO (B : Nat → Nat) (n M G W i0 : Nat) (hc hm : am_H) : Prop := Jf hc hm ∨ ∃ i P C, i0 ≤ i ∧ P ≤ 5 ∧ Jo B n M i hc hm ∧ DD G W i P P P C hc hm ∧ TB (hm.2.1 140)
theorem prt5 : ∀ w, w < 6 → prt (5 + w) = (63, w, 29 + w) := by decide
theorem Q5 {G W i w : Nat} {x : Int32} (hw : w < 6) (l : Option Nat) (h : ∀ g, l = some g → g < G) (e : x = oI l) : Qt G W i (5 + w) x := by
  unfold Qt
  rw [if_neg (by omega), if_neg (by omega), if_neg (by omega), if_neg (by omega), if_neg (by omega), if_pos (by omega)]
  exact ⟨l, h, e⟩
theorem ln_span {B : Nat → Nat} {n M G W i P C : Nat} {hc hm : am_H} (tk : tkM B n M) (J : Jo B n M i hc hm) (hP : P ≤ 5) (D : DD G W i P P P C hc hm) (T : TB (hm.2.1 140)) (d : kdd B n i = 103) : ∃ hc' hm', f_Reader_readSpan (am_sI hc 61 3 (nI (i + 1))) = some hc' ∧ f_Mod_readSpan hm = some hm' ∧ fA hc hc' ∧ fB hm hm' ∧ LO B n M G W (i + 1) hc' hm' := by
  obtain ⟨a1, a2, hm1, a3, a4, a5⟩ := adv tk J (by omega) (by omega)
  have x0 : am_ex [61] hc (am_sI hc 61 3 (nI (i + 1))) := am_ex.sI (by decide)
  have D1 := D.k x0 a4
  generalize am_sI hc 61 3 (nI (i + 1)) = hc1 at x0 D1 a5 ⊢
  have hG := D.1.1
  have hW := D.1.2
  have eW : nI W - (1 : Int32) = nI (W - 1) := nI_sub (b := 1) (by omega)
  have eG : nI G - (1 : Int32) = nI (G - 1) := nI_sub (b := 1) (by omega)
  have r2 : am_rd (hm1.2.1 140) 1137 (2 : Int32) = some (nI W) := (n_rd (i := 2) (by decide) (by decide)).trans (by rw [D1.W.2])
  obtain ⟨w, y, hc2, hm2, b1, b2, b3, b4, b5, b6, b7⟩ := numU tk (.inr ⟨i + 1, Nat.le_refl _, a5⟩) (lo := 0) (hi := W - 1) (by omega) (by omega)
  have b1' : f_Reader_readNumber (0 : Int32) (nI (W - 1)) hc1 = some (nI w, hc2) := b1
  have b2' : f_Mod_takes (0 : Int32) (nI (W - 1)) hm1 = some (y, hm2) := b2
  have D2 := D1.k b5 b6
  have X2 := (fA.x1 x0).tr (fA.x1 b5)
  have Y2 := a4.fB.tr b6.fB
  have T2 : TB (hm2.2.1 140) := by rw [b6.row (by decide), a4.row (by decide)]; exact T
  have hw : w < 6 := by omega
  have e29 : (29 : Int32) + nI w = nI (29 + w) := nI_add 29 w
  have wrc : ∀ h x, am_wr h 63 6 (nI w) x = some (am_sI h 63 w x) := fun h x => n_wr hw (by decide)
  have wrm : ∀ h x, am_wr h 140 1137 ((29 : Int32) + nI w) x = some (am_sI h 140 (29 + w) x) := fun h x => by rw [e29]; exact n_wr (by omega) (by decide)
  unfold f_Reader_readSpan f_Mod_readSpan
  rw [D1.W.1, eW, b1', a3, Option.bind_some, Option.bind_some, r2, Option.bind_some, eW, b2', Option.bind_some]
  rcases b7 with f | ⟨i2, hi2, j2, rfl⟩
  · have t105 : f_Reader_take (105 : Int32) hc2 = some (false, hc2) := cF_take f (k := 105) (by decide)
    have x104 : f_Reader_expect (104 : Int32) hc2 = some hc2 := cF_expect f (k := 104) (by decide)
    simp only [t105, x104, cF_num f, mF_eats f, mF_fails f, Option.bind_some, Bool.false_eq_true, if_false, wrc, if_neg f.ne]
    exact ⟨_, _, rfl, rfl, X2.tr (fA.sI (by decide)), Y2, .inl (f.wc (by decide))⟩
  · have set : ∀ (i3 : Nat) (hc3 hm3 : am_H) (l : Option Nat), i + 1 ≤ i3 → Jo B n M i3 hc3 hm3 → am_ex [61] hc2 hc3 → nw8 hm2 hm3 → (∀ g, l = some g → g < G) → LO B n M G W (i + 1) (am_sI hc3 63 w (oI l)) (am_sI hm3 140 (29 + w) (oI l)) := fun i3 hc3 hm3 l q1 q2 q3 q4 q5 => by
      refine .inr ⟨i3, P, C, q1, hP, (q2.wc (by omega)).wm, ?_, ?_⟩
      · have := (D2.k q3 q4).up (show i ≤ i3 by omega)
        have s := this.set (t0 := 5 + w) (Ps' := P) (by omega) (Q5 hw l q5 rfl) (fun _ _ z => z)
        rw [prt5 w hw] at s
        exact s
      · have T3 : TB (hm3.2.1 140) := by rw [q4.row (by decide)]; exact T2
        have s := TB.set (t := 5 + w) (x := oI l) T3 (by omega)
        rw [prt5 w hw] at s
        exact s
    rcases tke tk j2 (k := 105) (by decide) (by decide) (by decide) with ⟨c1, c2, hm3, c3, c4, c5, c6⟩ | ⟨c1, c2, c3⟩
    · have c3' : f_Reader_take (105 : Int32) hc2 = some (true, am_sI hc2 61 3 (nI (i2 + 1))) := c3
      have c4' : f_Mod_eats (4 : Int32) hm2 = some (true, hm3) := c4
      rcases tke tk j2 (k := 104) (by decide) (by decide) (by decide) with ⟨q1, _⟩ | ⟨_, _, q3⟩
      · omega
      · have q3' : f_Mod_eats (3 : Int32) hm2 = some (false, hm2) := q3
        have x1 : am_ex [61] hc2 (am_sI hc2 61 3 (nI (i2 + 1))) := am_ex.sI (by decide)
        simp only [c3', c4', q3', Option.bind_some, Bool.false_eq_true, if_false, if_true, wrc, wrm, if_pos c5.2.2.2.1]
        exact ⟨_, _, rfl, rfl, (X2.tr (fA.x1 x1)).tr (fA.sI (by decide)), (Y2.tr c6.fB).tr fB.s140, set (i2 + 1) _ _ none (by omega) c5 x1 c6 (fun g q => by cases q)⟩
    · have c2' : f_Reader_take (105 : Int32) hc2 = some (false, hc2) := c2
      have c3' : f_Mod_eats (4 : Int32) hm2 = some (false, hm2) := c3
      rcases tke tk j2 (k := 104) (by decide) (by decide) (by decide) with ⟨q1, q2, hm3, q3, q4, q5, q6⟩ | ⟨q1, q2, q3⟩
      · have q4' : f_Mod_eats (3 : Int32) hm2 = some (true, hm3) := q4
        have x104 : f_Reader_expect (104 : Int32) hc2 = some (am_sI hc2 61 3 (nI (i2 + 1))) := by
          unfold f_Reader_expect
          have q3' : f_Reader_take (104 : Int32) hc2 = some (true, am_sI hc2 61 3 (nI (i2 + 1))) := q3
          rw [q3', Option.bind_some, if_pos rfl]
        have x1 : am_ex [61] hc2 (am_sI hc2 61 3 (nI (i2 + 1))) := am_ex.sI (by decide)
        have D3 := D2.k x1 q6
        have r1 : am_rd (hm3.2.1 140) 1137 (1 : Int32) = some (nI G) := (n_rd (i := 1) (by decide) (by decide)).trans (by rw [D3.G.2])
        obtain ⟨v, y2, hc4, hm4, m1, m2, m3, m4, m5, m6, m7⟩ := numU tk (.inr ⟨i2 + 1, Nat.le_refl _, q5⟩) (lo := 0) (hi := G - 1) (by omega) (by omega)
        have m1' : f_Reader_readNumber (0 : Int32) (nI (G - 1)) (am_sI hc2 61 3 (nI (i2 + 1))) = some (nI v, hc4) := m1
        have m2' : f_Mod_takes (0 : Int32) (nI (G - 1)) hm3 = some (y2, hm4) := m2
        simp only [c2', x104, q4', r1, D3.G.1, eG, m1', m2', Option.bind_some, Bool.false_eq_true, if_false, if_true, wrc]
        rcases m7 with f | ⟨i4, hi4, j4, rfl⟩
        · rw [if_neg f.ne]
          exact ⟨_, _, rfl, rfl, ((X2.tr (fA.x1 x1)).tr (fA.x1 m5)).tr (fA.sI (by decide)), (Y2.tr q6.fB).tr m6.fB, .inl (f.wc (by decide))⟩
        · rw [if_pos j4.2.2.2.1, wrm, Option.bind_some]
          have := set i4 hc4 hm4 (some v) (by omega) j4 (x1.tr m5 (fun _ z => z) (fun _ z => z)) (q6.tr m6) (fun g q => by cases q; omega)
          rw [oI_some] at this
          exact ⟨_, _, rfl, rfl, ((X2.tr (fA.x1 x1)).tr (fA.x1 m5)).tr (fA.sI (by decide)), ((Y2.tr q6.fB).tr m6.fB).tr fB.s140, this⟩
      · have q2' : f_Reader_take (104 : Int32) hc2 = some (false, hc2) := q2
        have q3' : f_Mod_eats (3 : Int32) hm2 = some (false, hm2) := q3
        obtain ⟨hc4, hm4, m1, m2, m3, m4, m5⟩ := blm tk j2 (k := 2) (by decide) (by decide)
        have m1' : f_Reader_blame (2 : Int32) hc2 = some hc4 := m1
        have m2' : f_Mod_fails (2 : Int32) hm2 = some hm4 := m2
        have x104 : f_Reader_expect (104 : Int32) hc2 = some hc4 := by
          unfold f_Reader_expect
          rw [q2', Option.bind_some, if_neg Bool.false_ne_true, m1', Option.bind_some]
        simp only [c2', x104, q3', c3', m2', cF_num m3, Option.bind_some, Bool.false_eq_true, if_false, wrc, if_neg m3.ne]
        exact ⟨_, _, rfl, rfl, (X2.tr (fA.x1 m4)).tr (fA.sI (by decide)), Y2.tr m5.fB, .inl (m3.wc (by decide))⟩
/-! a person and its flags -/
theorem prt16 : ∀ p, p < 5 → prt (16 + p) = (65, p, 11 + p) ∧ prt (21 + p) = (66, p, 16 + p) ∧ prt (26 + p) = (67, p, 21 + p) ∧ prt (11 + p) = (64, p, 35 + p) := by decide
theorem Q16 {G W i p v : Nat} (hp : p < 5) (h : v ≤ 99) : Qt G W i (16 + p) (nI v) := by
  unfold Qt
  rw [if_neg (by omega), if_neg (by omega), if_neg (by omega), if_neg (by omega), if_neg (by omega), if_neg (by omega), if_neg (by omega), if_pos (by omega)]
  exact ⟨v, h, rfl⟩
theorem Q21 {G W i p v : Nat} (hp : p < 5) (h : v < 2 * G) : Qt G W i (21 + p) (nI v) := by
  unfold Qt
  rw [if_neg (by omega), if_neg (by omega), if_neg (by omega), if_neg (by omega), if_neg (by omega), if_neg (by omega), if_neg (by omega), if_neg (by omega), if_pos (by omega)]
  exact .inr ⟨v, h, rfl⟩
theorem Q26 {G W i p v : Nat} (h : v ≤ 999) : Qt G W i (26 + p) (nI v) := by
  unfold Qt
  rw [if_neg (by omega), if_neg (by omega), if_neg (by omega), if_neg (by omega), if_neg (by omega), if_neg (by omega), if_neg (by omega), if_neg (by omega), if_neg (by omega)]
  exact .inr ⟨v, h, rfl⟩
theorem Q11 {G W i p v : Nat} (hp : p < 5) (h : v < 2 * G) : Qt G W i (11 + p) (nI v) := by
  unfold Qt
  rw [if_neg (by omega), if_neg (by omega), if_neg (by omega), if_neg (by omega), if_neg (by omega), if_neg (by omega), if_pos (by omega)]
  exact ⟨v, h, rfl⟩
theorem flgF {hc hm : am_H} (f : Jf hc hm) (k : Nat) (v1 v2 : Int32) : f_Reader_readPerson_L39 (k + 1) v1 v2 hc = some (v2, hc) ∧ f_Mod_readPerson_L55 (k + 1) v1 hm = some hm := by
  constructor
  · rw [f_Reader_readPerson_L39, cF_kind f, Option.bind_some, if_neg (show ¬ (-1 : Int32) = 109 by decide), Option.bind_some, if_neg (show ¬ (-1 : Int32) = 110 by decide)]
    split <;> rfl
  · rw [f_Mod_readPerson_L55, if_neg f.ne]
theorem flg {B : Nat → Nat} {n M G W P C : Nat} (tk : tkM B n M) (hP : P < 5) : ∀ (c i v fc fm : Nat) (hc hm : am_H), M - i < c → c < fc → c < fm → v < i → Jo B n M i hc hm → DD G W i (P + 1) P (P + 1) C hc hm → TB (hm.2.1 140) → ∃ w hc' hm', f_Reader_readPerson_L39 fc (nI P) (nI v) hc = some (w, hc') ∧ f_Mod_readPerson_L55 fm (nI P) hm = some hm' ∧ fA hc hc' ∧ fB hm hm' ∧ (Jf hc' hm' ∨ ∃ i', i ≤ i' ∧ Jo B n M i' hc' hm' ∧ DD G W i' (P + 1) P (P + 1) C hc' hm' ∧ TB (hm'.2.1 140)) := by
  have hM := M_le tk
  have hpr := prt16 P hP
  intro c
  induction c with
  | zero => intro i v fc fm hc hm h1; omega
  | succ c ih =>
    intro i v fc fm hc hm h1 h2 h3 h4 J D T
    obtain ⟨fc, rfl⟩ : ∃ f', fc = f' + 1 := ⟨fc - 1, by omega⟩
    obtain ⟨fm, rfl⟩ : ∃ f', fm = f' + 1 := ⟨fm - 1, by omega⟩
    have hiM := J.1
    have hl := kdd_lt tk.2.1 i
    have hG := D.1.1
    have x109 : (nI (kdd B n i) = (109 : Int32)) = (kdd B n i = 109) := propext (nI_eq (b := 109) (by omega) (by decide))
    have x110 : (nI (kdd B n i) = (110 : Int32)) = (kdd B n i = 110) := propext (nI_eq (b := 110) (by omega) (by decide))
    have n900 : ¬ (900 : Int32) ≤ nI v := nI_ge (b := 900) (by omega) (by decide)
    have w65 : ∀ h x, am_wr h 65 5 (nI P) x = some (am_sI h 65 P x) := fun h x => n_wr hP (by decide)
    have w66 : ∀ h x, am_wr h 66 5 (nI P) x = some (am_sI h 66 P x) := fun h x => n_wr hP (by decide)
    have w67 : ∀ h x, am_wr h 67 5 (nI P) x = some (am_sI h 67 P x) := fun h x => n_wr hP (by decide)
    have w11 : ∀ h x, am_wr h 140 1137 ((11 : Int32) + nI P) x = some (am_sI h 140 (11 + P) x) := fun h x => by rw [show (11 : Int32) + nI P = nI (11 + P) from nI_add 11 P]; exact n_wr (by omega) (by decide)
    have w16 : ∀ h x, am_wr h 140 1137 ((16 : Int32) + nI P) x = some (am_sI h 140 (16 + P) x) := fun h x => by rw [show (16 : Int32) + nI P = nI (16 + P) from nI_add 16 P]; exact n_wr (by omega) (by decide)
    have w21 : ∀ h x, am_wr h 140 1137 ((21 : Int32) + nI P) x = some (am_sI h 140 (21 + P) x) := fun h x => by rw [show (21 : Int32) + nI P = nI (21 + P) from nI_add 21 P]; exact n_wr (by omega) (by decide)
    have jm := J.2.2.2.1
    rw [f_Reader_readPerson_L39, f_Mod_readPerson_L55, if_neg n900, if_pos jm, cR_kind tk J, Option.bind_some]
    unfold f_Mod_readFlag
    rcases tke tk J (k := 109) (by decide) (by decide) (by decide) with ⟨c1, c2, hm3, c3, c4, c5, c6⟩ | ⟨c1, c2, c3⟩
    · have c3' : f_Reader_take (109 : Int32) hc = some (true, am_sI hc 61 3 (nI (i + 1))) := c3
      have c4' : f_Mod_eats (8 : Int32) hm = some (true, hm3) := c4
      have x1 : am_ex [61] hc (am_sI hc 61 3 (nI (i + 1))) := am_ex.sI (by decide)
      obtain ⟨w, y2, hc4, hm4, m1, m2, m3, m4, m5, m6, m7⟩ := numU tk (.inr ⟨i + 1, Nat.le_refl _, c5⟩) (lo := 0) (hi := 99) (by omega) (by omega)
      have m1' : f_Reader_readNumber (0 : Int32) (99 : Int32) (am_sI hc 61 3 (nI (i + 1))) = some (nI w, hc4) := m1
      have m2' : f_Mod_takes (0 : Int32) (99 : Int32) hm3 = some (y2, hm4) := m2
      have X := ((fA.x1 x1).tr (fA.x1 m5)).tr (fA.sI (h := hc4) (o := 65) (j := P) (x := nI w) (by decide))
      have Y := (c6.fB.tr m6.fB).tr (fB.s140 (h := hm4) (j := 11 + P) (x := y2))
      rw [if_pos (x109 ▸ c1)]
      simp only [c3', c4', m1', m2', Option.bind_some, if_true, w65, w11]
      rcases m7 with f | ⟨i4, hi4, j4, rfl⟩
      · have f' : Jf (am_sI hc4 65 P (nI w)) (am_sI hm4 140 (11 + P) y2) := (f.wc (by decide)).wm
        obtain ⟨fc, rfl⟩ : ∃ f', fc = f' + 1 := ⟨fc - 1, by omega⟩
        rw [if_neg f'.ne, Option.bind_some, if_neg Bool.false_ne_true, (flgF f' fc _ _).1]
        exact ⟨_, _, _, rfl, rfl, X, Y, .inl f'⟩
      · have j5 : Jo B n M i4 (am_sI hc4 65 P (nI w)) (am_sI hm4 140 (11 + P) (nI w)) := (j4.wc (by decide)).wm
        have D5 := (((D.k x1 c6).k m5 m6).up (show i ≤ i4 by omega)).set (t0 := 16 + P) (Ps' := P + 1) (x := nI w) (by omega) (Q16 hP m4) (fun _ _ z => z)
        have T4 : TB (hm4.2.1 140) := by rw [m6.row (by decide), c6.row (by decide)]; exact T
        have T5 := TB.set (t := 16 + P) (x := nI w) T4 (by omega)
        rw [hpr.1] at D5 T5
        have hi4M := j4.1
        obtain ⟨w', hc6, hm6, z1, z2, z3, z4, z5⟩ := ih i4 (v + 1) fc fm _ _ (by omega) (by omega) (by omega) (by omega) j5 D5 T5
        rw [if_pos j5.2.2.2.1, Option.bind_some, if_pos rfl, nI_up, z1, z2]
        refine ⟨_, _, _, rfl, rfl, X.tr z3, Y.tr z4, ?_⟩
        rcases z5 with z5 | ⟨i', q1, q2, q3, q4⟩
        · exact .inl z5
        · exact .inr ⟨i', by omega, q2, q3, q4⟩
    · have c2' : f_Reader_take (109 : Int32) hc = some (false, hc) := c2
      have c3' : f_Mod_eats (8 : Int32) hm = some (false, hm) := c3
      rw [if_neg (x109 ▸ c1), Option.bind_some, c3', Option.bind_some, if_neg Bool.false_ne_true]
      rcases tke tk J (k := 110) (by decide) (by decide) (by decide) with ⟨q1, q2, hm3, q3, q4, q5, q6⟩ | ⟨q1, q2, q3⟩
      · have q4' : f_Mod_eats (9 : Int32) hm = some (true, hm3) := q4
        have x1 : am_ex [61] hc (am_sI hc 61 3 (nI (i + 1))) := am_ex.sI (by decide)
        have e110 : f_Reader_expect (110 : Int32) hc = some (am_sI hc 61 3 (nI (i + 1))) := by
          unfold f_Reader_expect
          have q3' : f_Reader_take (110 : Int32) hc = some (true, am_sI hc 61 3 (nI (i + 1))) := q3
          rw [q3', Option.bind_some, if_pos rfl]
        have D3 := D.k x1 q6
        obtain ⟨xs, ys, hc4, hm4, s1, s2, s3, s4, s5⟩ := spotU tk (.inr ⟨i + 1, Nat.le_refl _, q5⟩) hG D3.G.1 D3.G.2
        rw [if_pos (x110 ▸ q1), c2', Option.bind_some, if_neg Bool.false_ne_true, e110, Option.bind_some, s1, Option.bind_some, w66, Option.bind_some, q4', Option.bind_some, if_pos rfl, s2, Option.bind_some, eof_b]
        have u5 : U B n M (i + 2) (am_sI hc4 66 P xs) hm4 := by
          rcases s5 with f | ⟨i4, s, g1, g2, _⟩
          · exact .inl (f.wc (by decide))
          · exact .inr ⟨i4, g1, g2.wc (by decide)⟩
        obtain ⟨hc5, hm5, t1, t2, t3, t4, t5⟩ := xpcU tk u5 (k := 111) (by decide) (by decide) (by decide)
        have t1' : f_Reader_expect (111 : Int32) (am_sI hc4 66 P xs) = some hc5 := t1
        have t2' : eof (10 : Int32) hm4 = some hm5 := t2
        obtain ⟨w, y2, hc6, hm6, m1, m2, m3, m4, m5, m6, m7⟩ := numU tk t5 (lo := 0) (hi := 999) (by omega) (by omega)
        have m1' : f_Reader_readNumber (0 : Int32) (999 : Int32) hc5 = some (nI w, hc6) := m1
        have m2' : f_Mod_takes (0 : Int32) (999 : Int32) hm5 = some (y2, hm6) := m2
        have X := (((((fA.x1 x1).tr (fA.x1 s3)).tr (fA.sI (h := hc4) (o := 66) (j := P) (x := xs) (by decide))).tr (fA.x1 t3)).tr (fA.x1 m5)).tr (fA.sI (h := hc6) (o := 67) (j := P) (x := nI w) (by decide))
        have Y := ((((q6.fB.tr s4.fB).tr t4.fB).tr m6.fB).tr (fB.s140 (h := hm6) (j := 16 + P) (x := ys))).tr (fB.s140 (j := 21 + P) (x := y2))
        rw [t1', Option.bind_some, m1', Option.bind_some, w67, Option.bind_some, t2', Option.bind_some, m2', Option.bind_some, w16, Option.bind_some, w21, Option.bind_some]
        rcases m7 with f | ⟨i6, hi6, j6, rfl⟩
        · have f' : Jf (am_sI hc6 67 P (nI w)) (am_sI (am_sI hm6 140 (16 + P) ys) 140 (21 + P) y2) := ((f.wc (by decide)).wm).wm
          obtain ⟨fc, rfl⟩ : ∃ f', fc = f' + 1 := ⟨fc - 1, by omega⟩
          rw [if_neg f'.ne, Option.bind_some, if_neg Bool.false_ne_true, (flgF f' fc _ _).1]
          exact ⟨_, _, _, rfl, rfl, X, Y, .inl f'⟩
        · have hs : ∃ s, s < 2 * G ∧ xs = nI s ∧ ys = nI s := by
            rcases s5 with f | ⟨i4, s, g1, g2, g3, g4, g5⟩
            · exfalso
              have e1 : Jf (am_sI hc4 66 P xs) hm4 := f.wc (by decide)
              have e2 : hm5 = hm4 := Option.some.inj (t2.symm.trans (mF_eof e1 _))
              have e3 : hm6 = hm5 := by
                have e4 : f_Mod_takes (nI 0) (nI 999) hm5 = some (hm4.2.1 136 10, hm4) := by
                  rw [e2]
                  exact mF_num e1 _ _
                exact ((Prod.mk.inj (Option.some.inj (m2.symm.trans e4))).2).trans e2.symm
              exact f.ne (by rw [← e2, ← e3]; exact j6.2.2.2.1)
            · exact ⟨s, g3, g4, g5⟩
          obtain ⟨s, hs1, rfl, rfl⟩ := hs
          have j7 : Jo B n M i6 (am_sI hc6 67 P (nI w)) (am_sI (am_sI hm6 140 (16 + P) (nI s)) 140 (21 + P) (nI w)) := ((j6.wc (by decide)).wm).wm
          have D4 := (D3.k s3 s4).set (t0 := 21 + P) (Ps' := P + 1) (x := nI s) (by omega) (Q21 hP hs1) (fun _ _ z => z)
          rw [hpr.2.1] at D4
          have e140 : hm6.2.1 140 = hm4.2.1 140 := (m6.row (by decide)).trans (t4.row (by decide))
          have D6 : DD G W i (P + 1) P (P + 1) C hc6 (am_sI hm6 140 (16 + P) (nI s)) := D4.cg (fun o ho => (m5.2.2 o (by simp; omega)).trans (t3.2.2 o (by simp; omega))) (by rw [sI_row, sI_row, if_pos rfl, if_pos rfl, e140])
          have D7 := (D6.up (show i ≤ i6 by omega)).set (t0 := 26 + P) (Ps' := P + 1) (x := nI w) (by omega) (Q26 m4) (fun _ _ z => z)
          rw [hpr.2.2.1] at D7
          have T7 : TB ((am_sI (am_sI hm6 140 (16 + P) (nI s)) 140 (21 + P) (nI w)).2.1 140) := by
            intro p hp
            by_cases e : p = P
            · subst e
              exact .inr ⟨w, m4, sI_me⟩
            · rw [sI_at (.inr (by omega)), sI_at (.inr (by omega)), sI_at (.inr (by omega)), sI_at (.inr (by omega)), e140, s4.row (by decide), q6.row (by decide)]
              exact T p hp
          have hi6M := j6.1
          obtain ⟨w', hc8, hm8, z1, z2, z3, z4, z5⟩ := ih i6 (v + 1) fc fm _ _ (by omega) (by omega) (by omega) (by omega) j7 D7 T7
          rw [if_pos j7.2.2.2.1, Option.bind_some, if_pos rfl, nI_up, z1, z2]
          refine ⟨_, _, _, rfl, rfl, X.tr z3, Y.tr z4, ?_⟩
          rcases z5 with z5 | ⟨i', q1, q2, q3, q4⟩
          · exact .inl z5
          · exact .inr ⟨i', by omega, q2, q3, q4⟩
      · have q3' : f_Mod_eats (9 : Int32) hm = some (false, hm) := q3
        rw [if_neg (x110 ▸ q1), q3', Option.bind_some, if_neg Bool.false_ne_true, Option.bind_some, if_neg Bool.false_ne_true]
        exact ⟨_, _, _, rfl, rfl, fA.rf, fB.rf, .inr ⟨i, Nat.le_refl _, J, D, T⟩⟩
