-- deps: 89.both
/-! ===== what comes behind the reading ===== -/
theorem n_rvC {h : am_H} : ∃ h', f_River_copyFrom 1 62 h = some h' ∧ h'.2.2 = h.2.2 ∧ (∀ a, a < 1 ∨ 9 < a → h'.2.1 a = h.2.1 a) ∧ (∀ j, j < 6 → h'.2.1 1 j = h.2.1 62 j) ∧ (∀ j, j < 6 → h'.2.1 2 j = h.2.1 63 j) ∧ (∀ j, j < 5 → h'.2.1 3 j = h.2.1 64 j) ∧ (∀ i, 3 ≤ i → i ≤ 5 → ∀ j, j < 5 → h'.2.1 (1 + i) j = h.2.1 (62 + i) j) ∧ (∀ i, 6 ≤ i → i ≤ 8 → ∀ j, j < 60 → h'.2.1 (1 + i) j = h.2.1 (62 + i) j) := by
  unfold f_River_copyFrom
  simp only [am_let]
  generalize hx : am_sI (am_sI (am_sI (am_sI (am_sI (am_sI h 1 0 (h.2.1 62 0)) 1 1 ((am_sI h 1 0 (h.2.1 62 0)).2.1 62 1)) 1 2 _) 1 3 _) 1 4 _) 1 5 _ = x
  have xJ : x.2.2 = h.2.2 := by rw [← hx]; rfl
  have x1 : ∀ a, a ≠ 1 → x.2.1 a = h.2.1 a := fun a ha => by
    rw [← hx]
    simp only [sI_row, if_neg ha]
  have hqo : (62 : Nat) ≠ 1 := by omega
  have x0 : ∀ j, j < 6 → x.2.1 1 j = h.2.1 62 j := fun j hj => by
    rw [← hx]
    simp only [sI_row, if_true, if_neg hqo]
    rcases (show j = 0 ∨ j = 1 ∨ j = 2 ∨ j = 3 ∨ j = 4 ∨ j = 5 by omega) with rfl | rfl | rfl | rfl | rfl | rfl
    · rw [up_n (by decide), up_n (by decide), up_n (by decide), up_n (by decide), up_n (by decide), up_s]
    · rw [up_n (by decide), up_n (by decide), up_n (by decide), up_n (by decide), up_s]
    · rw [up_n (by decide), up_n (by decide), up_n (by decide), up_s]
    · rw [up_n (by decide), up_n (by decide), up_s]
    · rw [up_n (by decide), up_s]
    · rw [up_s]
  obtain ⟨y1, a1, b1, c1, d1⟩ := cp_r (h := x) (o0 := 63) (o1 := 2) (n := 6) (by decide)
  obtain ⟨y2, a2, b2, c2, d2⟩ := cp_r (h := y1) (o0 := 64) (o1 := 3) (n := 5) (by decide)
  obtain ⟨y3, a3, b3, c3, d3⟩ := cp_r (h := y2) (o0 := 65) (o1 := 4) (n := 5) (by decide)
  obtain ⟨y4, a4, b4, c4, d4⟩ := cp_r (h := y3) (o0 := 66) (o1 := 5) (n := 5) (by decide)
  obtain ⟨y5, a5, b5, c5, d5⟩ := cp_r (h := y4) (o0 := 67) (o1 := 6) (n := 5) (by decide)
  obtain ⟨y6, a6, b6, c6, d6⟩ := cp_r (h := y5) (o0 := 68) (o1 := 7) (n := 60) (by decide)
  obtain ⟨y7, a7, b7, c7, d7⟩ := cp_r (h := y6) (o0 := 69) (o1 := 8) (n := 60) (by decide)
  obtain ⟨y8, a8, b8, c8, d8⟩ := cp_r (h := y7) (o0 := 70) (o1 := 9) (n := 60) (by decide)
  have f1 : am_cp x (62 + 1) 6 0 (1 + 1) 6 0 6 = some y1 := a1
  have f2 : am_cp y1 (62 + 2) 5 0 (1 + 2) 5 0 5 = some y2 := a2
  have f3 : am_cp y2 (62 + 3) 5 0 (1 + 3) 5 0 5 = some y3 := a3
  have f4 : am_cp y3 (62 + 4) 5 0 (1 + 4) 5 0 5 = some y4 := a4
  have f5 : am_cp y4 (62 + 5) 5 0 (1 + 5) 5 0 5 = some y5 := a5
  have f6 : am_cp y5 (62 + 6) 60 0 (1 + 6) 60 0 (Int32.ofNat 60) = some y6 := a6
  have f7 : am_cp y6 (62 + 7) 60 0 (1 + 7) 60 0 (Int32.ofNat 60) = some y7 := a7
  have f8 : am_cp y7 (62 + 8) 60 0 (1 + 8) 60 0 (Int32.ofNat 60) = some y8 := a8
  rw [f1, Option.bind_some, f2, Option.bind_some, f3, Option.bind_some, f4, Option.bind_some, f5, Option.bind_some, f6, Option.bind_some, f7, Option.bind_some, f8, Option.bind_some]
  refine ⟨_, rfl, by rw [b8, b7, b6, b5, b4, b3, b2, b1, xJ], fun a ha => ?_, fun j hj => ?_, fun j hj => ?_, fun j hj => ?_, fun i hi1 hi2 j hj => ?_, fun i hi1 hi2 j hj => ?_⟩
  · rw [c8 a (by omega), c7 a (by omega), c6 a (by omega), c5 a (by omega), c4 a (by omega), c3 a (by omega), c2 a (by omega), c1 a (by omega), x1 a (by omega)]
  · rw [c8 1 (by omega), c7 1 (by omega), c6 1 (by omega), c5 1 (by omega), c4 1 (by omega), c3 1 (by omega), c2 1 (by omega), c1 1 (by omega), x0 j hj]
  · rw [c8 _ (by omega), c7 _ (by omega), c6 _ (by omega), c5 _ (by omega), c4 _ (by omega), c3 _ (by omega), c2 _ (by omega), d1 j hj, x1 _ (by omega)]
  · rw [c8 _ (by omega), c7 _ (by omega), c6 _ (by omega), c5 _ (by omega), c4 _ (by omega), c3 _ (by omega), d2 j hj, c1 _ (by omega), x1 _ (by omega)]
  · rcases (show i = 3 ∨ i = 4 ∨ i = 5 by omega) with rfl | rfl | rfl
    · rw [c8 _ (by omega), c7 _ (by omega), c6 _ (by omega), c5 _ (by omega), c4 _ (by omega), d3 j hj, c2 _ (by omega), c1 _ (by omega), x1 _ (by omega)]
    · rw [c8 _ (by omega), c7 _ (by omega), c6 _ (by omega), c5 _ (by omega), d4 j hj, c3 _ (by omega), c2 _ (by omega), c1 _ (by omega), x1 _ (by omega)]
    · rw [c8 _ (by omega), c7 _ (by omega), c6 _ (by omega), d5 j hj, c4 _ (by omega), c3 _ (by omega), c2 _ (by omega), c1 _ (by omega), x1 _ (by omega)]
  · rcases (show i = 6 ∨ i = 7 ∨ i = 8 by omega) with rfl | rfl | rfl
    · rw [c8 _ (by omega), c7 _ (by omega), d6 j hj, c5 _ (by omega), c4 _ (by omega), c3 _ (by omega), c2 _ (by omega), c1 _ (by omega), x1 _ (by omega)]
    · rw [c8 _ (by omega), d7 j hj, c6 _ (by omega), c5 _ (by omega), c4 _ (by omega), c3 _ (by omega), c2 _ (by omega), c1 _ (by omega), x1 _ (by omega)]
    · rw [d8 j hj, c7 _ (by omega), c6 _ (by omega), c5 _ (by omega), c4 _ (by omega), c3 _ (by omega), c2 _ (by omega), c1 _ (by omega), x1 _ (by omega)]
/-- the state that a row of the reference tells -/
def sOf (A : Nat → Int32) : sS := ((nt (A 26), 0, 0), (fun k => dec1 (A (29 + k))), (fun p => nt (A (35 + p))), fun _ => 0)
theorem PA.wk {A : Nat → Int32} (pa : PA A) {k : Nat} (hk : k < 6) : A (29 + k) = oI (sW (sOf A) k) ∧ ∀ g, sW (sOf A) k = some g → g < rG (rOf A) := by
  obtain ⟨l, q1, q2⟩ := pa.2.2.2.2.1 k hk
  have hG := pa.1.1
  have e : sW (sOf A) k = l := by
    show dec1 (A (29 + k)) = l
    rw [q2]
    exact dec_o (fun g hg => by have := q1 g hg; omega)
  rw [e]
  exact ⟨q2, q1⟩
theorem PA.sp {A : Nat → Int32} (pa : PA A) {p : Nat} (hp : p < rP (rOf A)) : A (35 + p) = nI (sP (sOf A) p) ∧ sP (sOf A) p < 2 * rG (rOf A) := by
  obtain ⟨s, q1, q2⟩ := pa.2.2.2.2.2 p hp
  have hG := pa.1.1
  have e : sP (sOf A) p = s := by
    show nt (A (35 + p)) = s
    rw [q2]
    exact nt_n (by omega)
  rw [e]
  exact ⟨q2, q1⟩
theorem PA.ho {A : Nat → Int32} (pa : PA A) : A 26 = nI (sH (sOf A)) ∧ sH (sOf A) ≤ 999 := by
  obtain ⟨H, q1, q2⟩ := pa.2.2.1
  have e : sH (sOf A) = H := by
    show nt (A 26) = H
    rw [q2]
    exact nt_n (by omega)
  rw [e]
  exact ⟨q2, q1⟩
theorem PA.vs {A : Nat → Int32} (pa : PA A) {b : Nat} (hb : 999 ≤ b) : vS b (rOf A) (sOf A) := by
  have hW := pa.1.2.1
  exact ⟨Nat.le_trans pa.ho.2 hb, Nat.zero_le _, show 0 < 32 by decide, fun k hk g hg => (pa.wk (by omega)).2 g hg, fun p hp => ⟨.inr (pa.sp hp).2, Nat.zero_le _⟩⟩
theorem n_begin {A : Nat → Int32} {h : am_H} (pa : PA A) (R : tR 1 (rOf A) h) (h4 : h.2.1 1 4 = A 26) (hw : ∀ k, k < 6 → h.2.1 2 k = A (29 + k)) (hs : ∀ p, p < rP (rOf A) → h.2.1 3 p = A (35 + p)) : ∃ h', f_State_begin 10 1 h = some h' ∧ h'.2.2 = h.2.2 ∧ (∀ a, a < 10 ∨ 13 < a → h'.2.1 a = h.2.1 a) ∧ tS 10 (rOf A) (sM (rOf A) (sOf A)) h' := by
  have hW := pa.1.2.1
  have hP := pa.1.2.2.1
  unfold f_State_begin
  simp only [am_let]
  rw [h4]
  generalize hx : am_sI (am_sI (am_sI h 10 0 (A 26)) 10 1 0) 10 2 0 = x
  have x1 : ∀ a, a ≠ 10 → x.2.1 a = h.2.1 a := fun a ha => by
    rw [← hx]
    simp only [sI_row, if_neg ha]
  have xJ : x.2.2 = h.2.2 := by rw [← hx]; rfl
  have v0 : x.2.1 10 0 = A 26 := by rw [← hx, sI_at (.inr (by decide)), sI_at (.inr (by decide)), sI_me]
  have v1 : x.2.1 10 1 = 0 := by rw [← hx, sI_at (.inr (by decide)), sI_me]
  have v2 : x.2.1 10 2 = 0 := by rw [← hx, sI_me]
  clear hx
  obtain ⟨y1, a1, b1, c1, d1⟩ := cp_r (h := x) (o0 := 2) (o1 := 11) (n := 6) (by decide)
  obtain ⟨y2, a2, b2, c2, d2⟩ := cp_r (h := y1) (o0 := 3) (o1 := 12) (n := 5) (by decide)
  obtain ⟨y3, a3, b3, c3⟩ := n_fillI (h := y2) (o := 13) (L := 5) (v := 0) (by decide)
  have f1 : am_cp x (1 + 1) 6 0 (10 + 1) 6 0 6 = some y1 := a1
  have f2 : am_cp y1 (1 + 2) 5 0 (10 + 2) 5 0 5 = some y2 := a2
  have f3 : f_Arrays_fill (10 + 3) 5 0 y2 = some y3 := a3
  rw [f1, Option.bind_some, f2, Option.bind_some, f3, Option.bind_some]
  have rr : ∀ a, a < 10 ∨ 13 < a → y3.2.1 a = h.2.1 a := fun a ha => by
    rw [b3.2.2 a (by simp; omega), c2 a (by omega), c1 a (by omega), x1 a (by omega)]
  have r10 : y3.2.1 10 = x.2.1 10 := by rw [b3.2.2 10 (by decide), c2 10 (by decide), c1 10 (by decide)]
  have S3 : tS 10 (rOf A) (sOf A) y3 := by
    refine ⟨by rw [r10, v0]; exact pa.ho.1, by rw [r10, v1]; rfl, by rw [r10, v2]; rfl, fun k hk => ?_, fun p hp => ⟨?_, ?_⟩⟩
    · show y3.2.1 11 k = _
      rw [b3.2.2 11 (by decide), c2 11 (by decide), d1 k (by omega), x1 2 (by decide), hw k (by omega)]
      exact (pa.wk (by omega)).1
    · show y3.2.1 12 p = _
      rw [b3.2.2 12 (by decide), d2 p (by omega), c1 3 (by decide), x1 3 (by decide), hs p hp]
      exact (pa.sp hp).1
    · exact c3 p (by omega)
  obtain ⟨h', e1, e2, e3⟩ := n_markDone (o := 10) (b := 999) (h := y3) (by decide) pa.1 (pa.vs (Nat.le_refl _)) (R.cg (fun a h1 h2 => rr a (by omega))) S3 (by decide)
  rw [e1, Option.bind_some]
  refine ⟨_, rfl, by rw [e2.2.1, b3.2.1, b2, b1, xJ], fun a ha => ?_, e3⟩
  rw [e2.2.2 a (by simp; omega), rr a ha]
def cRest (h : am_H) : Option (Int32 × am_H) := (f_River_copyFrom 1 62 h).bind fun q6 =>
        (f_State_begin 10 1 q6).bind fun q7 =>
        (f_Past_forget  q7).bind fun q8 =>
        (f_Weeks_forget  q8).bind fun q9 =>
        some ((q9.2.1 1 5), q9)
theorem n_cRest {A : Nat → Int32} {h : am_H} (pa : PA A) (cf : CF A h) : ∃ h', cRest h = some (nI (rL (rOf A)), h') ∧ h'.2.2 = h.2.2 ∧ (∀ a, a = 0 ∨ (13 < a ∧ a ≠ 18 ∧ a ≠ 91) → h'.2.1 a = h.2.1 a) ∧ tR 1 (rOf A) h' ∧ tS 10 (rOf A) (sM (rOf A) (sOf A)) h' ∧ h'.2.1 18 2 = nI 0 ∧ h'.2.1 18 1 = h.2.1 18 1 ∧ h'.2.1 91 8 = 0 ∧ h'.2.1 91 9 = 0 := by
  obtain ⟨R, c4, cw, cs⟩ := cf
  have hP := pa.1.2.2.1
  obtain ⟨q6, a1, a2, a3, a4, a5, a6, a7, a8⟩ := n_rvC (h := h)
  have R6 : tR 1 (rOf A) q6 := R.mv pa.1 a4 a7 a8
  obtain ⟨q7, b1, b2, b3, b4⟩ := n_begin pa R6 (by rw [a4 4 (by omega)]; exact c4) (fun k hk => by rw [a5 k hk]; exact cw k hk) (fun p hp => by rw [a6 p (by omega)]; exact cs p hp)
  have f8 : f_Past_forget q7 = some (am_sI q7 18 2 0) := rfl
  have f9 : ∀ x : am_H, f_Weeks_forget x = some (am_sI (am_sI x 91 8 0) 91 9 0) := fun x => rfl
  have R7 : tR 1 (rOf A) (am_sI (am_sI (am_sI q7 18 2 0) 91 8 0) 91 9 0) := R6.cg (fun a h1 h2 => by
    rw [sI_row, if_neg (by omega), sI_row, if_neg (by omega), sI_row, if_neg (by omega), b3 a (by omega)])
  unfold cRest
  rw [a1, Option.bind_some, b1, Option.bind_some, f8, Option.bind_some, f9, Option.bind_some, R7.2.2.2.2.1]
  refine ⟨_, rfl, by rw [← a2, ← b2]; rfl, fun a ha => ?_, R7, ?_, ?_, ?_, ?_, ?_⟩
  · rw [sI_row, if_neg (by omega), sI_row, if_neg (by omega), sI_row, if_neg (by omega), b3 a (by omega), a3 a (by omega)]
  · exact b4.cg (fun a h1 h2 => by rw [sI_row, if_neg (by omega), sI_row, if_neg (by omega), sI_row, if_neg (by omega)])
  · rw [sI_at (.inl (by decide)), sI_at (.inl (by decide)), sI_me]; rfl
  · rw [sI_at (.inl (by decide)), sI_at (.inl (by decide)), sI_at (.inr (by decide)), b3 18 (by omega), a3 18 (by omega)]
  · rw [sI_at (.inr (by decide)), sI_me]
  · rw [sI_me]
/-! the reference -/
theorem n_L179 {p1 : Int32} {h : am_H} : ∃ y, f_Mod_river_L179 p1 am_fu 0 h = some y ∧ am_ex [137] h y.2 ∧ ∀ j, y.2.2.1 137 j = if j < 1137 then h.2.1 140 j else h.2.1 137 j := by
  have key := lpc2 (fun m (a1 : Int32) (a2 : am_H) => f_Mod_river_L179 p1 m a1 a2) 1137
    (fun t a1 a2 => a1 = nI t ∧ am_ex [137] h a2 ∧ ∀ j, a2.2.1 137 j = if j < t then h.2.1 140 j else h.2.1 137 j)
    (fun y => am_ex [137] h y.2 ∧ ∀ j, y.2.2.1 137 j = if j < 1137 then h.2.1 140 j else h.2.1 137 j)
    (fun m t a1 a2 ht hI => by
      obtain ⟨rfl, x2, g⟩ := hI
      rw [f_Mod_river_L179, if_neg (show ¬ (1137 : Int32) ≤ nI t from nI_ge (b := 1137) ht (by decide)), n_rd ht (by decide), Option.bind_some, n_wr (by omega) (by decide), Option.bind_some, nI_up]
      refine ⟨_, _, rfl, rfl, x2.tr (am_ex.sI (X := [137]) (by decide)) (fun _ z => z) (fun _ z => z), fun j => ?_⟩
      by_cases c : j = t
      · subst c
        rw [sI_me, if_pos (by omega), x2.2.2 140 (by decide)]
      · rw [sI_at (.inr c), g j]
        by_cases d : j < t
        · rw [if_pos d, if_pos (by omega)]
        · rw [if_neg d, if_neg (by omega)])
    (fun m a1 a2 hI => by
      obtain ⟨rfl, x2, g⟩ := hI
      rw [f_Mod_river_L179, if_pos (show (1137 : Int32) ≤ nI 1137 by decide)]
      exact ⟨_, rfl, x2, g⟩)
    (by unfold am_fu; omega) (nI 0) h ⟨rfl, am_ex.rf, fun j => by rw [if_neg (by omega)]⟩
  exact key
def mRest (p1 : Int32) (q27 : am_H) : Option (Int32 × am_H) :=
    am_let (am_sI q27 136 13 (q27.2.1 136 11)) fun h28 =>
    am_let (am_sI h28 136 14 (if (h28.2.1 136 11) = 0 then (-1 : Int32) else (h28.2.1 136 12))) fun h30 =>
    (if (h30.2.1 136 11) = 0 then
      (f_Mod_river_L179 p1 am_fu (0 : Int32) h30).bind fun q35 =>
      (f_Mod_doesErrands  q35.2).bind fun q36 =>
      (am_rd (q36.2.2.1 137) 3411 (0 : Int32)).bind fun x37 =>
      some (x37, q36.2)
    else
      some (((-30 : Int32) - (h30.2.1 136 11)), h30))
/-- where the reference begins to read -/
def mSt (p1 : Int32) (h : am_H) : am_H := am_rI (am_sI (am_sI (am_sI (am_sI (am_sI h 136 0 0) 136 8 p1) 136 5 0) 136 7 0) 136 11 0) 140 (am_pl ((am_sI (am_sI (am_sI (am_sI (am_sI h 136 0 0) 136 8 p1) 136 5 0) 136 7 0) 136 11 0).2.1 140))
theorem river_eq {p1 : Int32} {h : am_H} (hw : f_Mod_within ((p1).toInt64) (0 : Int64) (((h.2.1 136 5)).toInt64) (am_sI h 136 0 0) = some true) : f_Mod_river p1 h = (mChain p1 (mSt p1 h)).bind (mRest p1) := by
  unfold f_Mod_river
  simp only [am_let]
  have e5 : (am_sI h 136 0 0).2.1 136 5 = h.2.1 136 5 := sI_at (.inr (by decide))
  rw [e5, hw, Option.bind_some, if_pos rfl, n_plain (by decide) (by decide), Option.bind_some]
  show _ = ((mChain p1 (mSt p1 h)).bind (mRest p1))
  unfold mChain mHead
  simp only [Option.bind_assoc, eof_b]
  rfl
theorem mSt_x {p1 : Int32} {h : am_H} : am_ex [136, 140] h (mSt p1 h) := by
  have s : ∀ (h : am_H) j x, am_ex [136, 140] h (am_sI h 136 j x) := fun h j x => am_ex.sI (by simp)
  unfold mSt
  exact (((((s _ _ _).tr (s _ _ _) (fun _ z => z) (fun _ z => z)).tr (s _ _ _) (fun _ z => z) (fun _ z => z)).tr (s _ _ _) (fun _ z => z) (fun _ z => z)).tr (s _ _ _) (fun _ z => z) (fun _ z => z)).tr (am_ex.rI (X := [136, 140]) (by decide)) (fun _ z => z) (fun _ z => z)
theorem mSt_v {p1 : Int32} {h : am_H} : (mSt p1 h).2.1 136 8 = p1 ∧ (mSt p1 h).2.1 136 5 = 0 ∧ (mSt p1 h).2.1 136 7 = nI 0 ∧ (mSt p1 h).2.1 136 11 = 0 ∧ ∀ j, j < 1137 → (mSt p1 h).2.1 140 j = am_pl (fun _ => 0) j := by
  have r : ∀ {h : am_H} {f}, (am_rI h 140 f).2.1 136 = h.2.1 136 := fun {h f} => by rw [rI_row, if_neg (by decide)]
  refine ⟨?_, ?_, ?_, ?_, fun j hj => ?_⟩
  · unfold mSt
    rw [r, sI_at (.inr (by decide)), sI_at (.inr (by decide)), sI_at (.inr (by decide)), sI_me]
  · unfold mSt
    rw [r, sI_at (.inr (by decide)), sI_at (.inr (by decide)), sI_me]
  · unfold mSt
    rw [r, sI_at (.inr (by decide)), sI_me]
    rfl
  · unfold mSt
    rw [r, sI_me]
  · unfold mSt
    rw [rI_row, if_pos rfl]
    exact pl_lt hj
