-- deps: 73.eval 74.wrd 75.tok 76.next 77.cut 78.prs 79.rec 80.rd 81.unit 82.dd 83.line 84.law 85.read 86.head
/-! ===== the class fills its rows ===== -/
def nt (x : Int32) : Nat := x.toNatClampNeg
def dec1 (x : Int32) : Option Nat := if x = -1 then none else some x.toNatClampNeg
/-- the river that a row of the reference tells -/
def rOf (A : Nat → Int32) : sR := ((nt (A 1), nt (A 2), nt (A 3), nt (A 4), nt (A 0)), fun p => nt (A (11 + p)), fun p => dec1 (A (16 + p)), fun p => dec1 (A (21 + p)), fun p s k f => slet A 0 p (s / 2) k f (s % 2), fun p g k f => slet A 1 p g k f 0)
theorem cds_sh {A : Nat → Int32} {a n : Nat} : cds (fun i => A (a + i)) 0 n = cds A a n := by
  unfold cds
  apply List.map_congr_left
  intro i _
  rw [Nat.zero_add]
theorem n_ask {o : Nat} {h : am_H} {a1 a2 a3 a4 a5 a6 : Int32} : ∃ h', f_Law_ask o a1 a2 a3 a4 a5 a6 h = some h' ∧ am_ex [o + 2] h h' ∧ h'.2.1 (o + 2) 0 = a1 ∧ h'.2.1 (o + 2) 1 = a2 ∧ h'.2.1 (o + 2) 2 = a3 ∧ h'.2.1 (o + 2) 3 = a4 ∧ h'.2.1 (o + 2) 4 = a5 ∧ h'.2.1 (o + 2) 5 = a6 := by
  have w0 : ∀ (h : am_H) x, am_wr h (o + 2) 6 (0 : Int32) x = some (am_sI h (o + 2) 0 x) := fun h x => n_wr (i := 0) (by decide) (by decide)
  have w1 : ∀ (h : am_H) x, am_wr h (o + 2) 6 (1 : Int32) x = some (am_sI h (o + 2) 1 x) := fun h x => n_wr (i := 1) (by decide) (by decide)
  have w2 : ∀ (h : am_H) x, am_wr h (o + 2) 6 (2 : Int32) x = some (am_sI h (o + 2) 2 x) := fun h x => n_wr (i := 2) (by decide) (by decide)
  have w3 : ∀ (h : am_H) x, am_wr h (o + 2) 6 (3 : Int32) x = some (am_sI h (o + 2) 3 x) := fun h x => n_wr (i := 3) (by decide) (by decide)
  have w4 : ∀ (h : am_H) x, am_wr h (o + 2) 6 (4 : Int32) x = some (am_sI h (o + 2) 4 x) := fun h x => n_wr (i := 4) (by decide) (by decide)
  have w5 : ∀ (h : am_H) x, am_wr h (o + 2) 6 (5 : Int32) x = some (am_sI h (o + 2) 5 x) := fun h x => n_wr (i := 5) (by decide) (by decide)
  unfold f_Law_ask
  rw [w0, Option.bind_some, w1, Option.bind_some, w2, Option.bind_some, w3, Option.bind_some, w4, Option.bind_some, w5, Option.bind_some]
  refine ⟨_, rfl, ?_, ?_, ?_, ?_, ?_, ?_, ?_⟩
  · have s : ∀ (h : am_H) j x, am_ex [o + 2] h (am_sI h (o + 2) j x) := fun h j x => am_ex.sI (by simp)
    exact (((((s _ _ _).tr (s _ _ _) (fun _ z => z) (fun _ z => z)).tr (s _ _ _) (fun _ z => z) (fun _ z => z)).tr (s _ _ _) (fun _ z => z) (fun _ z => z)).tr (s _ _ _) (fun _ z => z) (fun _ z => z)).tr (s _ _ _) (fun _ z => z) (fun _ z => z)
  · rw [sI_at (.inr (by decide)), sI_at (.inr (by decide)), sI_at (.inr (by decide)), sI_at (.inr (by decide)), sI_at (.inr (by decide)), sI_me]
  · rw [sI_at (.inr (by decide)), sI_at (.inr (by decide)), sI_at (.inr (by decide)), sI_at (.inr (by decide)), sI_me]
  · rw [sI_at (.inr (by decide)), sI_at (.inr (by decide)), sI_at (.inr (by decide)), sI_me]
  · rw [sI_at (.inr (by decide)), sI_at (.inr (by decide)), sI_me]
  · rw [sI_at (.inr (by decide)), sI_me]
  · rw [sI_me]
theorem n_holds {o law frm many : Nat} {A : Nat → Int32} {h : am_H} (hlaw : law < 2) (hb : many ≤ 900) (h1 : h.2.1 o 1 = nI many) (h2 : ∀ j, j < many → h.2.1 (o + 1) j = mpc (A (237 + frm + j))) (ht : tyc (nI (1006 - law)) (cds A (237 + frm) many) [] = some [true]) (hw : ∀ i, i < 6 → bnd (h.2.1 (o + 2) i)) : ∃ h', f_Law_holds o h = some (decide (sp_run (cds A (237 + frm) many) (h.2.1 (o + 2)) [] = [1]), h') ∧ am_ex [o + 3] h h' := by
  have hm : nI (1006 - law) = 1006 ∨ nI (1006 - law) = 1005 := by
    rcases (show law = 0 ∨ law = 1 by omega) with rfl | rfl
    · exact .inl rfl
    · exact .inr rfl
  have ht' : tyc (nI (1006 - law)) (cds (fun i => A (237 + frm + i)) 0 many) [] = some [true] := by rw [cds_sh]; exact ht
  obtain ⟨y, h', a1, a2, a3⟩ := cl_L4 (o := o) (many := many) (C := fun i => A (237 + frm + i)) hm hb many 0 [] [true] [] h am_fu (by omega) (by unfold am_fu; omega) h1 h2 hw (by decide) ht' trivial (fun x hx => by cases hx) trivial
  have hvt := run_vty (w := h.2.1 (o + 2)) _ _ _ [] ht trivial
  rw [cds_sh] at a1 a2
  generalize sp_run (cds A (237 + frm) many) (h.2.1 (o + 2)) [] = res at a1 a2 hvt ⊢
  match res, hvt with
  | [v], hvt =>
    have a1' : f_Law_holds_L4 o am_fu 0 0 h = some (nI 1, y, h') := a1
    have v0 : h'.2.1 (o + 3) 0 = v := a2.1
    have r0 : am_rd (h'.2.1 (o + 3)) 64 (0 : Int32) = some v := (n_rd (i := 0) (by decide) (by decide)).trans (by rw [v0])
    refine ⟨h', ?_, a3⟩
    unfold f_Law_holds
    rw [a1', Option.bind_some, r0, Option.bind_some]
    rcases hvt.1 rfl with rfl | rfl
    · rfl
    · rfl
/-- a law is asked -/
theorem n_evl {law C p gap k f side ld : Nat} {hc hm h : am_H} (hlaw : law < 2) (L : LW law C hc hm) (hC : C ≤ 900) (e0 : h.2.1 (75 + 4 * law) = hc.2.1 (75 + 4 * law)) (e1 : h.2.1 (75 + 4 * law + 1) = hc.2.1 (75 + 4 * law + 1)) (hp : p < 5) (hg : gap < 4) (hk : k < 6) (hf : f < 2) (hs : side < 2) (hl : ld ≤ 99) (el : hm.2.1 140 (11 + p) = nI ld) :
    ∃ h1, f_Law_ask (75 + 4 * law) (nI gap) (nI k) (nI p) (nI ld) (nI f) (nI side) h = some h1 ∧ am_ex [75 + 4 * law + 2] h h1 ∧ ((hm.2.1 140 (5 + law) = 0 ∧ h1.2.1 (75 + 4 * law) 0 = 0) ∨ (¬ h1.2.1 (75 + 4 * law) 0 = 0 ∧ ∃ h2, f_Law_holds (75 + 4 * law) h1 = some (slet (hm.2.1 140) law p gap k f side, h2) ∧ am_ex [75 + 4 * law + 3] h1 h2)) := by
  obtain ⟨h1, a1, a2, w0, w1, w2, w3, w4, w5⟩ := n_ask (o := 75 + 4 * law) (h := h) (a1 := nI gap) (a2 := nI k) (a3 := nI p) (a4 := nI ld) (a5 := nI f) (a6 := nI side)
  refine ⟨h1, a1, a2, ?_⟩
  have r0 : h1.2.1 (75 + 4 * law) = hc.2.1 (75 + 4 * law) := (a2.2.2 _ (by simp)).trans e0
  have r1 : h1.2.1 (75 + 4 * law + 1) = hc.2.1 (75 + 4 * law + 1) := (a2.2.2 _ (by simp)).trans e1
  have hwd : ∀ i, i < 6 → h1.2.1 (75 + 4 * law + 2) i = wrd (hm.2.1 140) p gap k f side i := fun i hi => by
    unfold wrd
    rcases (show i = 0 ∨ i = 1 ∨ i = 2 ∨ i = 3 ∨ i = 4 ∨ i = 5 by omega) with rfl | rfl | rfl | rfl | rfl | rfl
    · exact w0
    · exact w1
    · exact w2
    · exact w3.trans el.symm
    · exact w4
    · exact w5
  rcases L with ⟨l1, l2⟩ | ⟨l1, l2, frm, many, l3, l4, l5, l6, l7, l8⟩
  · exact .inl ⟨l2, by rw [r0]; exact l1⟩
  · refine .inr ⟨by rw [r0, l1]; decide, ?_⟩
    obtain ⟨h2, b1, b2⟩ := n_holds (o := 75 + 4 * law) (law := law) (frm := frm) (many := many) (A := hm.2.1 140) (h := h1) hlaw (by omega) (by rw [r0]; exact l6) (fun j hj => by rw [r1]; exact l7 j hj) l8 (fun i hi => by
      rcases (show i = 0 ∨ i = 1 ∨ i = 2 ∨ i = 3 ∨ i = 4 ∨ i = 5 by omega) with rfl | rfl | rfl | rfl | rfl | rfl
      · rw [w0]; exact nI_b (by omega)
      · rw [w1]; exact nI_b (by omega)
      · rw [w2]; exact nI_b (by omega)
      · rw [w3]; exact nI_b (by omega)
      · rw [w4]; exact nI_b (by omega)
      · rw [w5]; exact nI_b (by omega))
    refine ⟨h2, ?_, b2⟩
    rw [b1]
    unfold slet
    rw [if_neg (show ¬ hm.2.1 140 (5 + law) = 0 by rw [l2]; decide), l4, l5, nI_clamp (by omega), nI_clamp (by omega)]
    rw [run_w (n := 6 - law) (show nI (1006 - law) = nI (1000 + (6 - law)) by congr 1; omega) (by omega) (fun i hi => hwd i (by omega)) _ _ _ [] l8 trivial]
theorem bit_up {t : Nat} {c : Nat → Bool} (ht : t < 32) (hc : c t = true) : nI (bts t c) ||| ((1 : Int32) <<< (nI t &&& 31)) = nI (bts (t + 1) c) := by
  have e1 : (1 : Int32) <<< nI t = nI (1 <<< t) := nI_shl (a := 1) ht
  rw [nI_msk ht, e1, nI_or, bts, if_pos hc]
theorem bit_no {t : Nat} {c : Nat → Bool} (hc : ¬ c t = true) : bts t c = bts (t + 1) c := by
  rw [bts, if_neg hc, Nat.or_zero]
theorem n_walk {G W i P C p k f : Nat} {hc hm h : am_H} (D : DD G W i P P P C hc hm) (hi : i ≤ 900) (hp : p < 5) (hk : k < 6) (hf : f < 2) (x : am_ex [68, 69, 70, 77, 78, 81, 82] hc h) : ∃ h', f_River_walkable 62 75 (nI p) (nI k) (nI f) h = some (nI (bts (2 * G) (fun s => slet (hm.2.1 140) 0 p (s / 2) k f (s % 2))), h') ∧ am_ex [68, 69, 70, 77, 78, 81, 82] hc h' ∧ am_ex [77, 78] h h' := by
  have hG := D.1.1
  have hC := D.2.2.2.2.1.1
  have hpr := prt16 p hp
  obtain ⟨q1, ld, q2, q3⟩ : hc.2.1 65 p = hm.2.1 140 (11 + p) ∧ ∃ v, v ≤ 99 ∧ hm.2.1 140 (11 + p) = nI v := by
    have := D.2.1 (16 + p) (by omega) (by unfold act; omega)
    rw [hpr.1] at this
    obtain ⟨z1, z2⟩ := this
    refine ⟨z1, ?_⟩
    unfold Qt at z2
    rw [if_neg (by omega), if_neg (by omega), if_neg (by omega), if_neg (by omega), if_neg (by omega), if_neg (by omega), if_neg (by omega), if_pos (by omega)] at z2
    exact z2
  have key := lpc3 (fun m (a1 a2 : Int32) (a3 : am_H) => f_River_walkable_L6 62 75 (nI p) (nI k) (nI f) m a1 a2 a3) (2 * G)
    (fun t a1 a2 a3 => a1 = nI (bts t (fun s => slet (hm.2.1 140) 0 p (s / 2) k f (s % 2))) ∧ a2 = nI t ∧ am_ex [68, 69, 70, 77, 78, 81, 82] hc a3 ∧ am_ex [77, 78] h a3)
    (fun b => b.1 = nI (bts (2 * G) (fun s => slet (hm.2.1 140) 0 p (s / 2) k f (s % 2))) ∧ am_ex [68, 69, 70, 77, 78, 81, 82] hc b.2.2 ∧ am_ex [77, 78] h b.2.2)
    (fun m t a1 a2 a3 ht hI => by
      obtain ⟨rfl, rfl, x3, y3⟩ := hI
      have g0 : a3.2.1 62 0 = nI G := by rw [x3.2.2 62 (by decide)]; exact D.G.1
      have g1 : am_rd (a3.2.1 65) 5 (nI p) = some (nI ld) := (n_rd hp (by decide)).trans (by rw [x3.2.2 65 (by decide), q1, q3])
      have e2 : (2 : Int32) * nI G = nI (2 * G) := nI_mul 2 G
      have e3 : nI t / (2 : Int32) = nI (t / 2) := nI_ld (n := 2) (by omega) (by decide)
      have e4 : nI t - nI t / (2 : Int32) * (2 : Int32) = nI (t % 2) := nI_md2 (by omega)
      rw [f_River_walkable_L6, g0, e2, if_neg (nI_ge ht (by omega)), g1, Option.bind_some, e4, e3]
      obtain ⟨h1, b1, b2, b3⟩ := n_evl (law := 0) (gap := t / 2) (side := t % 2) (k := k) (f := f) (p := p) (ld := ld) (hc := hc) (hm := hm) (h := a3) (by decide) (D.2.2.2.2.2 0 (by decide)) (by omega) (x3.2.2 75 (by decide)) (x3.2.2 76 (by decide)) hp (by omega) hk hf (by omega) q2 q3
      have b1' : f_Law_ask 75 (nI (t / 2)) (nI k) (nI p) (nI ld) (nI f) (nI (t % 2)) a3 = some h1 := b1
      have b2' : am_ex [77] a3 h1 := b2
      have X1 : am_ex [68, 69, 70, 77, 78, 81, 82] hc h1 := x3.tr b2' (fun _ z => z) (by decide)
      have Y1 : am_ex [77, 78] h h1 := y3.tr b2' (fun _ z => z) (by decide)
      rw [b1', Option.bind_some, nI_up]
      rcases b3 with ⟨c1, c2⟩ | ⟨c1, h2, c2, c3⟩
      · have c2' : h1.2.1 75 0 = 0 := c2
        have ct : slet (hm.2.1 140) 0 p (t / 2) k f (t % 2) = true := by
          unfold slet
          rw [if_pos c1]
          rfl
        rw [if_pos c2', bit_up (c := fun s => slet (hm.2.1 140) 0 p (s / 2) k f (s % 2)) (by omega) ct]
        exact ⟨_, _, _, rfl, rfl, rfl, X1, Y1⟩
      · have c1' : ¬ h1.2.1 75 0 = 0 := c1
        have c2' : f_Law_holds 75 h1 = some (slet (hm.2.1 140) 0 p (t / 2) k f (t % 2), h2) := c2
        have c3' : am_ex [78] h1 h2 := c3
        have X2 : am_ex [68, 69, 70, 77, 78, 81, 82] hc h2 := X1.tr c3' (fun _ z => z) (by decide)
        have Y2 : am_ex [77, 78] h h2 := Y1.tr c3' (fun _ z => z) (by decide)
        rw [if_neg c1', c2', Option.bind_some]
        by_cases ct : slet (hm.2.1 140) 0 p (t / 2) k f (t % 2) = true
        · rw [if_pos ct, bit_up (c := fun s => slet (hm.2.1 140) 0 p (s / 2) k f (s % 2)) (by omega) ct]
          exact ⟨_, _, _, rfl, rfl, rfl, X2, Y2⟩
        · rw [if_neg ct, bit_no (c := fun s => slet (hm.2.1 140) 0 p (s / 2) k f (s % 2)) ct]
          exact ⟨_, _, _, rfl, rfl, rfl, X2, Y2⟩)
    (fun m a1 a2 a3 hI => by
      obtain ⟨rfl, rfl, x3, y3⟩ := hI
      have g0 : a3.2.1 62 0 = nI G := by rw [x3.2.2 62 (by decide)]; exact D.G.1
      have e2 : (2 : Int32) * nI G = nI (2 * G) := nI_mul 2 G
      rw [f_River_walkable_L6, g0, e2, if_pos (nI_le (by omega) (by omega))]
      exact ⟨_, rfl, rfl, x3, y3⟩)
    (by unfold am_fu; omega) (nI 0) (nI 0) h ⟨rfl, rfl, x, am_ex.rf⟩
  obtain ⟨b, z1, z2, z3, z4⟩ := key
  have z1' : f_River_walkable_L6 62 75 (nI p) (nI k) (nI f) am_fu 0 0 h = some b := z1
  unfold f_River_walkable
  rw [z1', Option.bind_some, z2]
  exact ⟨_, rfl, z3, z4⟩
theorem n_serv {G W i P C p k f : Nat} {hc hm h : am_H} (D : DD G W i P P P C hc hm) (hi : i ≤ 900) (hp : p < 5) (hk : k < 6) (hf : f < 2) (x : am_ex [68, 69, 70, 77, 78, 81, 82] hc h) : ∃ h', f_River_serving 62 79 (nI p) (nI k) (nI f) h = some (nI (bts G (fun g => slet (hm.2.1 140) 1 p g k f 0)), h') ∧ am_ex [68, 69, 70, 77, 78, 81, 82] hc h' ∧ am_ex [81, 82] h h' := by
  have hG := D.1.1
  have hC := D.2.2.2.2.1.1
  have hpr := prt16 p hp
  obtain ⟨q1, ld, q2, q3⟩ : hc.2.1 65 p = hm.2.1 140 (11 + p) ∧ ∃ v, v ≤ 99 ∧ hm.2.1 140 (11 + p) = nI v := by
    have := D.2.1 (16 + p) (by omega) (by unfold act; omega)
    rw [hpr.1] at this
    obtain ⟨z1, z2⟩ := this
    refine ⟨z1, ?_⟩
    unfold Qt at z2
    rw [if_neg (by omega), if_neg (by omega), if_neg (by omega), if_neg (by omega), if_neg (by omega), if_neg (by omega), if_neg (by omega), if_pos (by omega)] at z2
    exact z2
  have key := lpc3 (fun m (a1 a2 : Int32) (a3 : am_H) => f_River_serving_L6 62 79 (nI p) (nI k) (nI f) m a1 a2 a3) G
    (fun t a1 a2 a3 => a1 = nI (bts t (fun g => slet (hm.2.1 140) 1 p g k f 0)) ∧ a2 = nI t ∧ am_ex [68, 69, 70, 77, 78, 81, 82] hc a3 ∧ am_ex [81, 82] h a3)
    (fun b => b.1 = nI (bts G (fun g => slet (hm.2.1 140) 1 p g k f 0)) ∧ am_ex [68, 69, 70, 77, 78, 81, 82] hc b.2.2 ∧ am_ex [81, 82] h b.2.2)
    (fun m t a1 a2 a3 ht hI => by
      obtain ⟨rfl, rfl, x3, y3⟩ := hI
      have g0 : a3.2.1 62 0 = nI G := by rw [x3.2.2 62 (by decide)]; exact D.G.1
      have g1 : am_rd (a3.2.1 65) 5 (nI p) = some (nI ld) := (n_rd hp (by decide)).trans (by rw [x3.2.2 65 (by decide), q1, q3])
      rw [f_River_serving_L6, g0, if_neg (nI_ge ht (by omega)), g1, Option.bind_some]
      obtain ⟨h1, b1, b2, b3⟩ := n_evl (law := 1) (gap := t) (side := 0) (k := k) (f := f) (p := p) (ld := ld) (hc := hc) (hm := hm) (h := a3) (by decide) (D.2.2.2.2.2 1 (by decide)) (by omega) (x3.2.2 79 (by decide)) (x3.2.2 80 (by decide)) hp (by omega) hk hf (by omega) q2 q3
      have b1' : f_Law_ask 79 (nI t) (nI k) (nI p) (nI ld) (nI f) (0 : Int32) a3 = some h1 := b1
      have b2' : am_ex [81] a3 h1 := b2
      have X1 : am_ex [68, 69, 70, 77, 78, 81, 82] hc h1 := x3.tr b2' (fun _ z => z) (by decide)
      have Y1 : am_ex [81, 82] h h1 := y3.tr b2' (fun _ z => z) (by decide)
      rw [b1', Option.bind_some, nI_up]
      rcases b3 with ⟨c1, c2⟩ | ⟨c1, h2, c2, c3⟩
      · have c2' : h1.2.1 79 0 = 0 := c2
        have ct : slet (hm.2.1 140) 1 p t k f 0 = decide (f = 0) := by
          unfold slet
          rw [if_pos c1]
          simp
        rw [if_pos c2']
        by_cases f0 : f = 0
        · rw [if_pos (show nI f = 0 by rw [f0]; rfl), bit_up (c := fun g => slet (hm.2.1 140) 1 p g k f 0) (by omega) (by rw [ct]; simpa using f0)]
          exact ⟨_, _, _, rfl, rfl, rfl, X1, Y1⟩
        · rw [if_neg (show ¬ nI f = 0 from nI_ne0 (by omega) (by omega)), bit_no (c := fun g => slet (hm.2.1 140) 1 p g k f 0) (by rw [ct]; simpa using f0)]
          exact ⟨_, _, _, rfl, rfl, rfl, X1, Y1⟩
      · have c1' : ¬ h1.2.1 79 0 = 0 := c1
        have c2' : f_Law_holds 79 h1 = some (slet (hm.2.1 140) 1 p t k f 0, h2) := c2
        have c3' : am_ex [82] h1 h2 := c3
        have X2 : am_ex [68, 69, 70, 77, 78, 81, 82] hc h2 := X1.tr c3' (fun _ z => z) (by decide)
        have Y2 : am_ex [81, 82] h h2 := Y1.tr c3' (fun _ z => z) (by decide)
        rw [if_neg c1', c2', Option.bind_some]
        by_cases ct : slet (hm.2.1 140) 1 p t k f 0 = true
        · rw [if_pos ct, bit_up (c := fun g => slet (hm.2.1 140) 1 p g k f 0) (by omega) ct]
          exact ⟨_, _, _, rfl, rfl, rfl, X2, Y2⟩
        · rw [if_neg ct, bit_no (c := fun g => slet (hm.2.1 140) 1 p g k f 0) ct]
          exact ⟨_, _, _, rfl, rfl, rfl, X2, Y2⟩)
    (fun m a1 a2 a3 hI => by
      obtain ⟨rfl, rfl, x3, y3⟩ := hI
      have g0 : a3.2.1 62 0 = nI G := by rw [x3.2.2 62 (by decide)]; exact D.G.1
      rw [f_River_serving_L6, g0, if_pos (nI_le (by omega) (by omega))]
      exact ⟨_, rfl, rfl, x3, y3⟩)
    (by unfold am_fu; omega) (nI 0) (nI 0) h ⟨rfl, rfl, x, am_ex.rf⟩
  obtain ⟨b, z1, z2, z3, z4⟩ := key
  have z1' : f_River_serving_L6 62 79 (nI p) (nI k) (nI f) am_fu 0 0 h = some b := z1
  unfold f_River_serving
  rw [z1', Option.bind_some, z2]
  exact ⟨_, rfl, z3, z4⟩
/-! masks -/
theorem msk_lo {G : Nat} (hG : 2 ≤ G ∧ G ≤ 4) (c : Nat → Bool) : nI (bts (2 * G) c) &&& (((1 : Int32) <<< (((2 : Int32) * (nI G - (1 : Int32))) &&& 31)) - (1 : Int32)) = nI (bts (2 * G) (fun s => c s && decide (s / 2 + 1 < G))) := by
  have key : ∀ m : Nat, (∀ j, j < 8 → m.testBit j = decide (j / 2 + 1 < G)) → bts (2 * G) c &&& m = bts (2 * G) (fun s => c s && decide (s / 2 + 1 < G)) := fun m hm => by
    apply Nat.eq_of_testBit_eq
    intro j
    rw [Nat.testBit_and, bts_t, bts_t]
    by_cases d : j < 2 * G
    · rw [hm j (by omega)]
      simp [d]
    · simp [d]
  rcases (show G = 2 ∨ G = 3 ∨ G = 4 by omega) with rfl | rfl | rfl
  · have e : ((1 : Int32) <<< (((2 : Int32) * (nI 2 - (1 : Int32))) &&& 31)) - (1 : Int32) = nI 3 := by decide
    rw [e, nI_and, key 3 (by decide)]
  · have e : ((1 : Int32) <<< (((2 : Int32) * (nI 3 - (1 : Int32))) &&& 31)) - (1 : Int32) = nI 15 := by decide
    rw [e, nI_and, key 15 (by decide)]
  · have e : ((1 : Int32) <<< (((2 : Int32) * (nI 4 - (1 : Int32))) &&& 31)) - (1 : Int32) = nI 63 := by decide
    rw [e, nI_and, key 63 (by decide)]
theorem msk_hi {G : Nat} (hG : 2 ≤ G ∧ G ≤ 4) (c : Nat → Bool) : nI (bts (2 * G) c) &&& (-4 : Int32) = nI (bts (2 * G) (fun s => c s && decide (2 ≤ s))) := by
  have e : (-4 : Int32) = nI 4294967292 := by decide
  rw [e, nI_and]
  congr 1
  apply Nat.eq_of_testBit_eq
  intro j
  rw [Nat.testBit_and, bts_t, bts_t]
  by_cases d : j < 2 * G
  · have : ∀ j, j < 8 → (4294967292 : Nat).testBit j = decide (2 ≤ j) := by decide
    rw [this j (by omega)]
    simp [d]
  · simp [d]
