-- deps: 73.eval 74.wrd 75.tok 76.next 77.cut 78.prs 79.rec 80.rd 81.unit 82.dd 83.line 84.law 85.read 86.head 87.fill 88.rows
/-! ===== both readers from start to end ===== -/
theorem n_rvClear {h : am_H} : ∃ h', f_River_clear 62 h = some h' ∧ am_ex [62, 63, 65, 66, 67] h h' ∧ (∀ t, t < 31 → act 0 t → h'.2.1 (prt t).1 (prt t).2.1 = cv t) ∧ h'.2.1 62 2 = 0 := by
  unfold f_River_clear
  simp only [am_let]
  generalize hx : am_sI (am_sI (am_sI (am_sI (am_sI (am_sI h 62 0 2) 62 1 1) 62 2 0) 62 3 0) 62 4 0) 62 5 0 = x
  have x1 : am_ex [62] h x := by
    have s : ∀ (h : am_H) j x, am_ex [62] h (am_sI h 62 j x) := fun h j x => am_ex.sI (by simp)
    rw [← hx]
    exact (((((s _ _ _).tr (s _ _ _) (fun _ z => z) (fun _ z => z)).tr (s _ _ _) (fun _ z => z) (fun _ z => z)).tr (s _ _ _) (fun _ z => z) (fun _ z => z)).tr (s _ _ _) (fun _ z => z) (fun _ z => z)).tr (s _ _ _) (fun _ z => z) (fun _ z => z)
  have v0 : x.2.1 62 0 = 2 := by rw [← hx, sI_at (.inr (by decide)), sI_at (.inr (by decide)), sI_at (.inr (by decide)), sI_at (.inr (by decide)), sI_at (.inr (by decide)), sI_me]
  have v1 : x.2.1 62 1 = 1 := by rw [← hx, sI_at (.inr (by decide)), sI_at (.inr (by decide)), sI_at (.inr (by decide)), sI_at (.inr (by decide)), sI_me]
  have v2 : x.2.1 62 2 = 0 := by rw [← hx, sI_at (.inr (by decide)), sI_at (.inr (by decide)), sI_at (.inr (by decide)), sI_me]
  have v3 : x.2.1 62 3 = 0 := by rw [← hx, sI_at (.inr (by decide)), sI_at (.inr (by decide)), sI_me]
  have v4 : x.2.1 62 4 = 0 := by rw [← hx, sI_at (.inr (by decide)), sI_me]
  have v5 : x.2.1 62 5 = 0 := by rw [← hx, sI_me]
  clear hx
  obtain ⟨y1, a1, b1, c1⟩ := n_fillI (h := x) (o := 63) (L := 6) (v := 0) (by decide)
  obtain ⟨y2, a2, b2, c2⟩ := n_fillI (h := y1) (o := 65) (L := 5) (v := 0) (by decide)
  obtain ⟨y3, a3, b3, c3⟩ := n_fillI (h := y2) (o := 66) (L := 5) (v := -1) (by decide)
  obtain ⟨y4, a4, b4, c4⟩ := n_fillI (h := y3) (o := 67) (L := 5) (v := -1) (by decide)
  rw [a1, Option.bind_some, a2, Option.bind_some, a3, Option.bind_some, a4, Option.bind_some]
  have r62 : y4.2.1 62 = x.2.1 62 := by rw [b4.2.2 62 (by decide), b3.2.2 62 (by decide), b2.2.2 62 (by decide), b1.2.2 62 (by decide)]
  have r63 : y4.2.1 63 = y1.2.1 63 := by rw [b4.2.2 63 (by decide), b3.2.2 63 (by decide), b2.2.2 63 (by decide)]
  have r65 : y4.2.1 65 = y2.2.1 65 := by rw [b4.2.2 65 (by decide), b3.2.2 65 (by decide)]
  have r66 : y4.2.1 66 = y3.2.1 66 := by rw [b4.2.2 66 (by decide)]
  refine ⟨y4, rfl, ?_, fun t ht ha => ?_, by rw [r62]; exact v2⟩
  · exact (((x1.tr b1 (Z := [62, 63, 65, 66, 67]) (by decide) (by decide)).tr b2 (fun _ z => z) (by decide)).tr b3 (fun _ z => z) (by decide)).tr b4 (fun _ z => z) (by decide)
  · unfold act at ha
    by_cases t0 : t = 0
    · subst t0; show y4.2.1 62 0 = 2; rw [r62]; exact v0
    · by_cases t1 : t = 1
      · subst t1; show y4.2.1 62 1 = 1; rw [r62]; exact v1
      · by_cases t2 : t = 2
        · subst t2; show y4.2.1 62 3 = 0; rw [r62]; exact v3
        · by_cases t3 : t = 3
          · subst t3; show y4.2.1 62 4 = 0; rw [r62]; exact v4
          · by_cases t4 : t = 4
            · subst t4; show y4.2.1 62 5 = 0; rw [r62]; exact v5
            · by_cases t5 : t < 11
              · obtain ⟨w, rfl⟩ : ∃ w, t = 5 + w := ⟨t - 5, by omega⟩
                rw [prt5 w (by omega)]
                show y4.2.1 63 w = _
                rw [r63, c1 w (by omega)]
                unfold cv
                rw [if_neg t0, if_neg t1, if_pos (by omega)]
              · by_cases t6 : t < 21
                · obtain ⟨w, rfl⟩ : ∃ w, t = 16 + w := ⟨t - 16, by omega⟩
                  rw [(prt16 w (by omega)).1]
                  show y4.2.1 65 w = _
                  rw [r65, c2 w (by omega)]
                  unfold cv
                  rw [if_neg t0, if_neg t1, if_pos (by omega)]
                · by_cases t7 : t < 26
                  · obtain ⟨w, rfl⟩ : ∃ w, t = 21 + w := ⟨t - 21, by omega⟩
                    rw [(prt16 w (by omega)).2.1]
                    show y4.2.1 66 w = _
                    rw [r66, c3 w (by omega)]
                    unfold cv
                    rw [if_neg t0, if_neg t1, if_neg (by omega)]
                  · obtain ⟨w, rfl⟩ : ∃ w, t = 26 + w := ⟨t - 26, by omega⟩
                    rw [(prt16 w (by omega)).2.2.1]
                    show y4.2.1 67 w = _
                    rw [c4 w (by omega)]
                    unfold cv
                    rw [if_neg t0, if_neg t1, if_neg (by omega)]
theorem nt_n {v : Nat} (h : v < 2 ^ 31) : nt (nI v) = v := nI_clamp h
theorem dec_n {v : Nat} (h : v < 2 ^ 31) : dec1 (nI v) = some v := by
  unfold dec1
  rw [if_neg (nI_nm1 h), nI_clamp h]
theorem dec_m : dec1 (-1) = none := by unfold dec1; rw [if_pos rfl]
theorem dec_o {l : Option Nat} (h : ∀ g, l = some g → g < 2 ^ 31) : dec1 (oI l) = l := by
  cases l with
  | none => rw [oI_none]; exact dec_m
  | some g => rw [oI_some]; exact dec_n (h g rfl)
/-- what a row of the reference is worth -/
def PA (A : Nat → Int32) : Prop := vR (rOf A) ∧ mR A (rOf A) ∧ (∃ H, H ≤ 999 ∧ A 26 = nI H) ∧ (∀ a, a = 27 ∨ a = 28 ∨ (40 ≤ a ∧ a ≤ 45) → A a = 0) ∧ (∀ k, k < 6 → ∃ l : Option Nat, (∀ g, l = some g → g < rG (rOf A)) ∧ A (29 + k) = oI l) ∧ (∀ p, p < rP (rOf A) → ∃ s, s < 2 * rG (rOf A) ∧ A (35 + p) = nI s)
def CF (A : Nat → Int32) (h : am_H) : Prop := tR 62 (rOf A) h ∧ h.2.1 62 4 = A 26 ∧ (∀ k, k < 6 → h.2.1 63 k = A (29 + k)) ∧ (∀ p, p < rP (rOf A) → h.2.1 64 p = A (35 + p))
theorem slet_d {A : Nat → Int32} {p g k f d d' : Nat} (w : lwf A 1) : slet A 1 p g k f d = slet A 1 p g k f d' := by
  unfold slet
  rcases w with w | ⟨w, frm, many, w1, w2, w3, w4⟩
  · rw [if_pos w, if_pos w]
  · rw [if_neg (by rw [w]; decide), if_neg (by rw [w]; decide), w1, w2, nI_clamp (by omega), nI_clamp (by omega)]
    rw [run_w (n := 5) (w' := wrd A p g k f d') (show nI (1006 - 1) = nI (1000 + 5) from rfl) (by omega) (fun i hi => ?_) _ _ _ [] w4 trivial]
    unfold wrd
    rcases (show i = 0 ∨ i = 1 ∨ i = 2 ∨ i = 3 ∨ i = 4 by omega) with rfl | rfl | rfl | rfl | rfl <;> rfl
theorem DD.fin {G W i P C : Nat} {hc hm hc' : am_H} (D : DD G W i P P P C hc hm) (T : TB (hm.2.1 140)) (hi : i ≤ 900) (hP : P ≤ 5) (x : am_ex [68, 69, 70, 77, 78, 81, 82] hc hc') (hr : ∀ p k f, p < P → k < W → f < 2 → hc'.2.1 68 (12 * p + 2 * k + f) = nI (gU (rOf (hm.2.1 140)) p k f) ∧ hc'.2.1 69 (12 * p + 2 * k + f) = nI (gD (rOf (hm.2.1 140)) p k f) ∧ hc'.2.1 70 (12 * p + 2 * k + f) = nI (gS (rOf (hm.2.1 140)) p k f)) : CF (hm.2.1 140) hc' ∧ PA (hm.2.1 140) := by
  obtain ⟨⟨hG, hW⟩, d2, d3, d4, d5, d6⟩ := id D
  have eG := D.G
  have eW := D.W
  have rG' : rG (rOf (hm.2.1 140)) = G := by show nt (hm.2.1 140 1) = G; rw [eG.2]; exact nt_n (by omega)
  have rW' : rW (rOf (hm.2.1 140)) = W := by show nt (hm.2.1 140 2) = W; rw [eW.2]; exact nt_n (by omega)
  have rP' : rP (rOf (hm.2.1 140)) = P := by show nt (hm.2.1 140 3) = P; rw [d4.2]; exact nt_n (by omega)
  obtain ⟨f1, F, f2, f3⟩ : hc.2.1 62 3 = hm.2.1 140 4 ∧ ∃ v, v ≤ 10 ∧ hm.2.1 140 4 = nI v := d2 2 (by decide) (by unfold act; omega)
  obtain ⟨h1, H, h2, h3⟩ : hc.2.1 62 4 = hm.2.1 140 26 ∧ ∃ v, v ≤ 999 ∧ hm.2.1 140 26 = nI v := d2 3 (by decide) (by unfold act; omega)
  obtain ⟨l1, Ln, l2, l3⟩ : hc.2.1 62 5 = hm.2.1 140 0 ∧ ∃ v, v ≤ i ∧ hm.2.1 140 0 = nI v := d2 4 (by decide) (by unfold act; omega)
  have rF' : rF (rOf (hm.2.1 140)) = F := by show nt (hm.2.1 140 4) = F; rw [f3]; exact nt_n (by omega)
  have rL' : rL (rOf (hm.2.1 140)) = Ln := by show nt (hm.2.1 140 0) = Ln; rw [l3]; exact nt_n (by omega)
  have wk : ∀ k, k < 6 → hc.2.1 63 k = hm.2.1 140 (29 + k) ∧ ∃ l : Option Nat, (∀ g, l = some g → g < G) ∧ hm.2.1 140 (29 + k) = oI l := fun k hk => by
    have := d2 (5 + k) (by omega) (by unfold act; omega)
    rw [prt5 k hk] at this
    refine ⟨this.1, ?_⟩
    have q := this.2
    unfold Qt at q
    rw [if_neg (by omega), if_neg (by omega), if_neg (by omega), if_neg (by omega), if_neg (by omega), if_pos (by omega)] at q
    exact q
  have st : ∀ p, p < P → hc.2.1 64 p = hm.2.1 140 (35 + p) ∧ ∃ s, s < 2 * G ∧ hm.2.1 140 (35 + p) = nI s := fun p hp => by
    have := d2 (11 + p) (by omega) (by unfold act; omega)
    rw [(prt16 p (by omega)).2.2.2] at this
    refine ⟨this.1, ?_⟩
    have q := this.2
    unfold Qt at q
    rw [if_neg (by omega), if_neg (by omega), if_neg (by omega), if_neg (by omega), if_neg (by omega), if_neg (by omega), if_pos (by omega)] at q
    exact q
  have ld : ∀ p, p < 5 → hc.2.1 65 p = hm.2.1 140 (11 + p) ∧ ∃ v, v ≤ 99 ∧ hm.2.1 140 (11 + p) = nI v := fun p hp => by
    have := d2 (16 + p) (by omega) (by unfold act; omega)
    rw [(prt16 p (by omega)).1] at this
    refine ⟨this.1, ?_⟩
    have q := this.2
    unfold Qt at q
    rw [if_neg (by omega), if_neg (by omega), if_neg (by omega), if_neg (by omega), if_neg (by omega), if_neg (by omega), if_neg (by omega), if_pos (by omega)] at q
    exact q
  have to : ∀ p, p < 5 → hc.2.1 66 p = hm.2.1 140 (16 + p) ∧ (hm.2.1 140 (16 + p) = -1 ∨ ∃ g, g < 2 * G ∧ hm.2.1 140 (16 + p) = nI g) := fun p hp => by
    have := d2 (21 + p) (by omega) (by unfold act; omega)
    rw [(prt16 p (by omega)).2.1] at this
    refine ⟨this.1, ?_⟩
    have q := this.2
    unfold Qt at q
    rw [if_neg (by omega), if_neg (by omega), if_neg (by omega), if_neg (by omega), if_neg (by omega), if_neg (by omega), if_neg (by omega), if_neg (by omega), if_pos (by omega)] at q
    exact q
  have by' : ∀ p, p < 5 → hc.2.1 67 p = hm.2.1 140 (21 + p) ∧ (hm.2.1 140 (21 + p) = -1 ∨ ∃ g, g ≤ 999 ∧ hm.2.1 140 (21 + p) = nI g) := fun p hp => by
    have := d2 (26 + p) (by omega) (by unfold act; omega)
    rw [(prt16 p (by omega)).2.2.1] at this
    refine ⟨this.1, ?_⟩
    have q := this.2
    unfold Qt at q
    rw [if_neg (by omega), if_neg (by omega), if_neg (by omega), if_neg (by omega), if_neg (by omega), if_neg (by omega), if_neg (by omega), if_neg (by omega), if_neg (by omega)] at q
    exact q
  have eld : ∀ p, p < 5 → hm.2.1 140 (11 + p) = nI (rLoad (rOf (hm.2.1 140)) p) ∧ rLoad (rOf (hm.2.1 140)) p ≤ 99 := fun p hp => by
    obtain ⟨_, v, q1, q2⟩ := ld p hp
    have e : rLoad (rOf (hm.2.1 140)) p = v := by show nt (hm.2.1 140 (11 + p)) = v; rw [q2]; exact nt_n (by omega)
    rw [e]
    exact ⟨q2, q1⟩
  have eto : ∀ p, p < 5 → hm.2.1 140 (16 + p) = oI (rTo (rOf (hm.2.1 140)) p) ∧ ∀ g, rTo (rOf (hm.2.1 140)) p = some g → g < 2 * G ∧ ¬ hm.2.1 140 (16 + p) = -1 := fun p hp => by
    rcases (to p hp).2 with q | ⟨g, q1, q2⟩
    · have e : rTo (rOf (hm.2.1 140)) p = none := by show dec1 (hm.2.1 140 (16 + p)) = none; rw [q]; exact dec_m
      rw [e, q]
      exact ⟨oI_none.symm, fun g w => by cases w⟩
    · have e : rTo (rOf (hm.2.1 140)) p = some g := by show dec1 (hm.2.1 140 (16 + p)) = some g; rw [q2]; exact dec_n (by omega)
      rw [e, q2]
      exact ⟨(oI_some g).symm, fun g' w => by cases w; exact ⟨q1, nI_nm1 (by omega)⟩⟩
  have eby : ∀ p, p < 5 → hm.2.1 140 (21 + p) = oI (rBy (rOf (hm.2.1 140)) p) ∧ (∀ b, rBy (rOf (hm.2.1 140)) p = some b → b ≤ 999) ∧ ∀ b, b ≤ 999 → hm.2.1 140 (21 + p) = nI b → rBy (rOf (hm.2.1 140)) p = some b := fun p hp => by
    refine ⟨?_, ?_, fun b hb e => by show dec1 (hm.2.1 140 (21 + p)) = some b; rw [e]; exact dec_n (by omega)⟩
    · rcases (by' p hp).2 with q | ⟨g, q1, q2⟩
      · have e : rBy (rOf (hm.2.1 140)) p = none := by show dec1 (hm.2.1 140 (21 + p)) = none; rw [q]; exact dec_m
        rw [e, q]
        exact oI_none.symm
      · have e : rBy (rOf (hm.2.1 140)) p = some g := by show dec1 (hm.2.1 140 (21 + p)) = some g; rw [q2]; exact dec_n (by omega)
        rw [e, q2]
        exact (oI_some g).symm
    · intro b hb
      rcases (by' p hp).2 with q | ⟨g, q1, q2⟩
      · have e : rBy (rOf (hm.2.1 140)) p = none := by show dec1 (hm.2.1 140 (21 + p)) = none; rw [q]; exact dec_m
        rw [e] at hb
        cases hb
      · have e : rBy (rOf (hm.2.1 140)) p = some g := by show dec1 (hm.2.1 140 (21 + p)) = some g; rw [q2]; exact dec_n (by omega)
        rw [e] at hb
        cases hb
        exact q1
  have lw : ∀ law, law < 2 → lwf (hm.2.1 140) law := fun law hl => by
    rcases d6 law hl with ⟨_, q⟩ | ⟨_, q1, frm, many, q2, q3, q4, _, _, q5⟩
    · exact .inl q
    · exact .inr ⟨q1, frm, many, q3, q4, by have := d5.1; omega, q5⟩
  have rr : ∀ a, a < 68 → hc'.2.1 a = hc.2.1 a := fun a ha => x.2.2 a (by simp; omega)
  refine ⟨⟨⟨?_, ?_, ?_, ?_, ?_, fun p hp => ?_, fun p k f hp hk hf => ?_⟩, ?_, fun k hk => ?_, fun p hp => ?_⟩, ⟨⟨by rw [rG']; exact hG, by rw [rW']; exact hW, by rw [rP']; exact hP, by rw [rF']; exact f2, by rw [rL']; omega, fun p hp => ?_⟩, ⟨?_, ?_, ?_, ?_, ?_, fun p hp => ?_, ⟨lw 0 (by decide), lw 1 (by decide)⟩, fun p s k f _ _ _ _ => rfl, fun p g k f d _ _ _ _ => slet_d (lw 1 (by decide))⟩, ⟨H, h2, h3⟩, d3, fun k hk => ?_, fun p hp => ?_⟩⟩
  · rw [rr 62 (by omega), rG']; exact eG.1
  · rw [rr 62 (by omega), rW']; exact eW.1
  · rw [rr 62 (by omega), rP']; exact d4.1
  · rw [rr 62 (by omega), rF', f1]; exact f3
  · rw [rr 62 (by omega), rL', l1]; exact l3
  · rw [rP'] at hp
    show hc'.2.1 65 p = _ ∧ hc'.2.1 66 p = _ ∧ hc'.2.1 67 p = _
    rw [rr 65 (by omega), rr 66 (by omega), rr 67 (by omega), (ld p (by omega)).1, (to p (by omega)).1, (by' p (by omega)).1]
    exact ⟨(eld p (by omega)).1, (eto p (by omega)).1, (eby p (by omega)).1⟩
  · rw [rP'] at hp
    rw [rW'] at hk
    exact hr p k f hp hk hf
  · rw [rr 62 (by omega)]; exact h1
  · rw [rr 63 (by omega)]; exact (wk k hk).1
  · rw [rP'] at hp
    rw [rr 64 (by omega)]; exact (st p hp).1
  · rw [rP'] at hp
    refine ⟨(eld p (by omega)).2, fun g hg => ?_, (eby p (by omega)).2.1⟩
    have q := (eto p (by omega)).2 g hg
    rw [rG']
    refine ⟨q.1, ?_⟩
    rcases T p (by omega) with z | ⟨b, z1, z2⟩
    · exact absurd z q.2
    · exact ⟨b, (eby p (by omega)).2.2 b z1 z2, z1⟩
  · rw [rL']; exact l3
  · rw [rG']; exact eG.2
  · rw [rW']; exact eW.2
  · rw [rP']; exact d4.2
  · rw [rF']; exact f3
  · rw [rP'] at hp
    exact ⟨(eld p (by omega)).1, (eto p (by omega)).1, (eby p (by omega)).1⟩
  · rw [rG']; exact (wk k hk).2
  · rw [rP'] at hp
    rw [rG']; exact (st p hp).2
def mChain (p1 : Int32) (hm : am_H) : Option am_H := (f_Mod_next hm).bind fun q9 => (mHead q9).bind fun q22 => f_Mod_river_L108 p1 am_fu q22
theorem both {B : Nat → Nat} {n : Nat} {hs hm : am_H} (hn : n ≤ 900) (T : tp B n hs) (Tm : tpm B n hm) (m7 : hm.2.1 136 7 = nI 0) (m11 : hm.2.1 136 11 = 0) (m140 : ∀ j, j < 1137 → hm.2.1 140 j = am_pl (fun _ => 0) j) : ∃ k hc' hm', f_Reader_read 60 900 (nI n) hs = some (k, hc') ∧ mChain (nI n) hm = some hm' ∧ fA hs hc' ∧ fB hm hm' ∧ ((k = hc'.2.1 61 1 ∧ Jf hc' hm') ∨ (k = 0 ∧ hc'.2.1 61 1 = 0 ∧ hc'.2.1 61 2 = -1 ∧ hm'.2.1 136 11 = 0 ∧ CF (hm'.2.1 140) hc' ∧ PA (hm'.2.1 140))) := by
  unfold f_Reader_read mChain
  simp only [am_let]
  generalize hx : am_sI (am_sI (am_sI hs 61 1 0) 61 2 (-1)) 61 3 0 = x
  have s61 : ∀ (h : am_H) j x, am_ex [61] h (am_sI h 61 j x) := fun h j x => am_ex.sI (by simp)
  have x0 : am_ex [61] hs x := by
    rw [← hx]
    exact ((s61 _ _ _).tr (s61 _ _ _) (fun _ z => z) (fun _ z => z)).tr (s61 _ _ _) (fun _ z => z) (fun _ z => z)
  have x1 : x.2.1 61 1 = 0 := by rw [← hx, sI_at (.inr (by decide)), sI_at (.inr (by decide)), sI_me]
  have x2 : x.2.1 61 2 = -1 := by rw [← hx, sI_at (.inr (by decide)), sI_me]
  have x3 : x.2.1 61 3 = nI 0 := by rw [← hx, sI_me]; rfl
  clear hx
  obtain ⟨q4, M, a1, a2, a3, tk⟩ := n_cut (B := B) (n := n) (h := x) (fun i hi => by rw [x0.2.2 60 (by decide)]; exact T i hi) hn
  obtain ⟨q5, b1, b2, b3, b4⟩ := n_rvClear (h := q4)
  rw [a1, Option.bind_some, b1, Option.bind_some]
  have c75 : ∀ h : am_H, f_Law_clear 75 h = some (am_sI (am_sI h 75 0 0) 75 1 0) := fun h => rfl
  have c79 : ∀ h : am_H, f_Law_clear 79 h = some (am_sI (am_sI h 79 0 0) 79 1 0) := fun h => rfl
  rw [c75, Option.bind_some, c79, Option.bind_some]
  obtain ⟨q7, hq7⟩ : ∃ q, q = am_sI (am_sI (am_sI (am_sI q5 75 0 0) 75 1 0) 79 0 0) 79 1 0 := ⟨_, rfl⟩
  rw [← hq7]
  have y0 : am_ex [75, 79] q5 q7 := by
    rw [hq7]
    exact (((am_ex.sI (X := [75, 79]) (by decide)).tr (am_ex.sI (X := [75, 79]) (by decide)) (fun _ z => z) (fun _ z => z)).tr (am_ex.sI (X := [75, 79]) (by decide)) (fun _ z => z) (fun _ z => z)).tr (am_ex.sI (X := [75, 79]) (by decide)) (fun _ z => z) (fun _ z => z)
  have l0 : q7.2.1 75 0 = 0 := by rw [hq7, sI_at (.inl (by decide)), sI_at (.inl (by decide)), sI_at (.inr (by decide)), sI_me]
  have l1 : q7.2.1 79 0 = 0 := by rw [hq7, sI_at (.inr (by decide)), sI_me]
  clear hq7
  have r61 : q7.2.1 61 = x.2.1 61 := by rw [y0.2.2 61 (by decide), b2.2.2 61 (by decide), a2.2.2 61 (by decide)]
  have F0 : fA hs q7 := (((fA.x1 x0).tr (a2.fA (by decide))).tr (b2.fA (by decide))).tr (y0.fA (by decide))
  have tk7 : tks B n M q7 := (a3.ex b2 (by decide)).ex y0 (by decide)
  obtain ⟨hm1, n1, n2, n3, n4, n5, n6⟩ := n_next Tm hn (Nat.zero_le n) m7
  have J0 : Jo B n M 0 q7 hm1 := ⟨Nat.zero_le _, ⟨tk7, by rw [r61]; exact x1, by rw [r61]; exact x2, by rw [r61]; exact x3⟩, n2.tp Tm, by rw [n2.2 11 (by decide) (by decide) (by decide) (by decide)]; exact m11, n3, n4, n5, n6⟩
  have r140 : hm1.2.1 140 = hm.2.1 140 := n2.1.2.2 140 (by decide)
  obtain ⟨D0, T0, z0⟩ := dd0 (hc := q7) (hm := hm1) (fun t ht ha => by
    have := (prt_r t ht).1
    rw [y0.2.2 _ (by simp; omega)]
    exact b3 t ht ha) (fun j hj => by rw [r140]; exact m140 j hj) (by rw [y0.2.2 62 (by decide)]; exact b4) l0 l1
  obtain ⟨q8, hm2, h1, h2, h3, h4, h5⟩ := hd_ok tk J0 D0 T0 z0
  rw [n1, Option.bind_some, h1, h2, Option.bind_some, Option.bind_some]
  have G0 : fB hm hm2 := n2.to8.fB.tr h4
  rcases h5 with f | ⟨i, G, W, i1, j, D, TT⟩
  · have e1 : f_Reader_read_L51 60 900 (nI n) am_fu 0 q8 = some (0, q8) := (allF f 4999 (nI n) (nI n) 0).1
    have e2 : f_Mod_river_L108 (nI n) am_fu hm2 = some hm2 := (allF f 4999 (nI n) (nI n) 0).2
    rw [e1, e2, Option.bind_some, if_neg f.ne']
    exact ⟨_, _, _, rfl, rfl, F0.tr h3, G0, .inl ⟨rfl, f⟩⟩
  · have hM := M_le tk
    have hiM := j.1
    obtain ⟨w, q9, hm3, g1, g2, g3, g4, g5⟩ := allL (p2 := nI n) (p1 := nI n) tk (M - i + 1) i 0 am_fu am_fu 0 0 q8 hm2 (by omega) (by unfold am_fu; omega) (by unfold am_fu; omega) (by omega) (by omega) j D TT
    have g1' : f_Reader_read_L51 60 900 (nI n) am_fu 0 q8 = some (w, q9) := g1
    rw [g1', g2, Option.bind_some]
    rcases g5 with f | ⟨i', P, C, p1, p2, p3, p4, p5⟩
    · rw [if_neg f.ne']
      exact ⟨_, _, _, rfl, rfl, (F0.tr h3).tr g3, G0.tr g4, .inl ⟨rfl, f⟩⟩
    · have hi' := p3.1
      obtain ⟨q10, k1, k2, k3⟩ := n_fill p4 (by omega) p2
      have r := k2.2.2 61 (by decide)
      rw [if_pos p3.2.1.2.1, k1, Option.bind_some]
      obtain ⟨cf, pa⟩ := p4.fin p5 (by omega) p2 k2 k3
      exact ⟨_, _, _, rfl, rfl, ((F0.tr h3).tr g3).tr (k2.fA (by decide)), G0.tr g4, .inr ⟨by rw [r]; exact p3.2.1.2.1, by rw [r]; exact p3.2.1.2.1, by rw [r]; exact p3.2.1.2.2.1, p3.2.2.2.1, cf, pa⟩⟩
