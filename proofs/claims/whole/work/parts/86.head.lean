-- deps: 73.eval 74.wrd 75.tok 76.next 77.cut 78.prs 79.rec 80.rd 81.unit 82.dd 83.line 84.law 85.read
/-! ===== the head ===== -/
theorem xpcV {B : Nat → Nat} {n M b : Nat} {hc hm : am_H} (tk : tkM B n M) (u : U B n M b hc hm) {k : Nat} (hk : k ∈ kds) (h0 : k ≠ 0) (h1 : k ≠ 1) : ∃ hc' hm', f_Reader_expect (nI k) hc = some hc' ∧ eof (nI (rk k)) hm = some hm' ∧ am_ex [61] hc hc' ∧ nw8 hm hm' ∧ U B n M (b + 1) hc' hm' ∧ (Jf hc hm → Jf hc' hm') := by
  obtain ⟨hc', hm', a1, a2, a3, a4, a5⟩ := xpcU tk u hk h0 h1
  refine ⟨hc', hm', a1, a2, a3, a4, a5, fun f => ?_⟩
  have hl := rk_lt k hk
  have e1 : hc = hc' := Option.some.inj ((cF_expect f (k := k) (by omega)).symm.trans a1)
  have e2 : hm = hm' := Option.some.inj ((mF_eof f _).symm.trans a2)
  rw [← e1, ← e2]
  exact f
theorem numV {B : Nat → Nat} {n M b : Nat} {hc hm : am_H} (tk : tkM B n M) (u : U B n M b hc hm) {lo hi : Nat} (hh : hi < 2 ^ 30) (hl : lo ≤ hi) : ∃ w y hc' hm', f_Reader_readNumber (nI lo) (nI hi) hc = some (nI w, hc') ∧ f_Mod_takes (nI lo) (nI hi) hm = some (y, hm') ∧ lo ≤ w ∧ w ≤ hi ∧ am_ex [61] hc hc' ∧ nw8 hm hm' ∧ U B n M (b + 1) hc' hm' ∧ (¬ Jf hc' hm' → y = nI w) ∧ (Jf hc hm → Jf hc' hm') := by
  obtain ⟨w, y, hc', hm', a1, a2, a3, a4, a5, a6, a7⟩ := numU tk u hh hl
  refine ⟨w, y, hc', hm', a1, a2, a3, a4, a5, a6, ?_, fun nf => ?_, fun f => ?_⟩
  · rcases a7 with f | ⟨i, g1, g2, _⟩
    · exact .inl f
    · exact .inr ⟨i, g1, g2⟩
  · rcases a7 with f | ⟨i, g1, g2, g3⟩
    · exact absurd f nf
    · exact g3
  · have e1 : hc = hc' := (Prod.mk.inj (Option.some.inj ((cF_num f _ _).symm.trans a1))).2
    have e2 : hm = hm' := (Prod.mk.inj (Option.some.inj ((mF_num f _ _).symm.trans a2))).2
    rw [← e1, ← e2]
    exact f
theorem U.wm {B : Nat → Nat} {n M b j : Nat} {hc hm : am_H} {x : Int32} (u : U B n M b hc hm) : U B n M b hc (am_sI hm 140 j x) := by
  rcases u with f | ⟨i, hi, j⟩
  · exact .inl f.wm
  · exact .inr ⟨i, hi, j.wm⟩
theorem Jf.bk {o j j' : Nat} {hc hm : am_H} {x y : Int32} (ho : o ≠ 61) (J : Jf hc hm) : Jf (am_sI hc o j x) (am_sI hm 140 j' y) := (J.wc ho).wm
theorem Qt.g {G W W' i t : Nat} {x : Int32} (h : Qt 2 W i t x) (hG : 2 ≤ G) (h0 : t ≠ 0) (h1 : t ≠ 1) : Qt G W' i t x := by
  unfold Qt at h ⊢
  rw [if_neg h0, if_neg h1] at h ⊢
  by_cases c2 : t = 2
  · rw [if_pos c2] at h ⊢; exact h
  · rw [if_neg c2] at h ⊢
    by_cases c3 : t = 3
    · rw [if_pos c3] at h ⊢; exact h
    · rw [if_neg c3] at h ⊢
      by_cases c4 : t = 4
      · rw [if_pos c4] at h ⊢; exact h
      · rw [if_neg c4] at h ⊢
        by_cases c5 : t < 11
        · rw [if_pos c5] at h ⊢
          obtain ⟨l, q1, q2⟩ := h
          exact ⟨l, fun g hg => Nat.lt_of_lt_of_le (q1 g hg) hG, q2⟩
        · rw [if_neg c5] at h ⊢
          by_cases c6 : t < 16
          · rw [if_pos c6] at h ⊢
            obtain ⟨l, q1, q2⟩ := h
            exact ⟨l, by omega, q2⟩
          · rw [if_neg c6] at h ⊢
            by_cases c7 : t < 21
            · rw [if_pos c7] at h ⊢; exact h
            · rw [if_neg c7] at h ⊢
              by_cases c8 : t < 26
              · rw [if_pos c8] at h ⊢
                rcases h with q | ⟨g, q1, q2⟩
                · exact .inl q
                · exact .inr ⟨g, by omega, q2⟩
              · rw [if_neg c8] at h ⊢; exact h
theorem DD.gw {G W i Pc Pm Ps C : Nat} {hc hm hc' hm' : am_H} (D : DD 2 1 i Pc Pm Ps C hc hm) (hG : 2 ≤ G ∧ G ≤ 4) (hW : 1 ≤ W ∧ W ≤ 6) (c0 : hc'.2.1 62 0 = nI G) (c1 : hc'.2.1 62 1 = nI W) (m0 : hm'.2.1 140 1 = nI G) (m1 : hm'.2.1 140 2 = nI W) (cr : ∀ a j, (62 ≤ a ∧ a ≤ 67) ∨ (75 ≤ a ∧ a ≤ 80) → ¬ (a = 62 ∧ j < 2) → hc'.2.1 a j = hc.2.1 a j) (mr : ∀ j, j ≠ 1 → j ≠ 2 → hm'.2.1 140 j = hm.2.1 140 j) : DD G W i Pc Pm Ps C hc' hm' := by
  obtain ⟨d1, d2, d3, d4, d5, d6⟩ := D
  refine ⟨⟨hG, hW⟩, fun t ht ha => ?_, fun a ha => ?_, ⟨?_, ?_⟩, ⟨d5.1, ?_⟩, fun law hlaw => (d6 law hlaw).cg hlaw (Nat.le_refl _) (cr _ _ (by omega) (by omega)) (cr _ _ (by omega) (by omega)) (funext fun j => cr _ _ (by omega) (by omega)) (fun j hj => mr _ (by omega) (by omega)) (fun j hj => mr _ (by omega) (by omega))⟩
  · by_cases t0 : t = 0
    · subst t0
      have e : hm'.2.1 140 (prt 0).2.2 = nI G := m0
      rw [e]
      exact ⟨c0, rfl⟩
    · by_cases t1 : t = 1
      · subst t1
        have e : hm'.2.1 140 (prt 1).2.2 = nI W := m1
        rw [e]
        exact ⟨c1, rfl⟩
      · have p0 := prt_inj ht (show 0 < 31 by decide) t0
        have p1 := prt_inj ht (show 1 < 31 by decide) t1
        have pr := (prt_r t ht).1
        have q0 : (prt t).1 ≠ 62 ∨ (prt t).2.1 ≠ 0 := p0.1
        have q1 : (prt t).1 ≠ 62 ∨ (prt t).2.1 ≠ 1 := p1.1
        have z0 : (prt t).2.2 ≠ 1 := p0.2
        have z1 : (prt t).2.2 ≠ 2 := p1.2
        rw [cr _ _ (by omega) (by omega), mr _ z0 z1]
        exact ⟨(d2 t ht ha).1, (d2 t ht ha).2.g hG.1 t0 t1⟩
  · rw [mr _ (by omega) (by omega)]
    exact d3 a ha
  · rw [cr _ _ (by omega) (by omega)]
    exact d4.1
  · rw [mr _ (by omega) (by omega)]
    exact d4.2
  · rw [mr _ (by omega) (by omega)]
    exact d5.2
def mHead (hm : am_H) : Option am_H := (eof (0 : Int32) hm).bind fun m13 =>
    (f_Mod_takes (2 : Int32) (4 : Int32) m13).bind fun q14 =>
    (am_wr q14.2 140 1137 (1 : Int32) q14.1).bind fun h15 =>
    (eof (1 : Int32) h15).bind fun m19 =>
    (f_Mod_takes (1 : Int32) (6 : Int32) m19).bind fun q20 =>
    (am_wr q20.2 140 1137 (2 : Int32) q20.1).bind fun h21 =>
    f_Mod_ends h21
theorem hd_ok {B : Nat → Nat} {n M : Nat} {hc hm : am_H} (tk : tkM B n M) (J : Jo B n M 0 hc hm) (D : DD 2 1 0 0 0 0 0 hc hm) (T : TB (hm.2.1 140)) (h0 : hm.2.1 140 0 = 0) : ∃ hc' hm', f_Reader_readHead hc = some hc' ∧ mHead hm = some hm' ∧ fA hc hc' ∧ fB hm hm' ∧ (Jf hc' hm' ∨ ∃ i G W, 1 ≤ i ∧ Jo B n M i hc' hm' ∧ DD G W i 0 0 0 0 hc' hm' ∧ TB (hm'.2.1 140)) := by
  obtain ⟨hc1, hm1, a1, a2, a3, a4, a5, a6⟩ := xpcV tk (.inr ⟨0, Nat.le_refl _, J⟩) (k := 101) (by decide) (by decide) (by decide)
  have a1' : f_Reader_expect (101 : Int32) hc = some hc1 := a1
  have a2' : eof (0 : Int32) hm = some hm1 := a2
  obtain ⟨w, y, hc2, hm2, b1, b2, b3, b4, b5, b6, b7, b8, b9⟩ := numV tk a5 (lo := 2) (hi := 4) (by decide) (by decide)
  have b1' : f_Reader_readNumber (2 : Int32) (4 : Int32) hc1 = some (nI w, hc2) := b1
  have b2' : f_Mod_takes (2 : Int32) (4 : Int32) hm1 = some (y, hm2) := b2
  have w1 : ∀ h x, am_wr h 140 1137 (1 : Int32) x = some (am_sI h 140 1 x) := fun h x => n_wr (i := 1) (by decide) (by decide)
  have w2 : ∀ h x, am_wr h 140 1137 (2 : Int32) x = some (am_sI h 140 2 x) := fun h x => n_wr (i := 2) (by decide) (by decide)
  obtain ⟨hc4, hm4, c1, c2, c3, c4, c5, c6⟩ := xpcV tk ((b7.wc (o := 62) (j := 0) (x := nI w) (by decide)).wm (j := 1) (x := y)) (k := 102) (by decide) (by decide) (by decide)
  have c1' : f_Reader_expect (102 : Int32) (am_sI hc2 62 0 (nI w)) = some hc4 := c1
  have c2' : eof (1 : Int32) (am_sI hm2 140 1 y) = some hm4 := c2
  obtain ⟨v, z, hc5, hm5, e1, e2, e3, e4, e5, e6, e7, e8, e9⟩ := numV tk c5 (lo := 1) (hi := 6) (by decide) (by decide)
  have e1' : f_Reader_readNumber (1 : Int32) (6 : Int32) hc4 = some (nI v, hc5) := e1
  have e2' : f_Mod_takes (1 : Int32) (6 : Int32) hm4 = some (z, hm5) := e2
  obtain ⟨hc7, hm7, g1, g2, g3, g4, g5, g6⟩ := xpcV tk ((e7.wc (o := 62) (j := 1) (x := nI v) (by decide)).wm (j := 2) (x := z)) (k := 59) (by decide) (by decide) (by decide)
  have g1' : f_Reader_expect (59 : Int32) (am_sI hc5 62 1 (nI v)) = some hc7 := g1
  have g2' : eof (30 : Int32) (am_sI hm5 140 2 z) = some hm7 := g2
  have X := (((((fA.x1 a3).tr (fA.x1 b5)).tr (fA.sI (h := hc2) (o := 62) (j := 0) (x := nI w) (by decide))).tr (fA.x1 c3)).tr (fA.x1 e5)).tr ((fA.sI (h := hc5) (o := 62) (j := 1) (x := nI v) (by decide)).tr ((fA.x1 g3).tr (fA.sI (h := hc7) (o := 62) (j := 5) (x := 1) (by decide))))
  have Y := (((((a4.fB).tr (b6.fB)).tr (fB.s140 (h := hm2) (j := 1) (x := y))).tr (c4.fB)).tr (e6.fB)).tr ((fB.s140 (h := hm5) (j := 2) (x := z)).tr (g4.fB.tr (fB.s140 (h := hm7) (j := 0) (x := hm7.2.1 140 0 + (1 : Int32)))))
  unfold f_Reader_readHead mHead f_Mod_ends
  simp only [am_let]
  rw [a1', Option.bind_some, b1', Option.bind_some, c1', Option.bind_some, e1', Option.bind_some, g1', Option.bind_some, a2', Option.bind_some, b2', Option.bind_some, w1, Option.bind_some, c2', Option.bind_some, e2', Option.bind_some, w2, Option.bind_some, eof_b, g2', Option.bind_some, r0m, Option.bind_some, w0m, Option.bind_some]
  refine ⟨_, _, rfl, rfl, X, Y, ?_⟩
  rcases g5 with f | ⟨i, hi, j⟩
  · exact .inl (f.bk (by decide))
  · right
    have nf : ¬ Jf hc7 hm7 := fun f => f.ne j.2.2.2.1
    have nf5 : ¬ Jf hc5 hm5 := fun f => nf (g6 (f.bk (by decide)))
    have nf2 : ¬ Jf hc2 hm2 := fun f => nf5 (e9 (c6 (f.bk (by decide))))
    obtain rfl := e8 nf5
    obtain rfl := b8 nf2
    have r7 : hm7.2.1 140 = va_up (va_up (hm.2.1 140) 1 (nI w)) 2 (nI v) := by
      rw [g4.row (by decide), sI_row, if_pos rfl, e6.row (by decide), c4.row (by decide), sI_row, if_pos rfl, b6.row (by decide), a4.row (by decide)]
    have q7 : hm7.2.1 140 0 + (1 : Int32) = nI (0 + 1) := by
      rw [r7, up_n (by decide), up_n (by decide), h0]
      rfl
    have c7 : ∀ a, a ≠ 61 → hc7.2.1 a = if a = 62 then va_up (va_up (hc.2.1 62) 0 (nI w)) 1 (nI v) else hc.2.1 a := fun a ha => by
      have z : ∀ {h h' : am_H}, am_ex [61] h h' → h'.2.1 a = h.2.1 a := fun q => q.2.2 a (by simpa using ha)
      rw [z g3, sI_row]
      by_cases c : a = 62
      · subst c
        rw [if_pos rfl, if_pos rfl, e5.2.2 62 (by decide), c3.2.2 62 (by decide), sI_row, if_pos rfl, b5.2.2 62 (by decide), a3.2.2 62 (by decide)]
      · rw [if_neg c, if_neg c, z e5, z c3, sI_row, if_neg c, z b5, z a3]
    have D7 : DD w v 0 0 0 0 0 hc7 hm7 := D.gw ⟨b3, b4⟩ ⟨e3, e4⟩ (by rw [c7 62 (by decide), if_pos rfl, up_n (by decide), up_s]) (by rw [c7 62 (by decide), if_pos rfl, up_s]) (by rw [r7, up_n (by decide), up_s]) (by rw [r7, up_s]) (fun a j h1 h2 => by
        rw [c7 a (by omega)]
        by_cases c : a = 62
        · subst c
          rw [if_pos rfl, up_n (by omega), up_n (by omega)]
        · rw [if_neg c]) (fun j h1 h2 => by rw [r7, up_n h2, up_n h1])
    have D8 := (D7.up (show 0 ≤ i by omega)).set (t0 := 4) (Ps' := 0) (x := nI (0 + 1)) (by decide) ⟨0 + 1, by omega, rfl⟩ (fun _ _ z => z)
    have T7 : TB (hm7.2.1 140) := T.cg (fun j h1 h2 => by rw [r7, up_n (by omega), up_n (by omega)])
    rw [q7]
    exact ⟨i, w, v, by omega, (j.wc (by decide)).wm, D8, TB.set (t := 4) T7 (by decide)⟩
/-! the first drafts -/
def cv (t : Nat) : Int32 := if t = 0 then 2 else if t = 1 then 1 else if t < 21 then 0 else -1
theorem pl_cv : ∀ t, t < 31 → am_pl (fun _ => 0) (prt t).2.2 = cv t := by decide +kernel
theorem pl_lt {f : Nat → Int32} {j : Nat} (h : j < 1137) : am_pl f j = am_pl (fun _ => 0) j := by
  unfold am_pl
  simp only [if_pos h]
theorem Q_cv (t : Nat) (ha : act 0 t) : Qt 2 1 0 t (cv t) := by
  unfold Qt cv
  unfold act at ha
  by_cases c0 : t = 0
  · rw [if_pos c0, if_pos c0]; rfl
  · rw [if_neg c0, if_neg c0]
    by_cases c1 : t = 1
    · rw [if_pos c1, if_pos c1]; rfl
    · rw [if_neg c1, if_neg c1]
      by_cases c2 : t = 2
      · rw [if_pos c2, if_pos (by omega)]; exact ⟨0, by omega, rfl⟩
      · rw [if_neg c2]
        by_cases c3 : t = 3
        · rw [if_pos c3, if_pos (by omega)]; exact ⟨0, by omega, rfl⟩
        · rw [if_neg c3]
          by_cases c4 : t = 4
          · rw [if_pos c4, if_pos (by omega)]; exact ⟨0, by omega, rfl⟩
          · rw [if_neg c4]
            by_cases c5 : t < 11
            · rw [if_pos c5, if_pos (by omega)]; exact ⟨some 0, fun g q => by cases q; omega, rfl⟩
            · rw [if_neg c5, if_neg (by omega)]
              by_cases c7 : t < 21
              · rw [if_pos c7, if_pos (by omega)]; exact ⟨0, by omega, rfl⟩
              · rw [if_neg c7, if_neg c7]
                split
                · exact .inl rfl
                · exact .inl rfl
theorem dd0 {hc hm : am_H} (h1 : ∀ t, t < 31 → act 0 t → hc.2.1 (prt t).1 (prt t).2.1 = cv t) (h2 : ∀ j, j < 1137 → hm.2.1 140 j = am_pl (fun _ => 0) j) (h3 : hc.2.1 62 2 = 0) (l0 : hc.2.1 75 0 = 0) (l1 : hc.2.1 79 0 = 0) : DD 2 1 0 0 0 0 0 hc hm ∧ TB (hm.2.1 140) ∧ hm.2.1 140 0 = 0 := by
  have z : ∀ a, a < 46 → (a = 0 ∨ a = 3 ∨ a = 5 ∨ a = 6 ∨ a = 27 ∨ a = 28 ∨ (40 ≤ a ∧ a ≤ 45)) → am_pl (fun _ => 0) a = 0 := by decide +kernel
  have z1 : ∀ p, p < 5 → am_pl (fun _ => 0) (16 + p) = -1 := by decide +kernel
  refine ⟨⟨⟨⟨by omega, by omega⟩, by omega, by omega⟩, fun t ht ha => ?_, fun a ha => ?_, ⟨h3, ?_⟩, ⟨Nat.le_refl _, ?_⟩, fun law hlaw => .inl ⟨?_, ?_⟩⟩, fun p hp => ?_, ?_⟩
  · have pr := (prt_r t ht).2.1
    rw [h1 t ht ha, h2 _ (by omega), pl_cv t ht]
    exact ⟨rfl, Q_cv t ha⟩
  · rw [h2 _ (by omega)]
    exact z a (by omega) (by omega)
  · rw [h2 _ (by omega)]
    exact z 3 (by omega) (by omega)
  · rw [h2 _ (by omega)]
    decide +kernel
  · rcases (show law = 0 ∨ law = 1 by omega) with rfl | rfl
    · exact l0
    · exact l1
  · rw [h2 _ (by omega)]
    exact z _ (by omega) (by omega)
  · left
    rw [h2 _ (by omega)]
    exact z1 p hp
  · rw [h2 _ (by omega)]
    exact z 0 (by omega) (by omega)
