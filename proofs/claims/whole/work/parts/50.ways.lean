-- deps: 31.law 32.nat 33.bit 34.spec 35.riv 36.let 37.mod 38.mod 39.it 40.ahead 41.rel 42.ask 43.why 44.meet 45.err 46.err 47.wk
/-! ===== ways ===== -/
theorem sJ_row {h : am_H} {o j a : Nat} {x : Int64} : (am_sJ h o j x).2.2.1 a = if a = o then va_up (h.2.2.1 o) j x else h.2.2.1 a := rfl
theorem keT.sJ {h : am_H} {o j : Nat} {x : Int64} (ho : scr o) : keT h (am_sJ h o j x) :=
  ⟨fun a ha => ⟨rfl, by rw [sJ_row, if_neg (fun c => ha (by rw [c]; exact ho))]⟩, id⟩
theorem keT.sI {h : am_H} {o j : Nat} {x : Int32} (ho : scr o) : keT h (am_sI h o j x) :=
  ⟨fun a ha => ⟨by rw [sI_row, if_neg (fun c => ha (by rw [c]; exact ho))], rfl⟩, id⟩
theorem keM.sJ {h : am_H} {o j : Nat} {x : Int64} (ho : 136 ≤ o) (h2 : o ≠ 160) : keM h (am_sJ h o j x) :=
  ⟨⟨fun a ha => ⟨rfl, by rw [sJ_row, if_neg (by omega)]⟩, rfl⟩, fun _ _ => rfl, by rw [sJ_row, if_neg (fun c => h2 c.symm)], rfl, rfl, rfl⟩
theorem tV.ke {h h' : am_H} {r : sR} {s : sS} (V : tV h r s) (k : keT h h') : tV h' r s :=
  ⟨V.1, V.2.1, V.2.2.1.cg (fun a _ _ => (k.1 a (by unfold scr; omega)).1), V.2.2.2.cg (fun a _ _ => (k.1 a (by unfold scr; omega)).1)⟩
theorem mV.ke {h h' : am_H} {r : sR} {s : sS} (V : mV (h.2.1 137) r s) (k : keM h h') : mV (h'.2.1 137) r s := by rw [k.2.1 137 (by omega)]; exact V
def eq9 (f c : Nat → Int64) : Prop := ∀ j, j < 9 → f j = c j
theorem eq9.up {f c : Nat → Int64} {j : Nat} {x : Int64} (e : eq9 f c) : eq9 (va_up f j x) (va_up c j x) := fun i hi => by
  by_cases q : i = j
  · subst q; rw [up_s, up_s]
  · rw [up_n q, up_n q]; exact e i hi
def kN (r : sR) (s : sS) (n : Nat) : Nat := (sH s + n) % rW r
def ws1 (r : sR) (s : sS) (p n x : Nat) (c d : Nat → Int64) : Nat → Nat → Int64
  | 0 => d
  | a + 1 => if hi r p (kN r s n) (fg s n) x a (sW s (kN r s n)) = 0 then va_up (ws1 r s p n x c d a) (mv x a (sW s (kN r s n))) (ws1 r s p n x c d a (mv x a (sW s (kN r s n))) + c x) else ws1 r s p n x c d a
def wsX (r : sR) (s : sS) (p n : Nat) (c : Nat → Int64) : Nat → Nat → Int64
  | 0 => fun _ => 0
  | x + 1 => if c x = 0 then wsX r s p n c x else ws1 r s p n x c (wsX r s p n c x) 7
def wy (r : sR) (s : sS) (p : Nat) : Nat → Nat → Int64
  | 0 => fun j => if j = sP s p then 1 else 0
  | n + 1 => wsX r s p n (wy r s p n) 9
def wv (G : Nat) (c : Nat → Int64) : Prop := ∀ x, c x ≠ 0 → vSp G x
theorem ws1_v {r : sR} {s : sS} {p n x : Nat} {c d : Nat → Int64} (hr : vR r) (hw : vW r (sW s)) (hx : vSp (rG r) x) (hd : wv (rG r) d) : ∀ a, a ≤ 7 → wv (rG r) (ws1 r s p n x c d a)
  | 0, _ => hd
  | a + 1, ha => by
    have ih := ws1_v (p := p) (n := n) (c := c) hr hw hx hd a (by omega)
    have hm : kN r s n < rW r := Nat.mod_lt _ (by have := hr.2.1; omega)
    rw [ws1]
    split
    · rename_i h0
      intro y hy
      by_cases q : y = mv x a (sW s (kN r s n))
      · rw [q]
        exact (hi_mv hr hx (hw _ hm) (by omega) h0).2.2
      · rw [up_n q] at hy; exact ih y hy
    · exact ih
theorem wsX_v {r : sR} {s : sS} {p n : Nat} {c : Nat → Int64} (hr : vR r) (hw : vW r (sW s)) (hc : wv (rG r) c) : ∀ x, wv (rG r) (wsX r s p n c x)
  | 0 => fun y hy => absurd rfl hy
  | x + 1 => by
    have ih := wsX_v (p := p) (n := n) hr hw hc x
    rw [wsX]
    split
    · exact ih
    · rename_i h0
      exact ws1_v hr hw (hc x h0) ih 7 (by omega)
theorem wy_v {r : sR} {s : sS} {p : Nat} (hr : vR r) (hw : vW r (sW s)) (hs : vSp (rG r) (sP s p)) : ∀ n, wv (rG r) (wy r s p n)
  | 0 => fun y hy => by
    by_cases q : y = sP s p
    · rw [q]; exact hs
    · exact absurd (if_neg q) hy
  | n + 1 => wsX_v hr hw (wy_v hr hw hs n) 9
/-! the class -/
def tN (h : am_H) (cu nx : Nat) : Prop := (cu = 89 ∧ nx = 90 ∨ cu = 90 ∧ nx = 89) ∧ am_rf h 86 4 = cu ∧ am_rf h 86 5 = nx
theorem tN.eq {h h' : am_H} {cu nx : Nat} (N : tN h cu nx) (e : h'.2.2.2 = h.2.2.2) : tN h' cu nx := by unfold tN am_rf at N ⊢; rw [e]; exact N
theorem n_sc {h : am_H} {r : sR} {s : sS} {p n x cu nx : Nat} {c d : Nat → Int64} (V : tV h r s) (N : tN h cu nx) (hp : p < rP r) (hx : vSp (rG r) x) (e1 : eq9 (h.2.2.1 cu) c) (e2 : eq9 (h.2.2.1 nx) d) :
    ∃ h', f_Ahead_spreadCount (nI (12 * p + 2 * kN r s n + fg s n)) (nI x) (oI (sW s (kN r s n))) h = some h' ∧ keT h h' ∧ h'.2.2.2 = h.2.2.2 ∧ eq9 (h'.2.2.1 cu) c ∧ eq9 (h'.2.2.1 nx) (ws1 r s p n x c d 7) := by
  have hG := V.hG
  have hW := V.hW
  have hm : kN r s n < rW r := Nat.mod_lt _ (by omega)
  have hx9 : x < 9 := by rcases hx with c | c <;> omega
  obtain ⟨b, f1, f2, f3, f4, f5⟩ := lpc2 (fun k (a1 : Int32) (a2 : am_H) => f_Ahead_spreadCount_L3 (nI (12 * p + 2 * kN r s n + fg s n)) (nI x) (oI (sW s (kN r s n))) k a1 a2) 7
    (fun t a1 a2 => a1 = nI t ∧ keT h a2 ∧ a2.2.2.2 = h.2.2.2 ∧ eq9 (a2.2.2.1 cu) c ∧ eq9 (a2.2.2.1 nx) (ws1 r s p n x c d t))
    (fun b => keT h b.2 ∧ b.2.2.2.2 = h.2.2.2 ∧ eq9 (b.2.2.2.1 cu) c ∧ eq9 (b.2.2.2.1 nx) (ws1 r s p n x c d 7))
    (fun k t a1 a2 ht hI => by
      obtain ⟨i1, i2, i3, i4, i5⟩ := hI
      try simp only at i1 i2 i3 i4 i5
      subst i1
      have V2 := V.ke i2
      have N2 := N.eq i3
      try simp only
      rw [f_Ahead_spreadCount_L3, if_neg (show ¬ (7 : Int32) ≤ nI t from nI_ge (b := 7) ht (by decide)), n_hind V2.1 V2.2.2.1 hp hm (fg_lt _ _) hx (V2.vw _ hm) (by omega), Option.bind_some, nI_1]
      by_cases c0 : hi r p (kN r s n) (fg s n) x t (sW s (kN r s n)) = 0
      · obtain ⟨m1, m2, m3⟩ := hi_mv V.1 hx (V.vw _ hm) (show t ≤ 6 by omega) c0
        have m9 : mv x t (sW s (kN r s n)) < 9 := by rcases m3 with c | c <;> omega
        rw [c0, if_pos (show nI 0 = 0 from rfl), n_moved (G := rG r) hx9 (by omega) m1 m2, Option.bind_some, N2.2.1, N2.2.2, n_rd m9 (by decide), Option.bind_some, n_rd hx9 (by decide), Option.bind_some, n_wrJ m9 (by decide), Option.bind_some, i4 x hx9, i5 _ m9]
        refine ⟨_, _, rfl, rfl, i2.tr (keT.sJ (by unfold scr; have := N.1; omega)), i3, ?_, ?_⟩
        · rw [sJ_row, if_neg (by have := N.1; omega)]; exact i4
        · rw [sJ_row, if_pos rfl, ws1, if_pos c0]; exact i5.up
      · have h3 : hi r p (kN r s n) (fg s n) x t (sW s (kN r s n)) < 2 ^ 31 := by
          unfold hi
          repeat' split
          all_goals omega
        rw [if_neg (show ¬ nI _ = (0 : Int32) from fun q => c0 ((nI_eq h3 (b := 0) (by decide)).mp q))]
        refine ⟨_, _, rfl, rfl, i2, i3, i4, ?_⟩
        rw [ws1, if_neg c0]; exact i5)
    (fun k a1 a2 hI => by
      obtain ⟨i1, i2⟩ := hI
      try simp only at i1 i2
      subst i1
      try simp only
      rw [f_Ahead_spreadCount_L3, if_pos (show (7 : Int32) ≤ nI 7 by decide)]
      exact ⟨_, rfl, i2⟩) (by decide) 0 h ⟨rfl, keT.rf, rfl, e1, e2⟩
  have f1' : f_Ahead_spreadCount_L3 (nI (12 * p + 2 * kN r s n + fg s n)) (nI x) (oI (sW s (kN r s n))) am_fu 0 h = some b := f1
  unfold f_Ahead_spreadCount
  rw [f1', Option.bind_some]
  exact ⟨_, rfl, f2, f3, f4, f5⟩
theorem n_fillJ {h : am_H} {o L : Nat} {v : Int64} (hL : L < 4000) : ∃ h', f_Arrays_fill_JJV o L v h = some h' ∧ h'.1 = h.1 ∧ h'.2.1 = h.2.1 ∧ h'.2.2.2 = h.2.2.2 ∧ (∀ a, a ≠ o → h'.2.2.1 a = h.2.2.1 a) ∧ (∀ j, j < L → h'.2.2.1 o j = v) ∧ ∀ j, L ≤ j → h'.2.2.1 o j = h.2.2.1 o j := by
  obtain ⟨b, f1, f2⟩ := lpc2 (fun k (a1 : Int32) (a2 : am_H) => f_Arrays_fill_JJV_L6 o L v k a1 (nI L) a2) L
    (fun t a1 a2 => a1 = nI t ∧ a2.1 = h.1 ∧ a2.2.1 = h.2.1 ∧ a2.2.2.2 = h.2.2.2 ∧ (∀ a', a' ≠ o → a2.2.2.1 a' = h.2.2.1 a') ∧ (∀ j, j < t → a2.2.2.1 o j = v) ∧ ∀ j, L ≤ j → a2.2.2.1 o j = h.2.2.1 o j)
    (fun b => b.2.1 = h.1 ∧ b.2.2.1 = h.2.1 ∧ b.2.2.2.2 = h.2.2.2 ∧ (∀ a', a' ≠ o → b.2.2.2.1 a' = h.2.2.1 a') ∧ (∀ j, j < L → b.2.2.2.1 o j = v) ∧ ∀ j, L ≤ j → b.2.2.2.1 o j = h.2.2.1 o j)
    (fun k t a1 a2 ht hI => by
      obtain ⟨i1, i2, i3, i4, i5, i6, i7⟩ := hI
      try simp only at i1 i2 i3 i4 i5 i6 i7
      subst i1
      try simp only
      rw [f_Arrays_fill_JJV_L6, if_neg (nI_ge ht (by omega)), n_wrJ ht (by omega), Option.bind_some, nI_1]
      refine ⟨_, _, rfl, rfl, i2, i3, i4, fun a' ha' => ?_, fun j hj => ?_, fun j hj => ?_⟩
      · rw [sJ_row, if_neg ha']; exact i5 a' ha'
      · rw [sJ_row, if_pos rfl]
        by_cases c : j = t
        · subst c; rw [up_s]
        · rw [up_n c]; exact i6 j (by omega)
      · rw [sJ_row, if_pos rfl, up_n (by omega)]; exact i7 j hj)
    (fun k a1 a2 hI => by
      obtain ⟨i1, i2⟩ := hI
      try simp only at i1 i2
      subst i1
      try simp only
      rw [f_Arrays_fill_JJV_L6, if_pos (nI_le (Nat.le_refl _) (by omega))]
      exact ⟨_, rfl, i2⟩) (by unfold am_fu; omega) 0 h ⟨rfl, rfl, rfl, rfl, fun _ _ => rfl, fun j hj => by omega, fun _ _ => rfl⟩
  have f1' : f_Arrays_fill_JJV_L6 o L v am_fu 0 (Int32.ofNat L) h = some b := f1
  unfold f_Arrays_fill_JJV
  rw [f1', Option.bind_some]
  exact ⟨_, rfl, f2⟩
theorem keT.fillJ {h h' : am_H} {o : Nat} (ho : scr o) (e2 : h'.2.1 = h.2.1) (e3 : h'.2.2.2 = h.2.2.2) (e4 : ∀ a, a ≠ o → h'.2.2.1 a = h.2.2.1 a) : keT h h' :=
  ⟨fun a ha => ⟨by rw [e2], e4 a (fun c => ha (by rw [c]; exact ho))⟩, by unfold tRef am_rf; rw [e3]; exact id⟩
theorem rf_sR {h : am_H} {o j o' j' q : Nat} : am_rf (am_sR h o j (some q)) o' j' = if o' = o ∧ j' = j then q else am_rf h o' j' := by
  unfold am_rf am_sR am_rR
  by_cases c : o' = o
  · subst c
    by_cases d : j' = j
    · subst d; simp [va_up]
    · simp [va_up, d]
  · simp [c]
theorem n_cw43 {h : am_H} {r : sR} {s : sS} {p n cu nx : Nat} {p2 p3 : Int32} {c : Nat → Int64} (V : tV h r s) (N : tN h cu nx) (hp : p < rP r) (hn : n ≤ 1000) (hc : wv (rG r) c) (e1 : eq9 (h.2.2.1 cu) c) (e2 : eq9 (h.2.2.1 nx) (fun _ => 0)) :
    ∃ y h', f_Ahead_countWays_L43 (nI p) p2 p3 am_fu (nI n) 0 h = some (y, h') ∧ keT h h' ∧ h'.2.2.2 = h.2.2.2 ∧ eq9 (h'.2.2.1 nx) (wsX r s p n c 9) := by
  obtain ⟨b, f1, f2, f3, f4⟩ := lpc2 (fun k (a1 : Int32) (a2 : am_H) => f_Ahead_countWays_L43 (nI p) p2 p3 k (nI n) a1 a2) 9
    (fun t a1 a2 => a1 = nI t ∧ keT h a2 ∧ a2.2.2.2 = h.2.2.2 ∧ eq9 (a2.2.2.1 cu) c ∧ eq9 (a2.2.2.1 nx) (wsX r s p n c t))
    (fun b => keT h b.2 ∧ b.2.2.2.2 = h.2.2.2 ∧ eq9 (b.2.2.2.1 nx) (wsX r s p n c 9))
    (fun k t a1 a2 ht hI => by
      obtain ⟨i1, i2, i3, i4, i5⟩ := hI
      try simp only at i1 i2 i3 i4 i5
      subst i1
      have V2 := V.ke i2
      have N2 := N.eq i3
      try simp only
      rw [f_Ahead_countWays_L43, if_neg (show ¬ (9 : Int32) ≤ nI t from nI_ge (b := 9) ht (by decide)), N2.2.1, n_rd ht (by decide), Option.bind_some, i4 t ht, nI_1]
      simp only [propext (lg_cmp_eq (c t) 0)]
      by_cases c0 : c t = 0
      · rw [if_pos c0]
        refine ⟨_, _, rfl, rfl, i2, i3, i4, ?_⟩
        rw [wsX, if_pos c0]; exact i5
      · obtain ⟨h1, g1, g2, g3, g4, g5⟩ := n_sc (n := n) V2 N2 hp (hc t c0) i4 i5
        rw [if_neg c0, n_rowIn V2 hn, Option.bind_some, n_liesIn V2 hn, Option.bind_some]
        have g1' : f_Ahead_spreadCount (nI (12 * p + 2 * ((sH s + n) % rW r) + fg s n)) (nI t) (oI (sW s ((sH s + n) % rW r))) a2 = some h1 := g1
        rw [g1', Option.bind_some]
        refine ⟨_, _, rfl, rfl, i2.tr g2, g3.trans i3, g4, ?_⟩
        rw [wsX, if_neg c0]; exact g5)
    (fun k a1 a2 hI => by
      obtain ⟨i1, i2, i3, i4, i5⟩ := hI
      try simp only at i1 i2 i3 i4 i5
      subst i1
      try simp only
      rw [f_Ahead_countWays_L43, if_pos (show (9 : Int32) ≤ nI 9 by decide)]
      exact ⟨_, rfl, i2, i3, i5⟩) (by decide) 0 h ⟨rfl, keT.rf, rfl, e1, e2⟩
  obtain ⟨b1, b2⟩ := b
  exact ⟨b1, b2, f1, f2, f3, f4⟩
theorem tRef.n {h : am_H} (t : tRef h) : ∃ cu nx, tN h cu nx := by
  rcases t.1 with ⟨a, b⟩ | ⟨a, b⟩
  · exact ⟨89, 90, .inl ⟨rfl, rfl⟩, a, b⟩
  · exact ⟨90, 89, .inr ⟨rfl, rfl⟩, a, b⟩
theorem n_cw {h : am_H} {r : sR} {s : sS} {p n q : Nat} (V : tV h r s) (t : tRef h) (hp : p < rP r) (hn : n ≤ 1000) (hq : q < 9) :
    ∃ h', f_Ahead_countWays (nI p) (nI q) (nI n) h = some (wy r s p n q, h') ∧ keT h h' := by
  have hP := V.hP
  have hG := V.hG
  have hsp := V.hsp hp
  have hx9 : sP s p < 9 := by rcases hsp with c | c <;> omega
  obtain ⟨cu, nx, N⟩ := t.n
  have scu : scr cu := by unfold scr; have := N.1; omega
  have snx : scr nx := by unfold scr; have := N.1; omega
  have hne : cu ≠ nx := by have := N.1; omega
  obtain ⟨h1, g1, g2, g3, g4, g5, g6, g7⟩ := n_fillJ (h := h) (o := cu) (L := 9) (v := 0) (by decide)
  have k1 := keT.fillJ scu g3 g4 g5
  have V1 := V.ke k1
  have N1 := N.eq g4
  have k2 : keT h (am_sJ h1 cu (sP s p) 1) := k1.tr (keT.sJ scu)
  obtain ⟨b, f1, f2, cu', nx', f3, f4⟩ := lpc2 (fun k (a1 : Int32) (a2 : am_H) => f_Ahead_countWays_L26 (nI p) (nI q) (nI n) k a1 a2) n
    (fun t a1 a2 => a1 = nI t ∧ keT h a2 ∧ ∃ cu nx, tN a2 cu nx ∧ eq9 (a2.2.2.1 cu) (wy r s p t))
    (fun b => keT h b.2 ∧ ∃ cu nx, tN b.2 cu nx ∧ eq9 (b.2.2.2.1 cu) (wy r s p n))
    (fun k t a1 a2 ht hI => by
      obtain ⟨i1, i2, cu, nx, i3, i4⟩ := hI
      try simp only at i1 i2 i3 i4
      subst i1
      have snx : scr nx := by unfold scr; have := i3.1; omega
      have hne : cu ≠ nx := by have := i3.1; omega
      obtain ⟨h1, g1, g2, g3, g4, g5, g6, g7⟩ := n_fillJ (h := a2) (o := nx) (L := 9) (v := 0) (by decide)
      have k1 := i2.tr (keT.fillJ snx g3 g4 g5)
      have V1 := V.ke k1
      have N1 := i3.eq g4
      obtain ⟨y, h2, j1, j2, j3, j4⟩ := n_cw43 (p2 := nI q) (p3 := nI n) V1 N1 hp (show t ≤ 1000 by omega) (wy_v V.1 V.vw hsp t) (by rw [g5 cu hne]; exact i4) g6
      have N2 := N1.eq j3
      try simp only
      rw [f_Ahead_countWays_L26, if_neg (nI_ge ht (by omega)), i3.2.2, g1, Option.bind_some, j1, Option.bind_some, nI_1]
      simp only [am_let]
      rw [N2.2.1, N2.2.2]
      have k2 := k1.tr j2
      refine ⟨_, _, rfl, rfl, ⟨k2.1, fun t => ?_⟩, nx, cu, ⟨by have := N.1; have := i3.1; omega, ?_, ?_⟩, j4⟩
      · have t2 := k2.2 t
        refine ⟨?_, ?_⟩
        · simp only [rf_sR]
          have := i3.1
          simp
          omega
        · simp only [rf_sR]
          simpa using t2.2
      · simp only [rf_sR]; simp
      · simp only [rf_sR]; simp)
    (fun k a1 a2 hI => by
      obtain ⟨i1, i2⟩ := hI
      try simp only at i1 i2
      subst i1
      try simp only
      rw [f_Ahead_countWays_L26, if_pos (nI_le (Nat.le_refl _) (by omega))]
      exact ⟨_, rfl, i2⟩) (by unfold am_fu; omega) 0 (am_sJ h1 cu (sP s p) 1) ⟨rfl, k2, cu, nx, N1.eq rfl, fun j hj => by
        rw [sJ_row, if_pos rfl]
        unfold wy
        by_cases c : j = sP s p
        · subst c; rw [up_s, if_pos rfl]
        · rw [up_n c, if_neg c]; exact g6 j hj⟩
  have f1' : f_Ahead_countWays_L26 (nI p) (nI q) (nI n) am_fu 0 (am_sJ h1 cu (sP s p) 1) = some b := f1
  unfold f_Ahead_countWays
  rw [N.2.1, g1, Option.bind_some, n_rd (by omega) (by decide), Option.bind_some, V1.sp hp, N1.2.1, n_wrJ hx9 (by decide), Option.bind_some, f1', Option.bind_some, f3.2.1, n_rd hq (by decide), Option.bind_some, f4 q hq]
  exact ⟨_, rfl, f2⟩
/-! the reference -/
theorem hi_lt {r : sR} {p k f x a : Nat} {l : Option Nat} : hi r p k f x a l < 4 := by
  unfold hi
  repeat' split
  all_goals omega
theorem n_mw131 {h : am_H} {r : sR} {s : sS} {p n x : Nat} {p2 p3 : Int32} {c d : Nat → Int64} (V : mV (h.2.1 137) r s) (hp : p < rP r) (hn : n ≤ 1000) (hx9 : x < 9) (hc : wv (rG r) c) (e1 : eq9 (h.2.2.1 149) c) (e2 : eq9 (h.2.2.1 150) d) :
    ∃ y h', f_Mod_ways_L131 (nI p) p2 p3 am_fu (nI n) (nI x) 0 h = some (y, h') ∧ keM h h' ∧ eq9 (h'.2.2.1 149) c ∧ eq9 (h'.2.2.1 150) (if c x = 0 then d else ws1 r s p n x c d 7) := by
  have hG := V.hG
  have hW := V.hW
  have hH := V.hH
  have hm : kN r s n < rW r := Nat.mod_lt _ (by omega)
  obtain ⟨b, f1, f2, f3, f4⟩ := lpc2 (fun k (a1 : Int32) (a2 : am_H) => f_Mod_ways_L131 (nI p) p2 p3 k (nI n) (nI x) a1 a2) 7
    (fun t a1 a2 => a1 = nI t ∧ keM h a2 ∧ eq9 (a2.2.2.1 149) c ∧ eq9 (a2.2.2.1 150) (if c x = 0 then d else ws1 r s p n x c d t))
    (fun b => keM h b.2 ∧ eq9 (b.2.2.2.1 149) c ∧ eq9 (b.2.2.2.1 150) (if c x = 0 then d else ws1 r s p n x c d 7))
    (fun k t a1 a2 ht hI => by
      obtain ⟨i1, i2, i4, i5⟩ := hI
      try simp only at i1 i2 i4 i5
      subst i1
      have V2 := V.ke i2
      try simp only
      rw [f_Mod_ways_L131, if_neg (show ¬ (7 : Int32) ≤ nI t from nI_ge (b := 7) ht (by decide)), n_rd hx9 (by decide), Option.bind_some, i4 x hx9, nI_1]
      simp only [propext (lg_cmp_eq (c x) 0)]
      by_cases c0 : c x = 0
      · rw [if_pos c0]
        rw [if_pos c0] at i5
        refine ⟨_, _, rfl, rfl, i2, i4, ?_⟩
        rw [if_pos c0]; exact i5
      · rw [if_neg c0] at i5
        have hx := hc x c0
        obtain ⟨h1, g1, g2⟩ := n_whyAct (act := t) (t := sH s + n) (f := fg s n) V2 hp hx (by omega) (by omega) (fg_lt _ _)
        have V3 := V2.ex g2 (by decide)
        have k3 := i2.tr (g2.keM (by decide))
        have r3 : h1.2.2.1 = a2.2.2.1 := by rw [g2.2.1]
        have g1' : f_Mod_whyAct (nI p) (nI x) (nI t) (nI (sH s) + nI n) (nI (fg s n)) a2 = some (nI (hi r p (kN r s n) (fg s n) x t (sW s (kN r s n))), h1) := by rw [nI_add]; exact g1
        rw [if_neg c0, rd_lit (by decide) (by decide), Option.bind_some, V2.ho, n_fogIn V2 (by omega), Option.bind_some, g1', Option.bind_some]
        try simp only
        by_cases c1 : hi r p (kN r s n) (fg s n) x t (sW s (kN r s n)) = 0
        · obtain ⟨m1, m2, m3⟩ := hi_mv V.1 hx (V.vw _ hm) (show t ≤ 6 by omega) c1
          have m9 : mv x t (sW s (kN r s n)) < 9 := by rcases m3 with c | c <;> omega
          have hb : blk (rG r) x t (sW s (kN r s n)) = false := by
            by_cases t0 : t = 0
            · subst t0; rfl
            · rw [hi_eq (by omega) t0] at c1
              cases hq : blk (rG r) x t (sW s (kN r s n)) with
              | false => rfl
              | true => rw [hq, if_tt] at c1; cases c1
          have hl : f_Mod_leads (nI x) (nI t) (oI (sW s ((sH s + n) % rW r))) h1 = some (nI (mv x t (sW s (kN r s n)))) := by
            have := n_leads V3 hx (V.vw _ hm) (show t ≤ 6 by omega)
            rw [hb, if_ff] at this
            exact this
          rw [c1, if_pos (show nI 0 = 0 from rfl), rd_lit (by decide) (by decide), Option.bind_some, V3.ho, nI_add, n_spanIn V3 (by omega), Option.bind_some, hl, Option.bind_some, r3, n_rd m9 (by decide), Option.bind_some, n_rd hx9 (by decide), Option.bind_some, n_wrJ m9 (by decide), Option.bind_some, i4 x hx9, i5 _ m9]
          refine ⟨_, _, rfl, rfl, k3.tr (keM.sJ (by decide) (by decide)), ?_, ?_⟩
          · rw [sJ_row, if_neg (by decide), r3]; exact i4
          · rw [sJ_row, if_pos rfl, r3, ws1, if_neg c0, if_pos c1]; exact i5.up
        · have h3 := hi_lt (r := r) (p := p) (k := kN r s n) (f := fg s n) (x := x) (a := t) (l := sW s (kN r s n))
          rw [if_neg (show ¬ nI _ = (0 : Int32) from fun q => c1 ((nI_eq (b := 0) (by omega) (by decide)).mp q))]
          refine ⟨_, _, rfl, rfl, k3, by rw [r3]; exact i4, ?_⟩
          rw [r3, ws1, if_neg c0, if_neg c1]; exact i5)
    (fun k a1 a2 hI => by
      obtain ⟨i1, i2⟩ := hI
      try simp only at i1 i2
      subst i1
      try simp only
      rw [f_Mod_ways_L131, if_pos (show (7 : Int32) ≤ nI 7 by decide)]
      exact ⟨_, rfl, i2⟩) (by decide) 0 h ⟨rfl, keM.rf, e1, by
        try simp only
        split
        · exact e2
        · exact e2⟩
  obtain ⟨b1, b2⟩ := b
  exact ⟨b1, b2, f1, f2, f3, f4⟩
theorem n_mw121 {h : am_H} {r : sR} {s : sS} {p n : Nat} {p2 p3 : Int32} {c : Nat → Int64} (V : mV (h.2.1 137) r s) (hp : p < rP r) (hn : n ≤ 1000) (hc : wv (rG r) c) (e1 : eq9 (h.2.2.1 149) c) (e2 : eq9 (h.2.2.1 150) (fun _ => 0)) :
    ∃ y h', f_Mod_ways_L121 (nI p) p2 p3 am_fu (nI n) 0 h = some (y, h') ∧ keM h h' ∧ eq9 (h'.2.2.1 150) (wsX r s p n c 9) := by
  obtain ⟨b, f1, f2, f3⟩ := lpc2 (fun k (a1 : Int32) (a2 : am_H) => f_Mod_ways_L121 (nI p) p2 p3 k (nI n) a1 a2) 9
    (fun t a1 a2 => a1 = nI t ∧ keM h a2 ∧ eq9 (a2.2.2.1 149) c ∧ eq9 (a2.2.2.1 150) (wsX r s p n c t))
    (fun b => keM h b.2 ∧ eq9 (b.2.2.2.1 150) (wsX r s p n c 9))
    (fun k t a1 a2 ht hI => by
      obtain ⟨i1, i2, i4, i5⟩ := hI
      try simp only at i1 i2 i4 i5
      subst i1
      have V2 := V.ke i2
      obtain ⟨y, h1, g1, g2, g3, g4⟩ := n_mw131 (p2 := p2) (p3 := p3) V2 hp hn ht hc i4 i5
      try simp only
      rw [f_Mod_ways_L121, if_neg (show ¬ (9 : Int32) ≤ nI t from nI_ge (b := 9) ht (by decide)), g1, Option.bind_some, nI_1]
      exact ⟨_, _, rfl, rfl, i2.tr g2, g3, g4⟩)
    (fun k a1 a2 hI => by
      obtain ⟨i1, i2, i3, i4⟩ := hI
      try simp only at i1 i2 i3 i4
      subst i1
      try simp only
      rw [f_Mod_ways_L121, if_pos (show (9 : Int32) ≤ nI 9 by decide)]
      exact ⟨_, rfl, i2, i4⟩) (by decide) 0 h ⟨rfl, keM.rf, e1, e2⟩
  obtain ⟨b1, b2⟩ := b
  exact ⟨b1, b2, f1, f2, f3⟩
theorem n_mw97 {h : am_H} {p1 p2 p3 v4 : Int32} : ∃ y h', f_Mod_ways_L97 p1 p2 p3 am_fu v4 0 h = some (y, h') ∧ keM h h' ∧ h'.2.2.1 149 = h.2.2.1 149 ∧ eq9 (h'.2.2.1 150) (fun _ => 0) := by
  obtain ⟨b, f1, f2, f3, f4⟩ := lpc2 (fun k (a1 : Int32) (a2 : am_H) => f_Mod_ways_L97 p1 p2 p3 k v4 a1 a2) 9
    (fun t a1 a2 => a1 = nI t ∧ keM h a2 ∧ a2.2.2.1 149 = h.2.2.1 149 ∧ ∀ j, j < t → a2.2.2.1 150 j = 0)
    (fun b => keM h b.2 ∧ b.2.2.2.1 149 = h.2.2.1 149 ∧ ∀ j, j < 9 → b.2.2.2.1 150 j = 0)
    (fun k t a1 a2 ht hI => by
      obtain ⟨i1, i2, i4, i5⟩ := hI
      try simp only at i1 i2 i4 i5
      subst i1
      try simp only
      rw [f_Mod_ways_L97, if_neg (show ¬ (9 : Int32) ≤ nI t from nI_ge (b := 9) ht (by decide)), n_wrJ ht (by decide), Option.bind_some, nI_1]
      refine ⟨_, _, rfl, rfl, i2.tr (keM.sJ (by decide) (by decide)), by rw [sJ_row, if_neg (by decide)]; exact i4, fun j hj => ?_⟩
      rw [sJ_row, if_pos rfl]
      by_cases c : j = t
      · subst c; rw [up_s]
      · rw [up_n c]; exact i5 j (by omega))
    (fun k a1 a2 hI => by
      obtain ⟨i1, i2⟩ := hI
      try simp only at i1 i2
      subst i1
      try simp only
      rw [f_Mod_ways_L97, if_pos (show (9 : Int32) ≤ nI 9 by decide)]
      exact ⟨_, rfl, i2⟩) (by decide) 0 h ⟨rfl, keM.rf, rfl, fun j hj => by omega⟩
  obtain ⟨b1, b2⟩ := b
  exact ⟨b1, b2, f1, f2, f3, f4⟩
theorem n_mw233 {h : am_H} {p1 p2 p3 v4 : Int32} {d : Nat → Int64} (e : eq9 (h.2.2.1 150) d) : ∃ y h', f_Mod_ways_L233 p1 p2 p3 am_fu v4 0 h = some (y, h') ∧ keM h h' ∧ eq9 (h'.2.2.1 149) d := by
  obtain ⟨b, f1, f2, f3⟩ := lpc2 (fun k (a1 : Int32) (a2 : am_H) => f_Mod_ways_L233 p1 p2 p3 k v4 a1 a2) 9
    (fun t a1 a2 => a1 = nI t ∧ keM h a2 ∧ a2.2.2.1 150 = h.2.2.1 150 ∧ ∀ j, j < t → a2.2.2.1 149 j = d j)
    (fun b => keM h b.2 ∧ ∀ j, j < 9 → b.2.2.2.1 149 j = d j)
    (fun k t a1 a2 ht hI => by
      obtain ⟨i1, i2, i4, i5⟩ := hI
      try simp only at i1 i2 i4 i5
      subst i1
      try simp only
      rw [f_Mod_ways_L233, if_neg (show ¬ (9 : Int32) ≤ nI t from nI_ge (b := 9) ht (by decide)), n_rd ht (by decide), Option.bind_some, n_wrJ ht (by decide), Option.bind_some, i4, e t ht, nI_1]
      refine ⟨_, _, rfl, rfl, i2.tr (keM.sJ (by decide) (by decide)), by rw [sJ_row, if_neg (by decide)]; exact i4, fun j hj => ?_⟩
      rw [sJ_row, if_pos rfl]
      by_cases c : j = t
      · subst c; rw [up_s]
      · rw [up_n c]; exact i5 j (by omega))
    (fun k a1 a2 hI => by
      obtain ⟨i1, i2, i3, i4⟩ := hI
      try simp only at i1 i2 i3 i4
      subst i1
      try simp only
      rw [f_Mod_ways_L233, if_pos (show (9 : Int32) ≤ nI 9 by decide)]
      exact ⟨_, rfl, i2, i4⟩) (by decide) 0 h ⟨rfl, keM.rf, rfl, fun j hj => by omega⟩
  obtain ⟨b1, b2⟩ := b
  exact ⟨b1, b2, f1, f2, f3⟩
theorem n_mw {h : am_H} {r : sR} {s : sS} {p n : Nat} {p2 : Int32} (V : mV (h.2.1 137) r s) (hp : p < rP r) (hn : n ≤ 1000) :
    ∃ y1 h1 y2 h2, f_Mod_ways_L46 (nI p) p2 (nI n) am_fu 0 h = some (y1, h1) ∧ f_Mod_ways_L88 (nI p) p2 (nI n) am_fu 0 h1 = some (y2, h2) ∧ keM h h2 ∧ eq9 (h2.2.2.1 149) (wy r s p n) := by
  have hP := V.hP
  have hG := V.hG
  have hsp := V.hsp hp
  have hx9 : sP s p < 9 := by rcases hsp with c | c <;> omega
  have e35 : (35 : Int32) + nI p = nI (35 + p) := nI_add 35 p
  obtain ⟨b, f1, f2, f3⟩ := lpc2 (fun k (a1 : Int32) (a2 : am_H) => f_Mod_ways_L46 (nI p) p2 (nI n) k a1 a2) 9
    (fun t a1 a2 => a1 = nI t ∧ keM h a2 ∧ ∀ j, j < t → a2.2.2.1 149 j = wy r s p 0 j)
    (fun b => keM h b.2 ∧ ∀ j, j < 9 → b.2.2.2.1 149 j = wy r s p 0 j)
    (fun k t a1 a2 ht hI => by
      obtain ⟨i1, i2, i5⟩ := hI
      try simp only at i1 i2 i5
      subst i1
      have V2 := V.ke i2
      try simp only
      rw [f_Mod_ways_L46, if_neg (show ¬ (9 : Int32) ≤ nI t from nI_ge (b := 9) ht (by decide)), e35, n_rd (by omega) (by decide), Option.bind_some, V2.sp hp, n_wrJ ht (by decide), Option.bind_some, nI_1]
      refine ⟨_, _, rfl, rfl, i2.tr (keM.sJ (by decide) (by decide)), fun j hj => ?_⟩
      rw [sJ_row, if_pos rfl]
      by_cases c : j = t
      · subst c
        rw [up_s]
        unfold wy
        simp only [nI_eqP (show j < 2 ^ 31 by omega) (show sP s p < 2 ^ 31 by omega)]
      · rw [up_n c]; exact i5 j (by omega))
    (fun k a1 a2 hI => by
      obtain ⟨i1, i2⟩ := hI
      try simp only at i1 i2
      subst i1
      try simp only
      rw [f_Mod_ways_L46, if_pos (show (9 : Int32) ≤ nI 9 by decide)]
      exact ⟨_, rfl, i2⟩) (by decide) 0 h ⟨rfl, keM.rf, fun j hj => by omega⟩
  obtain ⟨b1, b2⟩ := b
  obtain ⟨c, g1, g2, g3⟩ := lpc2 (fun k (a1 : Int32) (a2 : am_H) => f_Mod_ways_L88 (nI p) p2 (nI n) k a1 a2) n
    (fun t a1 a2 => a1 = nI t ∧ keM h a2 ∧ eq9 (a2.2.2.1 149) (wy r s p t))
    (fun b => keM h b.2 ∧ eq9 (b.2.2.2.1 149) (wy r s p n))
    (fun k t a1 a2 ht hI => by
      obtain ⟨i1, i2, i5⟩ := hI
      try simp only at i1 i2 i5
      subst i1
      obtain ⟨y1, h1, j1, j2, j3, j4⟩ := n_mw97 (h := a2) (p1 := nI p) (p2 := p2) (p3 := nI n) (v4 := nI t)
      have V2 := V.ke (i2.tr j2)
      obtain ⟨y2, h2, l1, l2, l3⟩ := n_mw121 (p2 := p2) (p3 := nI n) V2 hp (show t ≤ 1000 by omega) (wy_v V.1 V.vw hsp t) (by rw [j3]; exact i5) j4
      obtain ⟨y3, h3, m1, m2, m3⟩ := n_mw233 (p1 := nI p) (p2 := p2) (p3 := nI n) (v4 := nI t) l3
      try simp only
      rw [f_Mod_ways_L88, if_neg (nI_ge ht (by omega)), j1, Option.bind_some]
      try simp only
      rw [l1, Option.bind_some]
      try simp only
      rw [m1, Option.bind_some, nI_1]
      exact ⟨_, _, rfl, rfl, ((i2.tr j2).tr l2).tr m2, m3⟩)
    (fun k a1 a2 hI => by
      obtain ⟨i1, i2⟩ := hI
      try simp only at i1 i2
      subst i1
      try simp only
      rw [f_Mod_ways_L88, if_pos (nI_le (Nat.le_refl _) (by omega))]
      exact ⟨_, rfl, i2⟩) (by unfold am_fu; omega) 0 b2 ⟨rfl, f2, f3⟩
  obtain ⟨c1, c2⟩ := c
  exact ⟨b1, b2, c1, c2, f1, g1, g2, g3⟩
theorem rng2 {n : Nat} {u : Int64} (hn : n < 2 ^ 30) (hu : u = lN n) (x : Int32) : (∃ k, k ≤ n ∧ x = nI k ∧ ∀ h, f_Mod_within x.toInt64 0 u h = some true) ∨ ((x < 0 ∨ ¬ x ≤ nI n) ∧ ∀ h, f_Mod_within x.toInt64 0 u h = some false) := by
  rcases rng (h := am_e) hn hu x with ⟨k, hk, e, q⟩ | ⟨e, q⟩
  · exact .inl ⟨k, hk, e, fun h => q⟩
  · exact .inr ⟨e, fun h => q⟩
theorem ok_ways (b : Nat) (hb : b ≤ 90000) (x y z : Int32) : ok2 b (f_Top_ways x y z) (f_Mod_ways x y z) := by
  refine ok2_of (fun g h v T M0 => ?_)
  have TV := T.tV v (by omega)
  have hP := TV.hP
  have hG := TV.hG
  unfold f_Top_ways f_Mod_ways
  simp only [am_let]
  rcases per2 TV x with ⟨p, hp, rfl, e1, e2⟩ | ⟨e1, e2⟩
  · rw [e1, Option.bind_some, if_tt]
    rcases spt2 TV (s0M M0 v hb).2 y with ⟨q, hq, rfl, e3, e4⟩ | ⟨e3, e4⟩
    · have hq9 : q < 9 := by rcases hq with c | c <;> omega
      rw [e3, Option.bind_some, if_tt]
      rcases rng2 (n := 12) (by decide) (show (12 : Int64) = lN 12 from rfl) z with ⟨k, hk, rfl, e⟩ | ⟨q, e⟩
      · obtain ⟨h1, a1, a2⟩ := n_cw TV T.2.2.2.2.2.2.2.2.2 hp (show k ≤ 1000 by omega) hq9
        rw [if_neg (nI_pos (by omega)), if_pos (show nI k ≤ (12 : Int32) from nI_le (b := 12) hk (by decide)), a1, Option.bind_some]
        refine ⟨_, ⟨h1, rfl, a2⟩, fun h' M _ => ?_⟩
        obtain ⟨k0, MV⟩ := s0M M v hb
        obtain ⟨y1, h2, y2, h3, c1, c2, c3, c4⟩ := n_mw (p2 := nI q) MV hp (show k ≤ 1000 by omega)
        rw [e2 MV, Option.bind_some, if_tt, e4 MV, Option.bind_some, if_tt, e, Option.bind_some, if_tt, c1, Option.bind_some]
        try simp only
        rw [c2, Option.bind_some]
        try simp only
        rw [n_rd hq9 (by decide), Option.bind_some, c4 q hq9]
        exact ⟨_, rfl, k0.tr c3⟩
      · refine ⟨-3, ⟨h, ?_, keT.rf⟩, fun h' M _ => ?_⟩
        · rcases q with q | q
          · rw [if_pos q]
          · by_cases d : z < 0
            · rw [if_pos d]
            · rw [if_neg d, if_neg (show ¬ z ≤ (12 : Int32) from q)]
        · obtain ⟨k0, MV⟩ := s0M M v hb
          rw [e2 MV, Option.bind_some, if_tt, e4 MV, Option.bind_some, if_tt, e, Option.bind_some, if_ff]
          exact ⟨_, rfl, k0⟩
    · rw [e3, Option.bind_some, if_ff]
      refine ⟨_, ⟨h, rfl, keT.rf⟩, fun h' M _ => ?_⟩
      obtain ⟨k0, MV⟩ := s0M M v hb
      rw [e2 MV, Option.bind_some, if_tt, e4 MV, Option.bind_some, if_ff]
      exact ⟨_, rfl, k0⟩
  · rw [e1, Option.bind_some, if_ff]
    refine ⟨_, ⟨h, rfl, keT.rf⟩, fun h' M _ => ?_⟩
    obtain ⟨k0, MV⟩ := s0M M v hb
    rw [e2 MV, Option.bind_some, if_ff]
    exact ⟨_, rfl, k0⟩
