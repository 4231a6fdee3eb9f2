-- deps: 31.law 32.nat 33.bit 34.spec 35.riv 36.let 37.mod 38.mod 39.it 40.ahead 41.rel 42.ask 43.why 44.meet 45.err 46.err 47.wk 48.chg 50.ways 51.way 52.tray 54.past 55.hour 56.act 57.undo
/-! ===== images ===== -/
theorem tR.mv {o q : Nat} {r : sR} {h h' : am_H} (hr : vR r) (T : tR q r h) (e0 : ∀ j, j < 6 → h'.2.1 o j = h.2.1 q j) (e3 : ∀ i, 3 ≤ i → i ≤ 5 → ∀ j, j < 5 → h'.2.1 (o + i) j = h.2.1 (q + i) j) (e6 : ∀ i, 6 ≤ i → i ≤ 8 → ∀ j, j < 60 → h'.2.1 (o + i) j = h.2.1 (q + i) j) : tR o r h' := by
  have hW := hr.2.1
  have hP := hr.2.2.1
  obtain ⟨t0, t1, t2, t3, t4, t5, t6⟩ := T
  refine ⟨by rw [e0 0 (by omega)]; exact t0, by rw [e0 1 (by omega)]; exact t1, by rw [e0 2 (by omega)]; exact t2, by rw [e0 3 (by omega)]; exact t3, by rw [e0 5 (by omega)]; exact t4, fun p hp => ?_, fun p k f hp hk hf => ?_⟩
  · rw [e3 3 (by omega) (by omega) p (by omega), e3 4 (by omega) (by omega) p (by omega), e3 5 (by omega) (by omega) p (by omega)]
    exact t5 p hp
  · rw [e6 6 (by omega) (by omega) _ (by omega), e6 7 (by omega) (by omega) _ (by omega), e6 8 (by omega) (by omega) _ (by omega)]
    exact t6 p k f hp hk hf
/-- rows copied -/
theorem cp_r {h : am_H} {o0 o1 n : Nat} (hn : n < 2 ^ 31) : ∃ h', am_cp h o0 n 0 o1 n 0 (nI n) = some h' ∧ h'.2.2 = h.2.2 ∧ (∀ a, a ≠ o1 → h'.2.1 a = h.2.1 a) ∧ ∀ j, j < n → h'.2.1 o1 j = h.2.1 o0 j := by
  refine ⟨_, n_cp (Nat.le_refl _) (Nat.le_refl _) hn, rfl, fun a ha => by rw [rI_row, if_neg ha], fun j hj => ?_⟩
  rw [rI_row, if_pos rfl, if_pos hj]
theorem n_rvCopy {h : am_H} {o q : Nat} (hq : q + 8 < o ∨ o + 8 < q) : ∃ h', f_River_copyFrom o q h = some h' ∧ h'.2.2 = h.2.2 ∧ (∀ a, a < o ∨ o + 8 < a → h'.2.1 a = h.2.1 a) ∧ (∀ j, j < 6 → h'.2.1 o j = h.2.1 q j) ∧ (∀ i, 3 ≤ i → i ≤ 5 → ∀ j, j < 5 → h'.2.1 (o + i) j = h.2.1 (q + i) j) ∧ (∀ i, 6 ≤ i → i ≤ 8 → ∀ j, j < 60 → h'.2.1 (o + i) j = h.2.1 (q + i) j) := by
  unfold f_River_copyFrom
  simp only [am_let]
  generalize hx : am_sI (am_sI (am_sI (am_sI (am_sI (am_sI h o 0 (h.2.1 q 0)) o 1 ((am_sI h o 0 (h.2.1 q 0)).2.1 q 1)) o 2 _) o 3 _) o 4 _) o 5 _ = x
  have xJ : x.2.2 = h.2.2 := by rw [← hx]; rfl
  have x1 : ∀ a, a ≠ o → x.2.1 a = h.2.1 a := fun a ha => by
    rw [← hx]
    simp only [sI_row, if_neg ha]
  have hqo : q ≠ o := by omega
  have x0 : ∀ j, j < 6 → x.2.1 o j = h.2.1 q j := fun j hj => by
    rw [← hx]
    simp only [sI_row, if_true, if_neg hqo]
    rcases (show j = 0 ∨ j = 1 ∨ j = 2 ∨ j = 3 ∨ j = 4 ∨ j = 5 by omega) with rfl | rfl | rfl | rfl | rfl | rfl
    · rw [up_n (by decide), up_n (by decide), up_n (by decide), up_n (by decide), up_n (by decide), up_s]
    · rw [up_n (by decide), up_n (by decide), up_n (by decide), up_n (by decide), up_s]
    · rw [up_n (by decide), up_n (by decide), up_n (by decide), up_s]
    · rw [up_n (by decide), up_n (by decide), up_s]
    · rw [up_n (by decide), up_s]
    · rw [up_s]
  obtain ⟨y1, a1, b1, c1, d1⟩ := cp_r (h := x) (o0 := q + 1) (o1 := o + 1) (n := 6) (by decide)
  obtain ⟨y2, a2, b2, c2, d2⟩ := cp_r (h := y1) (o0 := q + 2) (o1 := o + 2) (n := 5) (by decide)
  obtain ⟨y3, a3, b3, c3, d3⟩ := cp_r (h := y2) (o0 := q + 3) (o1 := o + 3) (n := 5) (by decide)
  obtain ⟨y4, a4, b4, c4, d4⟩ := cp_r (h := y3) (o0 := q + 4) (o1 := o + 4) (n := 5) (by decide)
  obtain ⟨y5, a5, b5, c5, d5⟩ := cp_r (h := y4) (o0 := q + 5) (o1 := o + 5) (n := 5) (by decide)
  obtain ⟨y6, a6, b6, c6, d6⟩ := cp_r (h := y5) (o0 := q + 6) (o1 := o + 6) (n := 60) (by decide)
  obtain ⟨y7, a7, b7, c7, d7⟩ := cp_r (h := y6) (o0 := q + 7) (o1 := o + 7) (n := 60) (by decide)
  obtain ⟨y8, a8, b8, c8, d8⟩ := cp_r (h := y7) (o0 := q + 8) (o1 := o + 8) (n := 60) (by decide)
  have f1 : am_cp x (q + 1) 6 0 (o + 1) 6 0 6 = some y1 := a1
  have f2 : am_cp y1 (q + 2) 5 0 (o + 2) 5 0 5 = some y2 := a2
  have f3 : am_cp y2 (q + 3) 5 0 (o + 3) 5 0 5 = some y3 := a3
  have f4 : am_cp y3 (q + 4) 5 0 (o + 4) 5 0 5 = some y4 := a4
  have f5 : am_cp y4 (q + 5) 5 0 (o + 5) 5 0 5 = some y5 := a5
  have f6 : am_cp y5 (q + 6) 60 0 (o + 6) 60 0 (Int32.ofNat 60) = some y6 := a6
  have f7 : am_cp y6 (q + 7) 60 0 (o + 7) 60 0 (Int32.ofNat 60) = some y7 := a7
  have f8 : am_cp y7 (q + 8) 60 0 (o + 8) 60 0 (Int32.ofNat 60) = some y8 := a8
  rw [f1, Option.bind_some, f2, Option.bind_some, f3, Option.bind_some, f4, Option.bind_some, f5, Option.bind_some, f6, Option.bind_some, f7, Option.bind_some, f8, Option.bind_some]
  refine ⟨_, rfl, by rw [b8, b7, b6, b5, b4, b3, b2, b1, xJ], fun a ha => ?_, fun j hj => ?_, fun i hi1 hi2 j hj => ?_, fun i hi1 hi2 j hj => ?_⟩
  · rw [c8 a (by omega), c7 a (by omega), c6 a (by omega), c5 a (by omega), c4 a (by omega), c3 a (by omega), c2 a (by omega), c1 a (by omega), x1 a (by omega)]
  · rw [c8 o (by omega), c7 o (by omega), c6 o (by omega), c5 o (by omega), c4 o (by omega), c3 o (by omega), c2 o (by omega), c1 o (by omega), x0 j hj]
  · rcases (show i = 3 ∨ i = 4 ∨ i = 5 by omega) with rfl | rfl | rfl
    · rw [c8 _ (by omega), c7 _ (by omega), c6 _ (by omega), c5 _ (by omega), c4 _ (by omega), d3 j hj, c2 _ (by omega), c1 _ (by omega), x1 _ (by omega)]
    · rw [c8 _ (by omega), c7 _ (by omega), c6 _ (by omega), c5 _ (by omega), d4 j hj, c3 _ (by omega), c2 _ (by omega), c1 _ (by omega), x1 _ (by omega)]
    · rw [c8 _ (by omega), c7 _ (by omega), c6 _ (by omega), d5 j hj, c4 _ (by omega), c3 _ (by omega), c2 _ (by omega), c1 _ (by omega), x1 _ (by omega)]
  · rcases (show i = 6 ∨ i = 7 ∨ i = 8 by omega) with rfl | rfl | rfl
    · rw [c8 _ (by omega), c7 _ (by omega), d6 j hj, c5 _ (by omega), c4 _ (by omega), c3 _ (by omega), c2 _ (by omega), c1 _ (by omega), x1 _ (by omega)]
    · rw [c8 _ (by omega), d7 j hj, c6 _ (by omega), c5 _ (by omega), c4 _ (by omega), c3 _ (by omega), c2 _ (by omega), c1 _ (by omega), x1 _ (by omega)]
    · rw [d8 j hj, c7 _ (by omega), c6 _ (by omega), c5 _ (by omega), c4 _ (by omega), c3 _ (by omega), c2 _ (by omega), c1 _ (by omega), x1 _ (by omega)]
/-! the reference's river, wherever its words lie -/
theorem cds_cg2 {A B : Nat → Int32} {f n : Nat} (hb : f + n ≤ 900) (e : ∀ j, 237 ≤ j → j < 1137 → B j = A j) : cds B (237 + f) n = cds A (237 + f) n := by
  unfold cds
  refine List.map_congr_left (fun i hi => e _ (by omega) ?_)
  have := List.mem_range.mp hi
  omega
theorem mR.cg2 {A B : Nat → Int32} {r : sR} (hr : vR r) (h : mR A r) (e : ∀ j, j < 26 ∨ 237 ≤ j ∧ j < 1137 → B j = A j) : mR B r := by
  have hP := hr.2.2.1
  obtain ⟨h0, h1, h2, h3, h4, h5, ⟨h6, h7⟩, h8, h9⟩ := h
  have ec : ∀ law, law < 2 → lwf A law → lwf B law := fun law hl w => by
    unfold lwf at w ⊢
    rw [e (5 + law) (by omega), e (7 + law) (by omega), e (9 + law) (by omega)]
    rcases w with w | ⟨w, f, m, w1, w2, w3, w4⟩
    · exact .inl w
    · exact .inr ⟨w, f, m, w1, w2, w3, by rw [cds_cg2 w3 (fun j q1 q2 => e j (by omega))]; exact w4⟩
  have es : ∀ law p g k f d, law < 2 → p < 5 → lwf A law → slet B law p g k f d = slet A law p g k f d := fun law p g k f d hl hp w => by
    have wd : wrd B p g k f d = wrd A p g k f d := by
      funext i
      unfold wrd
      rw [e (11 + p) (by omega)]
    unfold slet
    rw [e (5 + law) (by omega), e (7 + law) (by omega), e (9 + law) (by omega), wd]
    rcases w with w | ⟨w, f', m, w1, w2, w3, w4⟩
    · rw [if_pos w, if_pos w]
    · rw [w1, w2, nI_clamp (by omega), nI_clamp (by omega), cds_cg2 w3 (fun j q1 q2 => e j (by omega))]
  refine ⟨by rw [e 0 (by omega)]; exact h0, by rw [e 1 (by omega)]; exact h1, by rw [e 2 (by omega)]; exact h2, by rw [e 3 (by omega)]; exact h3, by rw [e 4 (by omega)]; exact h4, fun p hp => ?_, ⟨ec 0 (by omega) h6, ec 1 (by omega) h7⟩, fun p s k f hp hs hk hf => ?_, fun p g k f d hp hg hk hf => ?_⟩
  · rw [e (11 + p) (by omega), e (16 + p) (by omega), e (21 + p) (by omega)]
    exact h5 p hp
  · rw [es 0 _ _ _ _ _ (by omega) (by omega) h6]; exact h8 p s k f hp hs hk hf
  · rw [es 1 _ _ _ _ _ (by omega) (by omega) h7]; exact h9 p g k f d hp hg hk hf
def gI (g : sG) (i : Nat) : sG := (g.1, va_up g.2.1 i (some (g.1.1, g.1.2.1)), g.2.2)
theorem im2 (x : Int32) : (∃ i, i < 2 ∧ x = nI i ∧ ∀ h, f_Mod_within x.toInt64 0 1 h = some true) ∨ ((x < 0 ∨ ¬ x < 2) ∧ ∀ h, f_Mod_within x.toInt64 0 1 h = some false) := by
  rcases rng2 (n := 1) (by decide) (show (1 : Int64) = lN 1 from rfl) x with ⟨k, hk, rfl, e⟩ | ⟨q, e⟩
  · exact .inl ⟨k, by omega, rfl, e⟩
  · refine .inr ⟨?_, e⟩
    rcases q with q | q
    · exact .inl q
    · right
      intro c
      apply q
      rw [Int32.le_iff_toInt_le]
      rw [Int32.lt_iff_toInt_lt] at c
      have e1 : (nI 1).toInt = 1 := by decide
      have e2 : (2 : Int32).toInt = 2 := by decide
      omega
theorem ok_image (b : Nat) (hb : b ≤ 90000) (x : Int32) : ok2 b (f_Top_image x) (f_Mod_image x) := by
  refine ok2_st (fun g h v T M0 => ?_)
  have hr := v.1
  rcases im2 x with ⟨i, hi, rfl, e⟩ | ⟨q, e⟩
  · have vv : VG (b + 48) (gI g i) := by
      have v2 := v.up (show b ≤ b + 48 by omega)
      refine ⟨v2.1, v2.2.1, v2.2.2.1, v2.2.2.2.1, fun j hj q hq => ?_, v2.2.2.2.2.2⟩
      have hq' : va_up g.2.1 i (some (g.1.1, g.1.2.1)) j = some q := hq
      by_cases d : j = i
      · subst d
        rw [up_s] at hq'
        cases hq'
        exact ⟨v2.1, v2.2.1⟩
      · rw [up_n d] at hq'
        exact v2.2.2.2.2.1 j hj q hq'
    refine ⟨0, gI g i, vv, ?_, fun h' M => ?_⟩
    · obtain ⟨R1, R2, ⟨e0, q1, q2, q3, q4⟩, ⟨m, i1, i2, i3⟩, ⟨t1, t2⟩, ⟨u1, u2⟩, R7, R8, R9, R10⟩ := T
      obtain ⟨h1, a1, a2, a3, a4, a5, a6⟩ := n_rvCopy (h := am_sI h 0 14 (nI (m ||| 1 <<< i))) (o := 110 + 13 * i) (q := 1) (by omega)
      obtain ⟨h2, b1, b2, b3, b4, b5, b6, b7⟩ := n_stCopy (h := h1) (o := 119 + 13 * i) (q := 10) (by omega)
      unfold f_Top_image
      simp only [am_let]
      rw [if_neg (nI_pos (by omega)), if_pos (show nI i < (2 : Int32) from nI_lt (b := 2) hi (by decide)), i2, shl1 (by omega), nI_or, n_el hi (by decide), Option.bind_some, a1, Option.bind_some, n_el hi (by decide), Option.bind_some, b1, Option.bind_some]
      have e1 : ∀ a, a ≠ 0 → (a < 110 + 13 * i ∨ 122 + 13 * i < a) → h2.2.1 a = h.2.1 a := fun a ha hb => by
        rw [b3 a (by omega), a3 a (by omega), sI_row, if_neg ha]
      have e00 : h2.2.1 0 = va_up (h.2.1 0) 14 (nI (m ||| 1 <<< i)) := by
        rw [b3 0 (by omega), a3 0 (by omega), sI_row, if_pos rfl]
      have eJ : h2.2.2 = h.2.2 := by rw [b2, a2]; rfl
      have bit : ∀ j, (m ||| 1 <<< i).testBit j = (m.testBit j || decide (i = j)) := fun j => by
        rw [Nat.testBit_or, Nat.one_shiftLeft, Nat.testBit_two_pow]
      have hm4 : m ||| 1 <<< i < 4 := Nat.or_lt_two_pow (n := 2) i1 (by rcases (show i = 0 ∨ i = 1 by omega) with rfl | rfl <;> decide)
      refine ⟨_, rfl, ⟨R1.cg (fun a _ _ => e1 a (by omega) (by omega)), R2.cg (fun a _ _ => e1 a (by omega) (by omega)), ⟨e0, q1, ?_, ?_, fun i hi => (q4 i hi).cg (fun a _ _ => e1 a (by omega) (by omega))⟩, ⟨m ||| 1 <<< i, hm4, ?_, fun j hj => ?_⟩, ⟨?_, ?_⟩, ⟨?_, ?_⟩, ?_, ?_, ?_, rf_id (by rw [eJ]) R10⟩, fun a ha => ⟨e1 a (by omega) (by omega), by rw [eJ]⟩⟩
      · rw [e1 18 (by omega) (by omega)]; exact q2
      · rw [e1 18 (by omega) (by omega)]; exact q3
      · rw [e00, up_s]
      · show (m ||| 1 <<< i).testBit j = (va_up g.2.1 i (some (g.1.1, g.1.2.1)) j).isSome ∧ ∀ q, va_up g.2.1 i (some (g.1.1, g.1.2.1)) j = some q → _
        rw [bit]
        by_cases d : j = i
        · subst d
          rw [up_s]
          refine ⟨by simp, fun q hq => ?_⟩
          cases hq
          refine ⟨?_, ?_⟩
          · exact R1.mv hr (fun k hk => by rw [b3 _ (by omega), a4 k hk, sI_row, if_neg (by omega)]) (fun k h3 h5 l hl => by rw [b3 _ (by omega), a5 k h3 h5 l hl, sI_row, if_neg (by omega)]) (fun k h3 h5 l hl => by rw [b3 _ (by omega), a6 k h3 h5 l hl, sI_row, if_neg (by omega)])
          · have T1 : tS 10 g.1.1 g.1.2.1 h1 := R2.cg (fun a _ _ => by rw [a3 a (by omega), sI_row, if_neg (by omega)])
            exact T1.mv hr b4 b5 b6 b7
        · rw [up_n d]
          refine ⟨by rw [(i3 j hj).1]; simp; intro q; exact absurd q.symm d, fun q hq => ?_⟩
          exact ⟨((i3 j hj).2 q hq).1.cg (fun a _ _ => e1 a (by omega) (by omega)), ((i3 j hj).2 q hq).2.cg (fun a _ _ => e1 a (by omega) (by omega))⟩
      · rw [e00, up_n (by decide)]; exact t1
      · rw [e1 60 (by omega) (by omega)]; exact t2
      · rw [e1 61 (by omega) (by omega)]; exact u1
      · rw [e1 61 (by omega) (by omega)]; exact u2
      · intro j hj
        rw [e1 (102 + 2 * j) (by omega) (by omega), eJ]
        exact R7 j hj
      · unfold tBest; rw [e1 91 (by omega) (by omega), e1 93 (by omega) (by omega)]; exact R8
      · unfold tGood; rw [e1 91 (by omega) (by omega)]; exact R9
    · obtain ⟨k0, MV⟩ := s0M M v hb
      have M1 := M.ke k0
      generalize hh1 : am_sI h' 136 0 0 = h1 at *
      obtain ⟨c, f1, f2, f3⟩ := lpc2 (fun m (a1 : Int32) (a2 : am_H) => f_Mod_image_L20 (nI i) m a1 a2) 1137
        (fun t a1 a2 => a1 = nI t ∧ am_ex [137] h1 a2 ∧ ∀ j, a2.2.1 137 j = if 1137 * (i + 1) ≤ j ∧ j < 1137 * (i + 1) + t then h1.2.1 137 (j - 1137 * (i + 1)) else h1.2.1 137 j)
        (fun c => am_ex [137] h1 c.2 ∧ ∀ j, c.2.2.1 137 j = if 1137 * (i + 1) ≤ j ∧ j < 1137 * (i + 1) + 1137 then h1.2.1 137 (j - 1137 * (i + 1)) else h1.2.1 137 j)
        (fun m t a1 a2 ht hI => by
          obtain ⟨rfl, i2, i3⟩ := hI
          have ee : (1137 : Int32) * (nI i + 1) + nI t = nI (1137 * (i + 1) + t) := by
            have h1 : (1137 : Int32) * nI (i + 1) = nI (1137 * (i + 1)) := nI_mul 1137 _
            rw [nI_up, h1, nI_add]
          rw [f_Mod_image_L20, if_neg (show ¬ (1137 : Int32) ≤ nI t from nI_ge (b := 1137) ht (by decide)), n_rd (by omega) (by decide), Option.bind_some, ee, n_wr (by omega) (by decide), Option.bind_some]
          refine ⟨_, _, rfl, nI_up, i2.tr (am_ex.sI (X := [137]) (by decide)) (fun _ z => z) (fun _ z => z), fun j => ?_⟩
          rw [sI_row, if_pos rfl]
          by_cases c : j = 1137 * (i + 1) + t
          · subst c
            rw [up_s, if_pos (by omega), i3, if_neg (by omega), show 1137 * (i + 1) + t - 1137 * (i + 1) = t by omega]
          · rw [up_n c, i3]
            by_cases d : 1137 * (i + 1) ≤ j ∧ j < 1137 * (i + 1) + t
            · rw [if_pos d, if_pos (by omega)]
            · rw [if_neg d, if_neg (by omega)])
        (fun m a1 a2 hI => by
          obtain ⟨rfl, i2⟩ := hI
          rw [f_Mod_image_L20, if_pos (show (1137 : Int32) ≤ nI 1137 by decide)]
          exact ⟨_, rfl, i2⟩) (by decide) 0 h1 ⟨rfl, am_ex.rf, fun j => by rw [if_neg (by omega)]⟩
      unfold f_Mod_image
      simp only [am_let]
      rw [hh1, e, Option.bind_some, if_tt, f1, Option.bind_some, n_wr (by omega) (by decide), Option.bind_some]
      obtain ⟨N1, N2, ⟨P1, P2⟩, N4, N5, N6, N7⟩ := M1
      have rr : ∀ j, j < 1137 * (i + 1) ∨ 1137 * (i + 1) + 1137 ≤ j → (am_sI c.2 138 i (vp_nar .boolean (1 : Int32))).2.1 137 j = h1.2.1 137 j := fun j hj => by
        rw [sI_row, if_neg (by decide), f3 j, if_neg (by omega)]
      have rn : ∀ j, j < 1137 → (am_sI c.2 138 i (vp_nar .boolean (1 : Int32))).2.1 137 (1137 * (i + 1) + j) = h1.2.1 137 j := fun j hj => by
        rw [sI_row, if_neg (by decide), f3 _, if_pos (by omega), show 1137 * (i + 1) + j - 1137 * (i + 1) = j by omega]
      have ro : ∀ a, a ≠ 137 → a ≠ 138 → (am_sI c.2 138 i (vp_nar .boolean (1 : Int32))).2.1 a = h1.2.1 a := fun a h2 h3 => by
        rw [sI_row, if_neg h3]; exact f2.2.2 a (by simpa using h2)
      have rJ : (am_sI c.2 138 i (vp_nar .boolean (1 : Int32))).2.2 = h1.2.2 := f2.2.1
      refine ⟨_, rfl, ⟨mR.cg2 hr N1 (fun j hj => rr j (by omega)), N2.mv hr (fun j hj => rr _ (by omega)), ⟨?_, fun k hk => (P2 k hk).mv hr (fun j hj => rr _ (by have := v.2.2.1; have hk' : k < g.1.2.2.1 := hk; omega))⟩, fun j hj => ?_, ⟨?_, ?_⟩, ⟨?_, ?_⟩, ?_⟩, k0.1.tr ⟨fun a ha => ⟨ro a (by omega) (by omega), by rw [rJ]⟩, by rw [rJ]⟩⟩
      · rw [rr 45 (by omega)]; exact P1
      · show (va_up g.2.1 i (some (g.1.1, g.1.2.1)) j = none → _) ∧ ∀ q, va_up g.2.1 i (some (g.1.1, g.1.2.1)) j = some q → _
        by_cases d : j = i
        · subst d
          rw [up_s]
          refine ⟨(fun z => by cases z), fun q hq => ?_⟩
          cases hq
          refine ⟨?_, ?_, ?_⟩
          · rw [sI_row, if_pos rfl, up_s]; rfl
          · exact mR.cg2 (A := h1.2.1 137) hr N1 (fun k hk => rn k (by omega))
          · exact N2.mv hr (fun k hk => by rw [show 1137 * (j + 1) + 26 + k = 1137 * (j + 1) + (26 + k) by omega]; exact rn _ (by omega))
        · rw [up_n d, sI_row, if_pos rfl, up_n d, f2.2.2 138 (by decide)]
          refine ⟨(N4 j hj).1, fun q hq => ?_⟩
          obtain ⟨s1, s2, s3⟩ := (N4 j hj).2 q hq
          have hvq := (v.2.2.2.2.1 j hj q hq).1
          refine ⟨s1, ?_, ?_⟩
          · exact mR.cg2 hvq s2 (fun k hk => rr _ (by omega))
          · exact s3.mv hvq (fun k hk => rr _ (by omega))
      · rw [ro 136 (by decide) (by decide)]; exact N5.1
      · rw [ro 139 (by decide) (by decide)]; exact N5.2
      · rw [ro 136 (by decide) (by decide)]; exact N6.1
      · rw [ro 136 (by decide) (by decide)]; exact N6.2
      · intro j hj
        rw [ro 158 (by decide) (by decide), ro 159 (by decide) (by decide), rJ]
        exact N7 j hj
  · refine st_same v T (-2) ?_ (fun h' M => ?_)
    · unfold f_Top_image
      by_cases d : x < 0
      · rw [if_pos d]
      · rcases q with q | q
        · exact absurd q d
        · rw [if_neg d, if_neg q]
    · unfold f_Mod_image
      simp only [am_let]
      rw [e, Option.bind_some, if_ff]
      exact ⟨_, rfl, keM.s0 (by decide)⟩
def gR (g : sG) (q : sR × sS) : sG := ((q.1, q.2, 0, g.1.2.2.2), g.2)
theorem ok_restore (b : Nat) (hb : b ≤ 90000) (x : Int32) : ok2 b (f_Top_restore x) (f_Mod_restore x) := by
  refine ok2_st (fun g h v T M0 => ?_)
  rcases im2 x with ⟨i, hi, rfl, e⟩ | ⟨q, e⟩
  · obtain ⟨R1, R2, R3, ⟨m, i1, i2, i3⟩, ⟨t1, t2⟩, ⟨u1, u2⟩, R7, R8, R9, R10⟩ := T
    have T : RT g h := ⟨R1, R2, R3, ⟨m, i1, i2, i3⟩, ⟨t1, t2⟩, ⟨u1, u2⟩, R7, R8, R9, R10⟩
    cases hg : g.2.1 i with
    | none =>
      refine st_same v T (-5) ?_ (fun h' M => ?_)
      · unfold f_Top_restore
        rw [if_neg (nI_pos (by omega)), if_pos (show nI i < (2 : Int32) from nI_lt (b := 2) hi (by decide)), i2, n_hasBit (by omega) (by omega), Option.bind_some, (i3 i hi).1, hg]
        rfl
      · obtain ⟨k0, MV⟩ := s0M M v hb
        have M1 := M.ke k0
        unfold f_Mod_restore
        simp only [am_let]
        rw [e, Option.bind_some, if_tt, n_rd (by omega) (by decide), Option.bind_some, (M1.2.2.2.1 i hi).1 hg, if_pos rfl]
        exact ⟨_, rfl, k0⟩
    | some q =>
      obtain ⟨hrq, hvq⟩ := v.2.2.2.2.1 i hi q hg
      have vv : VG (b + 48) (gR g q) := by
        have v2 := v.up (show b ≤ b + 48 by omega)
        refine ⟨hrq, hvq.up (by omega), Nat.zero_le _, fun j hj => ?_, v2.2.2.2.2⟩
        have hj' : j < 0 := hj
        omega
      refine ⟨0, gR g q, vv, ?_, fun h' M => ?_⟩
      · obtain ⟨Q1, Q2⟩ := (i3 i hi).2 q hg
        obtain ⟨h1, a1, a2, a3, a4, a5, a6⟩ := n_rvCopy (h := h) (o := 1) (q := 110 + 13 * i) (by omega)
        obtain ⟨h2, b1, b2, b3, b4, b5, b6, b7⟩ := n_stCopy (h := h1) (o := 10) (q := 119 + 13 * i) (by omega)
        have hbit : m.testBit i = true := by rw [(i3 i hi).1, hg]; rfl
        unfold f_Top_restore f_Past_forget f_Weeks_forget
        simp only [am_let]
        rw [if_neg (nI_pos (by omega)), if_pos (show nI i < (2 : Int32) from nI_lt (b := 2) hi (by decide)), i2, n_hasBit (by omega) (by omega), Option.bind_some, hbit, if_tt, n_el hi (by decide), Option.bind_some, a1, Option.bind_some, n_el hi (by decide), Option.bind_some, b1, Option.bind_some, Option.bind_some, Option.bind_some]
        generalize hx : am_sI (am_sI (am_sI h2 18 2 0) 91 8 0) 91 9 0 = z
        have z0 : ∀ a, a ≠ 18 → a ≠ 91 → z.2.1 a = h2.2.1 a := fun a q1 q2 => by rw [← hx, sI_row, if_neg q2, sI_row, if_neg q2, sI_row, if_neg q1]
        have z8 : z.2.1 91 8 = 0 := by rw [← hx, sI_row, if_pos rfl, up_n (by decide), sI_row, if_pos rfl, up_s]
        have z9 : z.2.1 91 9 = 0 := by rw [← hx, sI_row, if_pos rfl, up_s]
        have z18 : z.2.1 18 = va_up (h.2.1 18) 2 0 := by rw [← hx, sI_row, if_neg (by decide), sI_row, if_neg (by decide), sI_row, if_pos rfl, b3 18 (by omega), a3 18 (by omega)]
        have zJ : z.2.2 = h.2.2 := by rw [← hx]; show h2.2.2 = _; rw [b2, a2]
        have e1 : ∀ a, a ≠ 18 → a ≠ 91 → (a < 1 ∨ 13 < a) → z.2.1 a = h.2.1 a := fun a q1 q2 q3 => by rw [z0 a q1 q2, b3 a (by omega), a3 a (by omega)]
        have S1 : tR 1 q.1 z := Q1.mv hrq (fun k hk => by rw [z0 _ (by omega) (by omega), b3 _ (by omega), a4 k hk]) (fun k h3 h5 l hl => by rw [z0 _ (by omega) (by omega), b3 _ (by omega), a5 k h3 h5 l hl]) (fun k h3 h5 l hl => by rw [z0 _ (by omega) (by omega), b3 _ (by omega), a6 k h3 h5 l hl])
        have S2 : tS 10 q.1 q.2 z := (Q2.cg (h' := h1) (fun a _ _ => a3 a (by omega))).mv hrq (fun j hj => by rw [z0 _ (by omega) (by omega), b4 j hj]) (fun j hj => by rw [z0 _ (by omega) (by omega), b5 j hj]) (fun j hj => by rw [z0 _ (by omega) (by omega), b6 j hj]) (fun j hj => by rw [z0 _ (by omega) (by omega), b7 j hj])
        obtain ⟨e0, p1, p2, p3, p4⟩ := R3
        refine ⟨z, rfl, ⟨S1, S2, ⟨e0, p1, ?_, ?_, fun j hj => ?_⟩, ⟨m, i1, ?_, fun j hj => ⟨(i3 j hj).1, fun q hq => ⟨((i3 j hj).2 q hq).1.cg (fun a _ _ => e1 a (by omega) (by omega) (by omega)), ((i3 j hj).2 q hq).2.cg (fun a _ _ => e1 a (by omega) (by omega) (by omega))⟩⟩⟩, ⟨?_, ?_⟩, ⟨?_, ?_⟩, ?_, .inl z8, .inl z9, rf_id (by rw [zJ]) R10⟩, fun a ha => ⟨e1 a (by omega) (by omega) (by omega), by rw [zJ]⟩⟩
        · rw [z18, up_n (by decide)]; exact p2
        · rw [z18, up_s]; rfl
        · have hj' : j < 0 := hj
          omega
        · rw [e1 0 (by omega) (by omega) (by omega)]; exact i2
        · rw [e1 0 (by omega) (by omega) (by omega)]; exact t1
        · rw [e1 60 (by omega) (by omega) (by omega)]; exact t2
        · rw [e1 61 (by omega) (by omega) (by omega)]; exact u1
        · rw [e1 61 (by omega) (by omega) (by omega)]; exact u2
        · intro j hj
          rw [e1 (102 + 2 * j) (by omega) (by omega) (by omega), zJ]
          exact R7 j hj
      · obtain ⟨k0, MV⟩ := s0M M v hb
        have M1 := M.ke k0
        generalize hh1 : am_sI h' 136 0 0 = h1 at *
        obtain ⟨c, f1, f2, f3⟩ := lpc2 (fun m (a1 : Int32) (a2 : am_H) => f_Mod_restore_L32 (nI i) m a1 a2) 1137
          (fun t a1 a2 => a1 = nI t ∧ am_ex [137] h1 a2 ∧ ∀ j, a2.2.1 137 j = if j < t then h1.2.1 137 (1137 * (i + 1) + j) else h1.2.1 137 j)
          (fun c => am_ex [137] h1 c.2 ∧ ∀ j, c.2.2.1 137 j = if j < 1137 then h1.2.1 137 (1137 * (i + 1) + j) else h1.2.1 137 j)
          (fun m t a1 a2 ht hI => by
            obtain ⟨rfl, i2, i3⟩ := hI
            have ee : (1137 : Int32) * (nI i + 1) + nI t = nI (1137 * (i + 1) + t) := by
              have h1 : (1137 : Int32) * nI (i + 1) = nI (1137 * (i + 1)) := nI_mul 1137 _
              rw [nI_up, h1, nI_add]
            rw [f_Mod_restore_L32, if_neg (show ¬ (1137 : Int32) ≤ nI t from nI_ge (b := 1137) ht (by decide)), ee, n_rd (by omega) (by decide), Option.bind_some, n_wr (by omega) (by decide), Option.bind_some]
            refine ⟨_, _, rfl, nI_up, i2.tr (am_ex.sI (X := [137]) (by decide)) (fun _ z => z) (fun _ z => z), fun j => ?_⟩
            rw [sI_row, if_pos rfl]
            by_cases c : j = t
            · subst c
              rw [up_s, if_pos (by omega), i3, if_neg (by omega)]
            · rw [up_n c, i3]
              by_cases d : j < t
              · rw [if_pos d, if_pos (by omega)]
              · rw [if_neg d, if_neg (by omega)])
          (fun m a1 a2 hI => by
            obtain ⟨rfl, i2⟩ := hI
            rw [f_Mod_restore_L32, if_pos (show (1137 : Int32) ≤ nI 1137 by decide)]
            exact ⟨_, rfl, i2⟩) (by decide) 0 h1 ⟨rfl, am_ex.rf, fun j => by rw [if_neg (by omega)]⟩
        obtain ⟨N1, N2, ⟨P1, P2⟩, N4, N5, N6, N7⟩ := M1
        obtain ⟨s1, s2, s3⟩ := (N4 i hi).2 q hg
        unfold f_Mod_restore
        simp only [am_let]
        rw [hh1, e, Option.bind_some, if_tt, n_rd (by omega) (by decide), Option.bind_some, s1, if_neg (by decide), f1, Option.bind_some, wr_lit (by decide) (by decide), Option.bind_some]
        have rn : ∀ j, j ≠ 45 → j < 1137 → (am_sI c.2 137 45 0).2.1 137 j = h1.2.1 137 (1137 * (i + 1) + j) := fun j h2 h3 => by
          rw [sI_row, if_pos rfl, up_n h2, f3 j, if_pos h3]
        have rr : ∀ j, 1137 ≤ j → (am_sI c.2 137 45 0).2.1 137 j = h1.2.1 137 j := fun j h2 => by
          rw [sI_row, if_pos rfl, up_n (by omega), f3 j, if_neg (by omega)]
        have ro : ∀ a, a ≠ 137 → (am_sI c.2 137 45 0).2.1 a = h1.2.1 a := fun a h2 => by
          rw [sI_row, if_neg h2]; exact f2.2.2 a (by simpa using h2)
        have rJ : (am_sI c.2 137 45 0).2.2 = h1.2.2 := f2.2.1
        refine ⟨_, rfl, ⟨mR.cg2 hrq s2 (fun j hj => rn j (by omega) (by omega)), s3.mv hrq (fun j hj => by rw [rn _ (by omega) (by omega), ← Nat.add_assoc]), ⟨?_, fun k hk => ?_⟩, RM.cgI (g := g) (h := h1) (fun i hi q hq => (v.2.2.2.2.1 i hi q hq).1) N4 rr (ro 138 (by decide)), ⟨?_, ?_⟩, ⟨?_, ?_⟩, ?_⟩, k0.1.tr ⟨fun a ha => ⟨ro a (by omega), by rw [rJ]⟩, by rw [rJ]⟩⟩
        · rw [sI_row, if_pos rfl, up_s]; rfl
        · have hk' : k < 0 := hk
          omega
        · rw [ro 136 (by decide)]; exact N5.1
        · rw [ro 139 (by decide)]; exact N5.2
        · rw [ro 136 (by decide)]; exact N6.1
        · rw [ro 136 (by decide)]; exact N6.2
        · intro j hj
          rw [ro 158 (by decide), ro 159 (by decide), rJ]
          exact N7 j hj
  · refine st_same v T (-2) ?_ (fun h' M => ?_)
    · unfold f_Top_restore
      by_cases d : x < 0
      · rw [if_pos d]
      · rcases q with q | q
        · exact absurd q d
        · rw [if_neg d, if_neg q]
    · unfold f_Mod_restore
      simp only [am_let]
      rw [e, Option.bind_some, if_ff]
      exact ⟨_, rfl, keM.s0 (by decide)⟩
