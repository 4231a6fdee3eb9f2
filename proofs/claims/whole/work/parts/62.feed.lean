-- deps: 31.law 32.nat 33.bit 34.spec 35.riv 36.let 37.mod 38.mod 39.it 40.ahead 41.rel 42.ask 43.why 44.meet 45.err 46.err 47.wk 48.chg 50.ways 51.way 52.tray 54.past
/-! ===== feed ===== -/
def by8 (z : Int32) : Nat := (z &&& 255).toBitVec.toNat
theorem and255 (z : Int32) : (z &&& 255).toBitVec = z.toBitVec &&& 255#32 := rfl
theorem by8_lt (z : Int32) : by8 z < 256 := by
  unfold by8
  rw [and255, BitVec.toNat_and]
  exact Nat.lt_of_le_of_lt Nat.and_le_right (by decide)
theorem by8_n (z : Int32) : nI (by8 z) = z &&& 255 := by
  apply Int32.toBitVec_inj.mp
  rw [nI_bv]
  unfold by8
  rw [BitVec.ofNat_toNat, BitVec.setWidth_eq]
theorem by8_s (z : Int32) : (nI (by8 z)).toInt8 = z.toInt8 := by
  rw [by8_n]
  apply Int8.toBitVec_inj.mp
  rw [Int32.toBitVec_toInt8, Int32.toBitVec_toInt8, and255, BitVec.signExtend_eq_setWidth_of_le _ (by decide), BitVec.signExtend_eq_setWidth_of_le _ (by decide)]
  apply BitVec.eq_of_getLsbD_eq
  intro i hi
  have : ∀ i, i < 8 → (255#32).getLsbD i = true := by decide
  simp only [BitVec.getLsbD_setWidth, BitVec.getLsbD_and, this i hi, Bool.and_true]
theorem sb_8 (z : Int32) : vp_nar .byte (z.toInt8.toInt32) = sb (by8 z) := by
  unfold sb
  rw [by8_s]
  show (z.toInt8.toInt32).toInt8.toInt32 = _
  rw [Int8.toInt8_toInt32]
/-- the bytes of a number -/
def b4 (p : Int32) (k : Nat) : Int32 := p >>> (nI (24 - 8 * k) &&& 31)
theorem n_pb {h : am_H} {n : Nat} (p : Int32) (e : h.2.1 0 13 = nI n) (hn : n + 4 ≤ 900) : ∃ h', f_Top_putBytes p h = some h' ∧ am_ex [0, 60] h h' ∧ h'.2.1 0 = va_up (h.2.1 0) 13 (nI (n + 4)) ∧ ∀ j, h'.2.1 60 j = if n ≤ j ∧ j < n + 4 then sb (by8 (b4 p (j - n))) else h.2.1 60 j := by
  have L := lq2 (fun k (a1 : Int32) (a2 : am_H) => f_Top_putBytes_L3 p k a1 a2)
    (fun m a1 a2 => ∃ t, m + t = 4 ∧ a1 = (if t = 4 then -8 else nI (24 - 8 * t)) ∧ am_ex [0, 60] h a2 ∧ a2.2.1 0 = va_up (h.2.1 0) 13 (nI (n + t)) ∧ ∀ j, a2.2.1 60 j = if n ≤ j ∧ j < n + t then sb (by8 (b4 p (j - n))) else h.2.1 60 j)
    (fun c => am_ex [0, 60] h c.2 ∧ c.2.2.1 0 = va_up (h.2.1 0) 13 (nI (n + 4)) ∧ ∀ j, c.2.2.1 60 j = if n ≤ j ∧ j < n + 4 then sb (by8 (b4 p (j - n))) else h.2.1 60 j)
    (fun k m a1 a2 hI => by
      obtain ⟨t, h1, rfl, x1, r0, r60⟩ := hI
      rw [f_Top_putBytes_L3]
      by_cases c : t = 4
      · left
        subst c
        rw [if_pos rfl, if_pos (by decide)]
        exact ⟨_, rfl, x1, r0, r60⟩
      · right
        have e13 : a2.2.1 0 13 = nI (n + t) := by rw [r0, up_s]
        rw [if_neg c, if_neg (nI_pos (by omega)), e13, if_neg (show ¬ (900 : Int32) ≤ nI (n + t) from nI_ge (b := 900) (by omega) (by decide)), n_wr (by omega) (by decide), Option.bind_some]
        simp only [am_let]
        have e13' : ∀ x, (am_sI a2 60 (n + t) x).2.1 0 13 = nI (n + t) := fun x => by rw [sI_row, if_neg (by decide)]; exact e13
        rw [e13', nI_up]
        refine ⟨m - 1, _, _, by omega, rfl, t + 1, by omega, ?_, (x1.tr (am_ex.sI (X := [60]) (by decide)) (Z := [0, 60]) (fun _ z => z) (by decide)).tr (am_ex.sI (X := [0]) (by decide)) (fun _ z => z) (by decide), ?_, fun j => ?_⟩
        · rcases (show t = 0 ∨ t = 1 ∨ t = 2 ∨ t = 3 by omega) with rfl | rfl | rfl | rfl <;> decide
        · rw [sI_row, if_pos rfl, sI_row, if_neg (by decide), r0, up_up, Nat.add_assoc]
        · rw [sI_row, if_neg (by decide), sI_row, if_pos rfl]
          by_cases d : j = n + t
          · subst d
            rw [up_s, if_pos (by omega), show n + t - n = t by omega]
            exact sb_8 _
          · rw [up_n d, r60]
            by_cases q : n ≤ j ∧ j < n + t
            · rw [if_pos q, if_pos (by omega)]
            · rw [if_neg q, if_neg (by omega)])
  obtain ⟨c, f1, f2, f3, f4⟩ := L am_fu 4 24 h (by decide) ⟨0, rfl, by decide, am_ex.rf, by rw [Nat.add_zero, ← e, up_id], fun j => by rw [if_neg (by omega)]⟩
  unfold f_Top_putBytes
  rw [f1, Option.bind_some]
  exact ⟨_, rfl, f2, f3, f4⟩
def w5 (p1 p2 p3 p4 p5 : Int32) (t : Nat) : Int32 := if t < 4 then p1 else if t < 8 then p2 else if t < 12 then p3 else if t < 16 then p4 else p5
def by5 (p1 p2 p3 p4 p5 : Int32) (t : Nat) : Nat := by8 (b4 (w5 p1 p2 p3 p4 p5 t) (t % 4))
def gF (g : sG) (f : Nat → Nat) : sG := (g.1, g.2.1, (g.2.2.1.1 + 20, fun j => if g.2.2.1.1 ≤ j then f (j - g.2.2.1.1) else g.2.2.1.2 j), g.2.2.2)
theorem ok_feed (b : Nat) (hb : b ≤ 90000) (p1 p2 p3 p4 p5 : Int32) : ok2 b (f_Top_feed p1 p2 p3 p4 p5) (f_Mod_feed p1 p2 p3 p4 p5) := by
  refine ok2_st (fun g h v T M0 => ?_)
  have hn := v.2.2.2.2.2.1.1
  have eT : h.2.1 0 13 = nI g.2.2.1.1 := T.2.2.2.2.1.1
  have e20 : nI g.2.2.1.1 + (20 : Int32) = nI (g.2.2.1.1 + 20) := nI_add _ 20
  by_cases c : g.2.2.1.1 + 20 ≤ 900
  · have vv : VG (b + 48) (gF g (by5 p1 p2 p3 p4 p5)) := by
      have v2 := v.up (show b ≤ b + 48 by omega)
      refine ⟨v2.1, v2.2.1, v2.2.2.1, v2.2.2.2.1, v2.2.2.2.2.1, ⟨c, fun i hi => ?_⟩, v2.2.2.2.2.2.2⟩
      show (if g.2.2.1.1 ≤ i then by5 p1 p2 p3 p4 p5 (i - g.2.2.1.1) else g.2.2.1.2 i) < 256
      by_cases d : g.2.2.1.1 ≤ i
      · rw [if_pos d]; exact by8_lt _
      · rw [if_neg d]; exact v2.2.2.2.2.2.1.2 i (by omega)
    refine ⟨nI (g.2.2.1.1 + 20), gF g (by5 p1 p2 p3 p4 p5), vv, ?_, fun h' M => ?_⟩
    · generalize hN : g.2.2.1.1 = n at *
      obtain ⟨h1, a1, x1, r1, s1⟩ := n_pb p1 eT (by omega)
      obtain ⟨h2, a2, x2, r2, s2⟩ := n_pb (h := h1) (n := n + 4) p2 (by rw [r1, up_s]) (by omega)
      obtain ⟨h3, a3, x3, r3, s3⟩ := n_pb (h := h2) (n := n + 8) p3 (by rw [r2, up_s]) (by omega)
      obtain ⟨h4, a4, x4, r4, s4⟩ := n_pb (h := h3) (n := n + 12) p4 (by rw [r3, up_s]) (by omega)
      obtain ⟨h5, a5, x5, r5, s5⟩ := n_pb (h := h4) (n := n + 16) p5 (by rw [r4, up_s]) (by omega)
      have xx : am_ex [0, 60] h h5 := (((x1.tr x2 (Z := [0, 60]) (fun _ z => z) (fun _ z => z)).tr x3 (Z := [0, 60]) (fun _ z => z) (fun _ z => z)).tr x4 (Z := [0, 60]) (fun _ z => z) (fun _ z => z)).tr x5 (fun _ z => z) (fun _ z => z)
      have rr : h5.2.1 0 = va_up (h.2.1 0) 13 (nI (n + 20)) := by rw [r5, r4, r3, r2, r1, up_up, up_up, up_up, up_up]
      unfold f_Top_feed
      rw [eT, e20, if_pos (show nI (n + 20) ≤ (900 : Int32) from nI_le (b := 900) c (by decide)), a1, Option.bind_some, a2, Option.bind_some, a3, Option.bind_some, a4, Option.bind_some, a5, Option.bind_some, rr, up_s]
      obtain ⟨R1, R2, ⟨e0, q1, q2, q3, q4⟩, ⟨m, i1, i2, i3⟩, ⟨t1, t2⟩, ⟨u1, u2⟩, R7, R8, R9, R10⟩ := T
      have e : ∀ a, a ≠ 0 → a ≠ 60 → h5.2.1 a = h.2.1 a := fun a h1 h2 => xx.2.2 a (by simp; omega)
      refine ⟨h5, rfl, ⟨R1.cg (fun a _ _ => e a (by omega) (by omega)), R2.cg (fun a _ _ => e a (by omega) (by omega)), ⟨e0, q1, ?_, ?_, fun i hi => (q4 i hi).cg (fun a a1 a2 => e a (by omega) (by omega))⟩, ⟨m, i1, ?_, fun j hj => ⟨(i3 j hj).1, fun q hq => ⟨((i3 j hj).2 q hq).1.cg (fun a _ _ => e a (by omega) (by omega)), ((i3 j hj).2 q hq).2.cg (fun a _ _ => e a (by omega) (by omega))⟩⟩⟩, ⟨?_, fun i hi => ?_⟩, ⟨?_, ?_⟩, ?_, ?_, ?_, rf_id (by rw [xx.2.1]) R10⟩, xx.frT (by decide)⟩
      · rw [e 18 (by omega) (by omega)]; exact q2
      · rw [e 18 (by omega) (by omega)]; exact q3
      · rw [rr, up_n (by decide)]; exact i2
      · rw [rr, up_s]
        show _ = nI (g.2.2.1.1 + 20)
        rw [hN]
      · have hi' : i < g.2.2.1.1 + 20 := hi
        show _ = sb (if g.2.2.1.1 ≤ i then by5 p1 p2 p3 p4 p5 (i - g.2.2.1.1) else g.2.2.1.2 i)
        rw [hN] at hi' ⊢
        rw [s5, s4, s3, s2, s1]
        by_cases d0 : n ≤ i
        · rw [if_pos d0]
          unfold by5 w5
          by_cases d1 : i < n + 4
          · rw [if_neg (by omega), if_neg (by omega), if_neg (by omega), if_neg (by omega), if_pos (by omega), if_pos (by omega), show (i - n) % 4 = i - n by omega]
          · by_cases d2 : i < n + 8
            · rw [if_neg (by omega), if_neg (by omega), if_neg (by omega), if_pos (by omega), if_neg (by omega), if_pos (by omega), show (i - n) % 4 = i - (n + 4) by omega]
            · by_cases d3 : i < n + 12
              · rw [if_neg (by omega), if_neg (by omega), if_pos (by omega), if_neg (by omega), if_neg (by omega), if_pos (by omega), show (i - n) % 4 = i - (n + 8) by omega]
              · by_cases d4 : i < n + 16
                · rw [if_neg (by omega), if_pos (by omega), if_neg (by omega), if_neg (by omega), if_neg (by omega), if_pos (by omega), show (i - n) % 4 = i - (n + 12) by omega]
                · rw [if_pos (by omega), if_neg (by omega), if_neg (by omega), if_neg (by omega), if_neg (by omega), show (i - n) % 4 = i - (n + 16) by omega]
        · rw [if_neg d0, if_neg (by omega), if_neg (by omega), if_neg (by omega), if_neg (by omega), if_neg (by omega)]
          exact t2 i (by omega)
      · rw [e 61 (by omega) (by omega)]; exact u1
      · rw [e 61 (by omega) (by omega)]; exact u2
      · intro i hi
        rw [e (102 + 2 * i) (by omega) (by omega), xx.2.1]
        exact R7 i hi
      · unfold tBest; rw [e 91 (by omega) (by omega), e 93 (by omega) (by omega)]; exact R8
      · unfold tGood; rw [e 91 (by omega) (by omega)]; exact R9
    · obtain ⟨k0, MV⟩ := s0M M v hb
      have M1 := M.ke k0
      generalize hh1 : am_sI h' 136 0 0 = h1 at *
      obtain ⟨N1, N2, N3, N4, N5, N6, N7⟩ := M1
      generalize hN : g.2.2.1.1 = n at *
      have e5 : h1.2.1 136 5 = nI n := by rw [← hN]; exact N5.1
      obtain ⟨d, f1, f2, f3, f4⟩ := lpc2 (fun k (a1 : Int32) (a2 : am_H) => f_Mod_feed_L24 p1 p2 p3 p4 p5 k a1 a2) 20
        (fun t a1 a2 => a1 = nI t ∧ am_ex [136, 139] h1 a2 ∧ a2.2.1 136 = va_up (h1.2.1 136) 5 (nI (n + t)) ∧ ∀ j, a2.2.1 139 j = if n ≤ j ∧ j < n + t then nI (by5 p1 p2 p3 p4 p5 (j - n)) else h1.2.1 139 j)
        (fun d => am_ex [136, 139] h1 d.2 ∧ d.2.2.1 136 = va_up (h1.2.1 136) 5 (nI (n + 20)) ∧ ∀ j, d.2.2.1 139 j = if n ≤ j ∧ j < n + 20 then nI (by5 p1 p2 p3 p4 p5 (j - n)) else h1.2.1 139 j)
        (fun k t a1 a2 ht hI => by
          obtain ⟨rfl, x1, r1, s1⟩ := hI
          have e5 : a2.2.1 136 5 = nI (n + t) := by rw [r1, up_s]
          have hw : (if (4 : Int32) ≤ nI t then (if (8 : Int32) ≤ nI t then (if (12 : Int32) ≤ nI t then (if (16 : Int32) ≤ nI t then p5 else p4) else p3) else p2) else p1) = w5 p1 p2 p3 p4 p5 t := by
            unfold w5
            have q : ∀ k, k ≤ 16 → (nI k ≤ nI t) = (k ≤ t) := fun k hk => nI_leP (by omega) (by omega)
            have q4 : ((4 : Int32) ≤ nI t) = (4 ≤ t) := q 4 (by omega)
            have q8 : ((8 : Int32) ≤ nI t) = (8 ≤ t) := q 8 (by omega)
            have q12 : ((12 : Int32) ≤ nI t) = (12 ≤ t) := q 12 (by omega)
            have q16 : ((16 : Int32) ≤ nI t) = (16 ≤ t) := q 16 (by omega)
            simp only [q4, q8, q12, q16]
            by_cases c1 : t < 4
            · rw [if_neg (by omega), if_pos c1]
            · rw [if_pos (by omega), if_neg c1]
              by_cases c2 : t < 8
              · rw [if_neg (by omega), if_pos c2]
              · rw [if_pos (by omega), if_neg c2]
                by_cases c3 : t < 12
                · rw [if_neg (by omega), if_pos c3]
                · rw [if_pos (by omega), if_neg c3]
                  by_cases c4 : t < 16
                  · rw [if_neg (by omega), if_pos c4]
                  · rw [if_pos (by omega), if_neg c4]
          have hs : (24 : Int32) - (8 : Int32) * (nI t - nI t / (4 : Int32) * (4 : Int32)) = nI (24 - 8 * (t % 4)) := by
            have : ∀ t, t < 20 → (24 : Int32) - (8 : Int32) * (nI t - nI t / (4 : Int32) * (4 : Int32)) = nI (24 - 8 * (t % 4)) := by decide
            exact this t ht
          rw [f_Mod_feed_L24, if_neg (show ¬ (20 : Int32) ≤ nI t from nI_ge (b := 20) ht (by decide))]
          simp only [am_let]
          rw [hw, hs, e5, n_wr (by omega) (by decide), Option.bind_some]
          have e5' : ∀ x, (am_sI a2 139 (n + t) x).2.1 136 5 = nI (n + t) := fun x => by rw [sI_row, if_neg (by decide)]; exact e5
          rw [e5', nI_up, nI_up]
          refine ⟨_, _, rfl, rfl, (x1.tr (am_ex.sI (X := [139]) (by decide)) (Z := [136, 139]) (fun _ z => z) (by decide)).tr (am_ex.sI (X := [136]) (by decide)) (fun _ z => z) (by decide), ?_, fun j => ?_⟩
          · rw [sI_row, if_pos rfl, sI_row, if_neg (by decide), r1, up_up, Nat.add_assoc]
          · rw [sI_row, if_neg (by decide), sI_row, if_pos rfl]
            by_cases d : j = n + t
            · subst d
              rw [up_s, if_pos (by omega), show n + t - n = t by omega]
              unfold by5
              rw [by8_n]
              rfl
            · rw [up_n d, s1]
              by_cases q : n ≤ j ∧ j < n + t
              · rw [if_pos q, if_pos (by omega)]
              · rw [if_neg q, if_neg (by omega)])
        (fun k a1 a2 hI => by
          obtain ⟨rfl, x1⟩ := hI
          rw [f_Mod_feed_L24, if_pos (show (20 : Int32) ≤ nI 20 by decide)]
          exact ⟨_, rfl, x1⟩) (by decide) 0 h1 ⟨rfl, am_ex.rf, by rw [Nat.add_zero, ← e5, up_id], fun j => by rw [if_neg (by omega)]⟩
      unfold f_Mod_feed
      simp only [am_let]
      rw [hh1, e5, e20, if_pos (show nI (n + 20) ≤ (900 : Int32) from nI_le (b := 900) c (by decide)), f1, Option.bind_some, f3, up_s]
      have ro : ∀ a, a ≠ 136 → a ≠ 139 → d.2.2.1 a = h1.2.1 a := fun a h2 h3 => f2.2.2 a (by simp; omega)
      have rJ : d.2.2.2 = h1.2.2 := f2.2.1
      refine ⟨_, rfl, ⟨by rw [ro 137 (by decide) (by decide)]; exact N1, by rw [ro 137 (by decide) (by decide)]; exact N2, by rw [ro 137 (by decide) (by decide)]; exact N3, by unfold mImg; rw [ro 137 (by decide) (by decide), ro 138 (by decide) (by decide)]; exact N4, ⟨?_, fun i hi => ?_⟩, ⟨?_, ?_⟩, ?_⟩, k0.1.tr (f2.frM (by decide))⟩
      · rw [f3, up_s]
        show _ = nI (g.2.2.1.1 + 20)
        rw [hN]
      · have hi' : i < g.2.2.1.1 + 20 := hi
        show _ = nI (if g.2.2.1.1 ≤ i then by5 p1 p2 p3 p4 p5 (i - g.2.2.1.1) else g.2.2.1.2 i)
        rw [hN] at hi' ⊢
        rw [f4]
        by_cases q : n ≤ i
        · rw [if_pos (by omega), if_pos q]
        · rw [if_neg (by omega), if_neg q]
          exact N5.2 i (by omega)
      · rw [f3, up_n (by decide)]; exact N6.1
      · rw [f3, up_n (by decide)]; exact N6.2
      · intro i hi
        rw [ro 158 (by decide) (by decide), ro 159 (by decide) (by decide), rJ]
        exact N7 i hi
  · refine st_same v T (-5) ?_ (fun h' M => ?_)
    · unfold f_Top_feed
      rw [eT, e20, if_neg (show ¬ nI (g.2.2.1.1 + 20) ≤ (900 : Int32) from nI_ge (a := 900) (by omega) (by omega))]
    · obtain ⟨k0, MV⟩ := s0M M v hb
      have M1 := M.ke k0
      have e5 : (am_sI h' 136 0 0).2.1 136 5 = nI g.2.2.1.1 := M1.2.2.2.2.1.1
      unfold f_Mod_feed
      simp only [am_let]
      rw [e5, e20, if_neg (show ¬ nI (g.2.2.1.1 + 20) ≤ (900 : Int32) from nI_ge (a := 900) (by omega) (by omega))]
      exact ⟨_, rfl, k0⟩
