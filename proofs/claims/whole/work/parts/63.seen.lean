-- deps: 31.law 32.nat 33.bit 34.spec 35.riv 36.let 37.mod 38.mod 39.it 40.ahead 41.rel 42.ask 43.why 44.meet 45.err 46.err 47.wk 48.chg 50.ways 51.way 52.tray 54.past 55.hour 56.act 57.undo 59.deed 60.judge
/-! ===== sightings ===== -/
def alS (G : Nat) : Nat := ((1 <<< (2 * G)) - 1) ||| 256
theorem alS_lt {G : Nat} (hG : 2 ≤ G ∧ G ≤ 4) : alS G < 512 := by
  rcases (show G = 2 ∨ G = 3 ∨ G = 4 by omega) with rfl | rfl | rfl <;> decide
theorem alS_t {G : Nat} (hG : 2 ≤ G ∧ G ≤ 4) (j : Nat) : (alS G).testBit j = decide (j = 8 ∨ j < 2 * G) := by
  by_cases c : j < 9
  · have : ∀ G, 2 ≤ G ∧ G ≤ 4 → ∀ j, j < 9 → (alS G).testBit j = decide (j = 8 ∨ j < 2 * G) := by
      intro G hG
      rcases (show G = 2 ∨ G = 3 ∨ G = 4 by omega) with rfl | rfl | rfl <;> decide
    exact this G hG j c
  · rw [Nat.testBit_lt_two_pow (Nat.lt_of_lt_of_le (alS_lt hG) (Nat.pow_le_pow_right (n := 2) (i := 9) (by omega) (by omega)))]
    symm
    exact decide_eq_false (by omega)
theorem alS_v {G : Nat} (hG : 2 ≤ G ∧ G ≤ 4) : vSet G (alS G) := fun j hj => by
  rw [alS_t hG, decide_eq_true_eq] at hj
  exact hj
theorem and_al {G s : Nat} (hG : 2 ≤ G ∧ G ≤ 4) (hs : vSet G s) : s &&& alS G = s := by
  apply Nat.eq_of_testBit_eq
  intro j
  rw [Nat.testBit_and, alS_t hG]
  cases h : s.testBit j with
  | false => rfl
  | true => rw [Bool.true_and]; exact decide_eq_true (hs j h)
theorem n_allSpots {h : am_H} {r : sR} {s : sS} (V : tV h r s) : f_River_allSpots 1 h = some (nI (alS (rG r))) := by
  have hG := V.hG
  unfold f_River_allSpots
  rw [V.g]
  have : ∀ G, 2 ≤ G → G ≤ 4 → (((1 : Int32) <<< (((2 : Int32) * nI G) &&& 31)) - (1 : Int32)) ||| (256 : Int32) = nI (alS G) := by
    intro G h1 h2
    rcases (show G = 2 ∨ G = 3 ∨ G = 4 by omega) with rfl | rfl | rfl <;> decide
  rw [this _ hG.1 hG.2]
def sn (r : sR) : Option Nat → Nat
  | none => alS (rG r)
  | some x => 1 <<< x
def fb (r : sR) (s : sS) (p : Nat) (wk : Nat → Option Nat) (f : Nat → Option Nat) : Nat → Nat → Nat → Option Nat
  | 0, _, _ => none
  | m + 1, j, c => if c &&& sn r (f j) = 0 then some j else fb r s p wk f m (j + 1) (stp r s wk p j (c &&& sn r (f j)))
theorem fb_w {r : sR} {s : sS} {p : Nat} {w wk : Nat → Option Nat} {f : Nat → Option Nat} : ∀ m j c, fb r (sWk s w) p wk f m j c = fb r s p wk f m j c
  | 0, _, _ => rfl
  | m + 1, j, c => by
    rw [fb, fb]
    have : stp r (sWk s w) wk p j (c &&& sn r (f j)) = stp r s wk p j (c &&& sn r (f j)) := rfl
    rw [this, fb_w m]
theorem fb_le {r : sR} {s : sS} {p : Nat} {wk : Nat → Option Nat} {f : Nat → Option Nat} : ∀ m j c k, fb r s p wk f m j c = some k → k < j + m
  | 0, _, _, _, h => by cases h
  | m + 1, j, c, k, h => by
    rw [fb] at h
    split at h
    · cases h; omega
    · have := fb_le m _ _ _ h; omega
def oks (r : sR) (d : Int64) : Bool := decide (d.toInt = -1) || decide (0 ≤ d.toInt ∧ d.toInt ≤ 8 ∧ (d.toInt.toNat = 8 ∨ d.toInt.toNat < 2 * rG r))
def sof (d : Int64) : Option Nat := if d.toInt = -1 then none else some d.toInt.toNat
theorem oks_v {r : sR} {d : Int64} (h : oks r d = true) : ∀ x, sof d = some x → vSp (rG r) x ∧ x ≤ 8 ∧ d = lN x := fun x hx => by
  unfold oks at h
  unfold sof at hx
  rw [Bool.or_eq_true, decide_eq_true_eq, decide_eq_true_eq] at h
  by_cases c : d.toInt = -1
  · rw [if_pos c] at hx; cases hx
  · rw [if_neg c] at hx
    cases hx
    rcases h with h | ⟨h1, h2, h3⟩
    · exact absurd h c
    · exact ⟨h3, by omega, of_i64 h1 (by omega)⟩
def tkc (r : sR) (q : Nat × Nat × (Nat → Int64)) : Int32 := if q.2.1 < 1 ∨ 12 < q.2.1 then -4 else if (ff (fun j => !oks r (q.2.2 j)) 0 q.2.1).isSome then -3 else 0
theorem tkc_0 {r : sR} {q : Nat × Nat × (Nat → Int64)} (h : tkc r q = 0) : q.2.1 ≤ 12 ∧ ∀ j, j < q.2.1 → oks r (q.2.2 j) = true := by
  unfold tkc at h
  by_cases c : q.2.1 < 1 ∨ 12 < q.2.1
  · rw [if_pos c] at h; exact absurd h (by decide)
  · rw [if_neg c] at h
    cases hf : ff (fun j => !oks r (q.2.2 j)) 0 q.2.1 with
    | some _ =>
      rw [hf] at h
      have h' : (-3 : Int32) = 0 := h
      exact absurd h' (by decide)
    | none =>
      refine ⟨by omega, fun j hj => ?_⟩
      have := ff_none hf j (by omega) (by omega)
      simpa using this
theorem hasSpot_t {h : am_H} {r : sR} {s : sS} {x : Nat} (V : tV h r s) (hx : x ≤ 8) : f_River_hasSpot 1 (nI x) h = some (decide (x = 8 ∨ x < 2 * rG r)) := by
  have hG := V.hG
  have e2 : (2 : Int32) * nI (rG r) = nI (2 * rG r) := nI_mul 2 _
  unfold f_River_hasSpot
  rw [V.g, e2]
  by_cases c : x = 8
  · rw [if_pos (by rw [c]; rfl)]; simp [c]
  · rw [if_neg (show ¬ nI x = (8 : Int32) from fun q => c ((nI_eq (b := 8) (by omega) (by decide)).mp q)), if_neg (nI_pos (by omega))]
    by_cases d : x < 2 * rG r
    · rw [if_neg (nI_ge d (by omega))]; simp [d]
    · rw [if_pos (nI_le (by omega) (by omega))]; simp [c, d]
theorem n_take {b : Nat} {g : sG} {h : am_H} {i : Nat} {q : Nat × Nat × (Nat → Int64)} (v : VG b g) (hb : b ≤ 90000) (R : RT g h) (hi : i < 4) (hq : g.2.2.2.2 i = some q) :
    ∃ h', f_Sightings_take (102 + 2 * i) h = some (tkc g.1.1 q, h') ∧ am_ex [96, 97] h h' ∧ (tkc g.1.1 q = 0 → h'.2.1 96 4 = nI q.2.1 ∧ ∀ j, j < q.2.1 → h'.2.1 97 j = nI (sn g.1.1 (sof (q.2.2 j)))) := by
  have TV := R.tV v (by omega)
  have hG := TV.hG
  obtain ⟨q1, q2⟩ := v.tr i hi q hq
  obtain ⟨c1, c2, c3, c4⟩ := (R.tr i hi).2 q hq
  unfold f_Sightings_take
  rw [c1, c2, if_neg (by decide)]
  by_cases c : q.2.1 < 1 ∨ 12 < q.2.1
  · have hk : tkc g.1.1 q = -4 := by unfold tkc; rw [if_pos c]
    refine ⟨h, ?_, am_ex.rf, fun z => absurd (hk.symm.trans z) (by decide)⟩
    rw [hk]
    by_cases d : q.2.1 < 1
    · rw [if_pos (show nI q.2.1 < (1 : Int32) from nI_lt (b := 1) d (by decide))]
    · rw [if_neg (show ¬ nI q.2.1 < (1 : Int32) from nI_nlt (b := 1) (by omega) (by omega)), if_neg (show ¬ nI q.2.1 ≤ (12 : Int32) from nI_ge (a := 12) (by omega) (by omega))]
  · rw [if_neg (show ¬ nI q.2.1 < (1 : Int32) from nI_nlt (b := 1) (by omega) (by omega)), if_pos (show nI q.2.1 ≤ (12 : Int32) from nI_le (b := 12) (by omega) (by decide))]
    generalize hres : ff (fun j => !oks g.1.1 (q.2.2 j)) 0 q.2.1 = res
    have hk : tkc g.1.1 q = if res.isSome then -3 else 0 := by unfold tkc; rw [if_neg c, hres]
    have L := lq2 (fun k (a1 : Int32) (a2 : am_H) => f_Sightings_take_L32 (102 + 2 * i) k a1 a2)
      (fun m a1 a2 => ∃ j, m + j = q.2.1 ∧ a1 = nI j ∧ am_ex [96, 97] h a2 ∧ (∀ t, t < j → a2.2.1 97 t = nI (sn g.1.1 (sof (q.2.2 t)))) ∧ ff (fun j => !oks g.1.1 (q.2.2 j)) j m = res)
      (fun d => d.1 = (if res.isSome then -3 else 0) ∧ am_ex [96, 97] h d.2 ∧ (res = none → d.2.2.1 96 4 = nI q.2.1 ∧ ∀ t, t < q.2.1 → d.2.2.1 97 t = nI (sn g.1.1 (sof (q.2.2 t)))))
      (fun k m a1 a2 hI => by
        obtain ⟨j, h1, rfl, x1, r1, f1⟩ := hI
        have e1 : a2.2.1 (102 + 2 * i) 1 = nI q.2.1 := by rw [x1.2.2 _ (by simp; omega)]; exact c2
        have V2 := TV.ex x1 (by decide)
        rw [f_Sightings_take_L32, e1]
        by_cases cj : j < q.2.1
        · obtain ⟨m, rfl⟩ : ∃ m', m = m' + 1 := ⟨m - 1, by omega⟩
          have ea : f_Tray_at (102 + 2 * i) (nI j) a2 = some (q.2.2 j) := by
            unfold f_Tray_at
            rw [if_neg (nI_pos (by omega)), if_neg (show ¬ Int32.ofNat 40 ≤ nI j from nI_ge (b := 40) (by omega) (by decide)), n_rd (by omega) (by decide), Option.bind_some, x1.2.1, show 102 + 2 * i + 1 = 103 + 2 * i by omega, c4 j cj]
          have l8 : (8 : Int64).toInt = 8 := by decide
          rw [if_neg (nI_ge cj (by omega)), ea, Option.bind_some]
          simp only [cq_lt, cq_gt, cq_eq, l_n1, l8]
          rw [ff] at f1
          have bad : oks g.1.1 (q.2.2 j) = false → res = some j := fun z => by
            rw [if_pos (by rw [z]; rfl)] at f1
            exact f1.symm
          have stop : oks g.1.1 (q.2.2 j) = false → ∃ b, (some ((-3 : Int32), a2) : Option (Int32 × am_H)) = some b ∧ b.1 = (if res.isSome then -3 else 0) ∧ am_ex [96, 97] h b.2 ∧ (res = none → b.2.2.1 96 4 = nI q.2.1 ∧ ∀ t, t < q.2.1 → b.2.2.1 97 t = nI (sn g.1.1 (sof (q.2.2 t)))) := fun z => by
            refine ⟨_, rfl, by rw [bad z]; rfl, x1, fun y => ?_⟩
            rw [bad z] at y; cases y
          have on : ∀ x, x = nI (sn g.1.1 (sof (q.2.2 j))) → oks g.1.1 (q.2.2 j) = true → ∃ m' b1 b2, m' < m + 1 ∧ ((am_wr a2 97 12 (nI j) x).bind fun h13 => f_Sightings_take_L32 (102 + 2 * i) k (nI j + 1) h13) = f_Sightings_take_L32 (102 + 2 * i) k b1 b2 ∧ ∃ j, m' + j = q.2.1 ∧ b1 = nI j ∧ am_ex [96, 97] h b2 ∧ (∀ t, t < j → b2.2.1 97 t = nI (sn g.1.1 (sof (q.2.2 t)))) ∧ ff (fun j => !oks g.1.1 (q.2.2 j)) j m' = res := fun x hx ho => by
            rw [n_wr (by omega) (by decide), Option.bind_some]
            rw [if_neg (by rw [ho]; decide)] at f1
            refine ⟨m, _, _, by omega, rfl, j + 1, by omega, nI_up, x1.tr (am_ex.sI (X := [97]) (by decide)) (fun _ z => z) (by decide), fun t ht => ?_, f1⟩
            rw [sI_row, if_pos rfl]
            by_cases d : t = j
            · subst d; rw [up_s]; exact hx
            · rw [up_n d]; exact r1 t (by omega)
          by_cases d1 : (q.2.2 j).toInt < -1
          · left
            rw [if_pos d1]
            exact stop (by unfold oks; simp; omega)
          · rw [if_neg d1]
            by_cases d2 : 8 < (q.2.2 j).toInt
            · left
              rw [if_pos d2]
              exact stop (by unfold oks; simp; omega)
            · rw [if_neg d2]
              by_cases d3 : (q.2.2 j).toInt = -1
              · right
                have hs : sof (q.2.2 j) = none := by unfold sof; rw [if_pos d3]
                simp only [if_pos d3]
                rw [n_allSpots V2, Option.bind_some, Option.bind_some]
                exact on _ (by rw [hs]; rfl) (by unfold oks; simp [d3])
              · have hs : sof (q.2.2 j) = some (q.2.2 j).toInt.toNat := by unfold sof; rw [if_neg d3]
                have e0 := of_i64 (d := q.2.2 j) (by omega) (by omega)
                have e2 : (q.2.2 j).toInt32 = nI (q.2.2 j).toInt.toNat := by rw [e0, lN_i, lN_toInt (by omega)]; congr 1
                simp only [if_neg d3]
                rw [e2, hasSpot_t V2 (by omega), Option.bind_some, shl1 (by omega), Option.bind_some]
                by_cases d4 : (q.2.2 j).toInt.toNat = 8 ∨ (q.2.2 j).toInt.toNat < 2 * rG g.1.1
                · right
                  rw [if_pos (by simpa using d4)]
                  exact on _ (by rw [hs]; rfl) (by unfold oks; rw [Bool.or_eq_true, decide_eq_true_eq, decide_eq_true_eq]; exact .inr ⟨by omega, by omega, d4⟩)
                · left
                  rw [if_neg (by simpa using d4)]
                  exact stop (by
                    unfold oks
                    rw [Bool.or_eq_false_iff, decide_eq_false_iff_not, decide_eq_false_iff_not]
                    exact ⟨d3, fun z => d4 z.2.2⟩)
        · left
          have hm : m = 0 := by omega
          have hj : j = q.2.1 := by omega
          subst hm
          rw [ff] at f1
          rw [if_pos (nI_le (by omega) (by omega))]
          simp only [am_let]
          refine ⟨_, rfl, by rw [← f1]; rfl, x1.tr (am_ex.sI (X := [96]) (by decide)) (fun _ z => z) (by decide), fun _ => ⟨?_, fun t ht => ?_⟩⟩
          · rw [sI_row, if_pos rfl, up_s]
          · rw [sI_row, if_neg (by decide)]; exact r1 t (by omega))
    obtain ⟨d, f1, f2, f3, f4⟩ := L am_fu q.2.1 (nI 0) h (by unfold am_fu; omega) ⟨0, by omega, rfl, am_ex.rf, fun t ht => by omega, hres⟩
    obtain ⟨d1, d2⟩ := d
    simp only at f2 f3 f4
    have f1' : f_Sightings_take_L32 (102 + 2 * i) am_fu 0 h = some (d1, d2) := f1
    refine ⟨d2, by rw [f1', f2, hk], f3, fun z => f4 ?_⟩
    cases res with
    | none => rfl
    | some _ =>
      rw [hk] at z
      have h' : (-3 : Int32) = 0 := z
      exact absurd h' (by decide)
theorem n_fb {h : am_H} {r : sR} {s : sS} {q p n : Nat} {wk : Nat → Option Nat} {f : Nat → Option Nat} (V : tV h r s) (T : tW h q r wk) (hp : p < rP r) (hn : n ≤ 12) (e4 : h.2.1 96 4 = nI n) (e97 : ∀ j, j < n → h.2.1 97 j = nI (sn r (f j))) (hf : ∀ j, j < n → ∀ x, f j = some x → vSp (rG r) x) :
    f_Sightings_firstBreak (nI p) q 6 h = some (oI (fb r s p wk f n 0 (alS (rG r)))) := by
  have hG := V.hG
  have hW := V.hW
  have hH := V.hH
  have hF := V.hF
  generalize hres : fb r s p wk f n 0 (alS (rG r)) = res
  have L := lq2 (fun k (a1 : Int32) (a2 : Int32) => f_Sightings_firstBreak_L11 (nI p) q 6 k a1 a2 h)
    (fun m a1 a2 => ∃ j c, m + j = n ∧ a1 = nI c ∧ a2 = nI j ∧ vSet (rG r) c ∧ fb r s p wk f m j c = res)
    (fun d => d = oI res)
    (fun k m a1 a2 hI => by
      obtain ⟨j, c, h1, rfl, rfl, hc, d1⟩ := hI
      have hc5 := hc.lt hG.2
      rw [f_Sightings_firstBreak_L11, e4]
      by_cases cj : j < n
      · obtain ⟨m, rfl⟩ : ∃ m', m = m' + 1 := ⟨m - 1, by omega⟩
        have hm : (sH s + j) % rW r < rW r := Nat.mod_lt _ (by omega)
        have hfg : (if nI (sF s) ≤ nI j then (0 : Int32) else (1 : Int32)) = nI (fg s j) := by
          unfold fg
          by_cases d : j < sF s
          · rw [if_pos d, if_neg (nI_ge d (by omega))]; rfl
          · rw [if_neg d, if_pos (nI_le (by omega) (by omega))]; rfl
        have hv : vSet (rG r) (c &&& sn r (f j)) := fun y hy => by
          rw [Nat.testBit_and, Bool.and_eq_true] at hy
          exact hc y hy.1
        rw [if_neg (nI_ge cj (by omega)), n_rd (by omega) (by decide), Option.bind_some, e97 j cj]
        rw [fb] at d1
        simp only [nI_and0 (show c < 2 ^ 31 by omega)]
        by_cases d : c &&& sn r (f j) = 0
        · left
          rw [if_pos d] at d1 ⊢
          exact ⟨_, rfl, by rw [← d1]; rfl⟩
        · right
          rw [if_neg d] at d1 ⊢
          have esp : f_River_spread 1 (nI (12 * p + 2 * ((sH s + j) % rW r) + fg s j)) (nI (c &&& sn r (f j))) (oI (wk ((sH s + j) % rW r))) h = some (nI (stp r s wk p j (c &&& sn r (f j)))) := n_spread V.1 V.2.2.1 hp hm (fg_lt _ _) (hv.lt hG.2) (T.1 _ hm)
          rw [V.ho, V.fo, hfg, nI_add, n_hourOfWeek V.1 V.2.2.1 (by omega), Option.bind_some, n_row (fg_lt _ _), Option.bind_some, n_rd (by omega) (by decide), Option.bind_some, T.2 _ hm, nI_and, esp, Option.bind_some]
          exact ⟨m, _, _, by omega, rfl, j + 1, _, by omega, rfl, nI_up, stp_v V.1 T.1 hv, d1⟩
      · left
        have hm : m = 0 := by omega
        subst hm
        rw [fb] at d1
        rw [if_pos (nI_le (by omega) (by omega))]
        exact ⟨_, rfl, by rw [← d1]; rfl⟩)
  obtain ⟨d, f1, f2⟩ := L am_fu n (nI (alS (rG r))) (nI 0) (by unfold am_fu; omega) ⟨0, _, by omega, rfl, rfl, alS_v hG, hres⟩
  have f1' : f_Sightings_firstBreak_L11 (nI p) q 6 am_fu (nI (alS (rG r))) 0 h = some d := f1
  unfold f_Sightings_firstBreak
  rw [n_allSpots V, Option.bind_some, f1', f2]
/-! the reference -/
theorem go_al {r : sR} {s : sS} {wk : Nat → Option Nat} {p n : Nat} (hr : vR r) (hw : vW r wk) : stp r s wk p n (alS (rG r)) = alS (rG r) := by
  have hG := hr.1
  apply Nat.eq_of_testBit_eq
  intro j
  have h1 := stp_v (s := s) (p := p) (n := n) hr hw (alS_v hG) j
  cases h : (stp r s wk p n (alS (rG r))).testBit j with
  | true =>
    rw [alS_t hG]
    symm
    exact decide_eq_true (h1 h)
  | false =>
    cases h2 : (alS (rG r)).testBit j with
    | false => rfl
    | true =>
      have : (stp r s wk p n (alS (rG r))).testBit j = true := go_sub h2
      rw [h] at this
      cases this
theorem ne0_bit {x : Nat} (h : x ≠ 0) : ∃ i, x.testBit i = true := by
  apply Classical.byContradiction
  intro c
  apply h
  apply Nat.eq_of_testBit_eq
  intro i
  rw [Nat.zero_testBit]
  cases q : x.testBit i with
  | false => rfl
  | true => exact absurd ⟨i, q⟩ c
theorem bit_ne0 {x i : Nat} (h : x.testBit i = true) : x ≠ 0 := fun c => by
  rw [c, Nat.zero_testBit] at h
  cases h
theorem stp_ne {r : sR} {s : sS} {wk : Nat → Option Nat} {p n u : Nat} (h : u ≠ 0) : stp r s wk p n u ≠ 0 := by
  obtain ⟨i, hi⟩ := ne0_bit h
  exact bit_ne0 (i := i) (go_sub hi)
theorem one_ne {y : Nat} : 1 <<< y ≠ 0 := bit_ne0 (i := y) (by rw [Nat.one_shiftLeft, Nat.testBit_two_pow]; simp)
theorem alS_ne {G : Nat} : alS G ≠ 0 := bit_ne0 (i := 8) (by
  unfold alS
  rw [Nat.testBit_or]
  have : (256 : Nat).testBit 8 = true := by decide
  rw [this, Bool.or_true])
theorem isSpot_l {h : am_H} {r : sR} {s : sS} {d : Int64} (V : mV (h.2.1 137) r s) (h1 : d.toInt ≠ -1) : f_Mod_isSpot d h = some (oks r d) := by
  have hG := V.hG
  have e2 : (2 : Int32) * nI (rG r) = nI (2 * rG r) := nI_mul 2 _
  have e3 : ((nI (2 * rG r) - (1 : Int32)).toInt64).toInt = (2 * rG r : Nat) - 1 := by
    have : nI (2 * rG r) - (1 : Int32) = nI (2 * rG r - 1) := nI_sub (b := 1) (by omega)
    rw [this, nI_l (by omega), lN_toInt (by omega)]
    omega
  have l8 : (8 : Int64).toInt = 8 := by decide
  unfold f_Mod_isSpot
  simp only [cq_eq, l8, wi_t, l_0, Option.bind_some, rd_lit (show (1 : Nat) < 3411 by decide) (show 3411 < 2 ^ 31 by decide), V.g, e2, e3]
  unfold oks
  by_cases c : d.toInt = 8
  · rw [if_pos c]
    simp [c]
  · rw [if_neg c]
    by_cases q : 0 ≤ d.toInt ∧ d.toInt ≤ (2 * rG r : Nat) - 1
    · rw [if_pos (by simpa using q)]
      congr 1
      symm
      rw [Bool.or_eq_true, decide_eq_true_eq, decide_eq_true_eq]
      right
      omega
    · rw [if_neg (by simpa using q)]
      congr 1
      symm
      rw [Bool.or_eq_false_iff, decide_eq_false_iff_not, decide_eq_false_iff_not]
      omega
theorem n_noSeen {b : Nat} {g : sG} {h : am_H} {i p : Nat} {q : Nat × Nat × (Nat → Int64)} (v : VG b g) (hb : b ≤ 90000) (M : RM g h) (hp : p < rP g.1.1) (hi : i < 4) (hq : g.2.2.2.2 i = some q) (e2 : f_Mod_within (nI i).toInt64 0 3 h = some true) : f_Mod_noSeen (nI i) (nI p) h = some (tkc g.1.1 q) := by
  have V := M.mV v (by omega)
  obtain ⟨q1, q2⟩ := v.tr i hi q hq
  obtain ⟨s1, s2, s3⟩ := (M.tr i hi).2 q hq
  have l1 : (1 : Int64).toInt = 1 := by decide
  have l12 : (12 : Int64).toInt = 12 := by decide
  unfold f_Mod_noSeen
  rw [e2, Option.bind_some, if_tt, n_isPerson V hp, Option.bind_some, if_tt, n_noTray v M hi e2, hq, Option.bind_some, if_pos (by rfl), n_rd (by omega) (by decide), Option.bind_some, s2, nI_l (by omega), wi_t, l1, l12, lN_toInt (by omega), Option.bind_some]
  unfold tkc
  by_cases c : q.2.1 < 1 ∨ 12 < q.2.1
  · rw [if_neg (by simp; omega), if_pos c]
  · rw [if_pos (by simp; omega), if_neg c]
    generalize hres : ff (fun j => !oks g.1.1 (q.2.2 j)) 0 q.2.1 = res
    have L := lp (fun k (a : Int32) => f_Mod_noSeen_L59 (nI i) (nI p) k (if (some q).isSome = true then 0 else -6) a h)
      (fun m a => ∃ j, m + j = q.2.1 ∧ a = nI j ∧ ff (fun j => !oks g.1.1 (q.2.2 j)) j m = res)
      (fun d => d = (if res.isSome then -3 else 0))
      (fun k m a hI => by
        obtain ⟨j, h1, rfl, f1⟩ := hI
        rw [f_Mod_noSeen_L59, n_rd (by omega) (by decide), Option.bind_some, s2]
        by_cases cj : j < q.2.1
        · obtain ⟨m, rfl⟩ : ∃ m', m = m' + 1 := ⟨m - 1, by omega⟩
          rw [if_neg (nI_ge cj (by omega)), e40_, n_rd (by omega) (by decide), Option.bind_some, Option.bind_some, s3 j cj]
          simp only [cq_eq, l_n1]
          rw [ff] at f1
          by_cases d3 : (q.2.2 j).toInt = -1
          · right
            have ho : oks g.1.1 (q.2.2 j) = true := by unfold oks; simp [d3]
            rw [if_neg (by rw [ho]; decide)] at f1
            rw [if_pos d3]
            exact ⟨m, _, by omega, rfl, j + 1, by omega, nI_up, f1⟩
          · rw [if_neg d3, isSpot_l V d3, Option.bind_some]
            cases ho : oks g.1.1 (q.2.2 j) with
            | true =>
              right
              rw [if_neg (by rw [ho]; decide)] at f1
              rw [if_tt]
              exact ⟨m, _, by omega, rfl, j + 1, by omega, nI_up, f1⟩
            | false =>
              left
              rw [if_pos (by rw [ho]; rfl)] at f1
              rw [if_ff]
              exact ⟨_, rfl, by rw [← f1]; rfl⟩
        · left
          have hm : m = 0 := by omega
          subst hm
          rw [ff] at f1
          rw [if_pos (nI_le (by omega) (by omega))]
          exact ⟨_, rfl, by rw [← f1]; rfl⟩)
    obtain ⟨d, f1, f2⟩ := L am_fu q.2.1 (nI 0) (by unfold am_fu; omega) ⟨0, by omega, rfl, hres⟩
    have f1' : f_Mod_noSeen_L59 (nI i) (nI p) am_fu (if (some q).isSome = true then 0 else -6) 0 h = some d := f1
    rw [f1', f2]
theorem n_oddIn {h : am_H} {r : sR} {s : sS} {i p n : Nat} {f : Nat → Int64} (V : mV (h.2.1 137) r s) (M : mT p r h) (hi : i < 4) (hn : n ≤ 12) (e1 : h.2.1 159 i = nI n) (e2 : ∀ k, k < n → h.2.2.1 160 (40 * i + k) = f k) (ho : ∀ j, j < n → oks r (f j) = true) :
    f_Mod_oddIn (nI i) h = some (oI (fb r s p (sW s) (fun j => sof (f j)) n 0 (alS (rG r)))) := by
  have hG := V.hG
  have hH := V.hH
  generalize hres : fb r s p (sW s) (fun j => sof (f j)) n 0 (alS (rG r)) = res
  have L := lq2 (fun k (a1 : Int32) (a2 : Int32) => f_Mod_oddIn_L4 (nI i) k a1 a2 h)
    (fun m a1 a2 => ∃ j c, m + j = n ∧ a2 = nI j ∧ (vSet (rG r) c ∧ c ≠ 0) ∧ (j = 0 ∧ a1 = -1 ∧ c = alS (rG r) ∨ 0 < j ∧ ∃ u, vSet (rG r) u ∧ (a1 = -1 ∧ u = alS (rG r) ∨ a1 = nI u) ∧ c = stp r s (sW s) p (j - 1) u) ∧ fb r s p (sW s) (fun j => sof (f j)) m j c = res)
    (fun d => d = oI res)
    (fun k m a1 a2 hI => by
      obtain ⟨j, c, h1, rfl, ⟨hc, hc0⟩, hu, d1⟩ := hI
      have hc5 := hc.lt hG.2
      rw [f_Mod_oddIn_L4, n_rd (by omega) (by decide), Option.bind_some, e1]
      by_cases cj : j < n
      · obtain ⟨m, rfl⟩ : ∃ m', m = m' + 1 := ⟨m - 1, by omega⟩
        -- what the reference has before it looks
        have hm9 : ∃ x, ((if nI j ≤ 0 then some a1 else (if a1 = (-1 : Int32) then some a1 else (am_rd (h.2.1 137) 3411 (26 : Int32)).bind fun x6 => (f_Mod_fogIn (nI j - (1 : Int32)) h).bind fun q7 => (f_Mod_goesOn a1 ((x6 + nI j) - (1 : Int32)) q7 h).bind fun q8 => some q8)) : Option Int32) = some x ∧ (x = -1 ∧ c = alS (rG r) ∨ x = nI c) := by
          rcases hu with ⟨rfl, rfl, hcc⟩ | ⟨hj, u, hu1, hu2, hcc⟩
          · exact ⟨-1, by rw [if_pos (show nI 0 ≤ 0 by decide)], .inl ⟨rfl, hcc⟩⟩
          · rw [if_neg (show ¬ nI j ≤ (0 : Int32) from nI_ge (a := 0) (by omega) (by omega))]
            rcases hu2 with ⟨rfl, hu3⟩ | rfl
            · exact ⟨-1, by rw [if_pos rfl], .inl ⟨rfl, by rw [hcc, hu3, go_al V.1 V.vw]⟩⟩
            · have hu5 := hu1.lt hG.2
              have e3 : nI j - (1 : Int32) = nI (j - 1) := nI_sub (b := 1) (by omega)
              have e4 : nI (sH s) + nI j - (1 : Int32) = nI (sH s + (j - 1)) := by
                rw [nI_add]
                have : nI (sH s + j) - (1 : Int32) = nI (sH s + j - 1) := nI_sub (b := 1) (by omega)
                rw [this]
                congr 1
                omega
              rw [if_neg (nI_nm1 (by omega)), rd_lit (by decide) (by decide), Option.bind_some, V.ho, e3, n_fogIn V (by omega), Option.bind_some, e4, n_goesOn V M hu5 (by omega) (fg_lt _ _), Option.bind_some]
              exact ⟨_, rfl, .inr (by rw [hcc]; rfl)⟩
        obtain ⟨x, hx1, hx2⟩ := hm9
        rw [if_neg (nI_ge cj (by omega)), e40_, n_rd (by omega) (by decide), Option.bind_some, e2 j cj, hx1, Option.bind_some]
        rw [fb] at d1
        try simp only at d1
        have al8 : ∀ y, vSp (rG r) y → (alS (rG r)).testBit y = true := fun y hy => by rw [alS_t hG]; exact decide_eq_true hy
        cases hs : sof (f j) with
        | none =>
          have hm1 : (f j).toInt = -1 := by
            unfold sof at hs
            by_cases z : (f j).toInt = -1
            · exact z
            · rw [if_neg z] at hs; cases hs
          have hm2 : (f j).toInt32 = -1 := by
            have : f j = -1 := Int64.toInt_inj.mp (by rw [hm1]; rfl)
            rw [this]; decide
          rw [hs] at d1
          have hcs : c &&& sn r none = c := and_al hG hc
          rw [hcs] at d1
          rw [if_pos hm2]
          right
          rw [if_neg hc0] at d1
          exact ⟨m, _, _, by omega, rfl, j + 1, _, by omega, nI_up, ⟨stp_v V.1 V.vw hc, stp_ne hc0⟩, .inr ⟨by omega, c, hc, hx2, rfl⟩, d1⟩
        | some y =>
          obtain ⟨hy1, hy2, hy3⟩ := oks_v (ho j cj) y hs
          have hm2 : (f j).toInt32 = nI y := by rw [hy3, lN_i]
          rw [hs] at d1
          have hcs : (c &&& sn r (some y) = 0) ↔ c.testBit y = false := and_pow
          have hone : c.testBit y = true → c &&& sn r (some y) = 1 <<< y := fun z => by
            apply Nat.eq_of_testBit_eq
            intro t
            show (c &&& 1 <<< y).testBit t = _
            rw [Nat.testBit_and, Nat.one_shiftLeft, Nat.testBit_two_pow]
            by_cases e : y = t
            · subst e; simp [z]
            · simp [e]
          have hnext : c.testBit y = true → ∃ m' b1 b2, m' < m + 1 ∧ f_Mod_oddIn_L4 (nI i) k ((1 : Int32) <<< ((f j).toInt32 &&& 31)) (nI j + 1) h = f_Mod_oddIn_L4 (nI i) k b1 b2 h ∧ ∃ j c, m' + j = n ∧ b2 = nI j ∧ (vSet (rG r) c ∧ c ≠ 0) ∧ (j = 0 ∧ b1 = -1 ∧ c = alS (rG r) ∨ 0 < j ∧ ∃ u, vSet (rG r) u ∧ (b1 = -1 ∧ u = alS (rG r) ∨ b1 = nI u) ∧ c = stp r s (sW s) p (j - 1) u) ∧ fb r s p (sW s) (fun j => sof (f j)) m' j c = res := fun z => by
            rw [if_neg (fun w => by rw [hcs.mp w] at z; cases z), hone z] at d1
            refine ⟨m, _, _, by omega, rfl, j + 1, _, by omega, nI_up, ⟨stp_v V.1 V.vw (one_v hy1), stp_ne one_ne⟩, .inr ⟨by omega, 1 <<< y, one_v hy1, .inr (by rw [hm2, shl1 (by omega)]), rfl⟩, d1⟩
          rw [if_neg (by rw [hm2]; exact nI_nm1 (by omega))]
          rcases hx2 with ⟨rfl, hcc⟩ | rfl
          · right
            rw [if_pos rfl]
            exact hnext (by rw [hcc]; exact al8 y hy1)
          · rw [if_neg (nI_nm1 (by omega)), hm2, n_isIn (by omega) (by omega), Option.bind_some]
            cases z : c.testBit y with
            | true =>
              right
              rw [if_tt, ← hm2]
              exact hnext z
            | false =>
              left
              rw [if_pos (hcs.mpr z)] at d1
              rw [if_ff]
              exact ⟨_, rfl, by rw [← d1]; rfl⟩
      · left
        have hm : m = 0 := by omega
        subst hm
        rw [fb] at d1
        rw [if_pos (nI_le (by omega) (by omega))]
        exact ⟨_, rfl, by rw [← d1]; rfl⟩)
  obtain ⟨d, f1, f2⟩ := L am_fu n (-1) (nI 0) (by unfold am_fu; omega) ⟨0, _, by omega, rfl, ⟨alS_v hG, alS_ne⟩, .inl ⟨rfl, rfl, rfl⟩, hres⟩
  have f1' : f_Mod_oddIn_L4 (nI i) am_fu (-1) 0 h = some d := f1
  unfold f_Mod_oddIn
  rw [f1', f2]
