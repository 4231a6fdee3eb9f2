-- deps: 31.law 32.nat 33.bit 34.spec 35.riv 36.let 37.mod 38.mod 39.it 40.ahead 41.rel 42.ask 43.why
/-! ===== meeting ===== -/
def mt (r : sR) (s : sS) (p q : Nat) : Option Nat := ff (fun n => decide (¬ (it r s (sW s) p 0 (1 <<< sP s p) n &&& it r s (sW s) q 0 (1 <<< sP s q) n) = 0)) 0 61
theorem n_tMeet {h : am_H} {r : sR} {s : sS} {p q : Nat} (V : tV h r s) (hp : p < rP r) (hq : q < rP r) : f_Ahead_hoursToMeet (nI p) (nI q) h = some (oI (mt r s p q)) := by
  have hP := V.hP
  have hG := V.hG
  have hsp := V.hsp hp
  have hsq := V.hsp hq
  have hx9 : sP s p < 9 := by rcases hsp with c | c <;> omega
  have hy9 : sP s q < 9 := by rcases hsq with c | c <;> omega
  generalize hres : mt r s p q = res
  unfold mt at hres
  have L := lp (fun k (a : Int32 × Int32 × Int32) => f_Ahead_hoursToMeet_L28 (nI p) (nI q) k a.1 a.2.1 a.2.2 h)
    (fun m a => ∃ t, m + t = 61 ∧ a = (nI (it r s (sW s) p 0 (1 <<< sP s p) t), nI (it r s (sW s) q 0 (1 <<< sP s q) t), nI t) ∧ res = ff (fun n => decide (¬ (it r s (sW s) p 0 (1 <<< sP s p) n &&& it r s (sW s) q 0 (1 <<< sP s q) n) = 0)) t m)
    (fun b => b = oI res)
    (fun k m a hI => by
      obtain ⟨t, h1, rfl, h3⟩ := hI
      simp only
      rw [f_Ahead_hoursToMeet_L28]
      have hb := it0_lt (s := s) (p := p) (fr := 0) V.1 V.vw (one_v hsp) t
      have hb2 := it0_lt (s := s) (p := q) (fr := 0) V.1 V.vw (one_v hsq) t
      by_cases c : 60 < t
      · left
        rw [if_pos (show (60 : Int32) < nI t from nI_lt (a := 60) c (by omega))]
        have : m = 0 := by omega
        subst this
        exact ⟨_, rfl, by rw [h3]; rfl⟩
      · rw [if_neg (show ¬ (60 : Int32) < nI t from nI_nlt (b := t) (a := 60) (by omega) (by decide))]
        obtain ⟨m, rfl⟩ : ∃ k', m = k' + 1 := ⟨m - 1, by omega⟩
        rw [ff] at h3
        simp only [nI_and0 (show it r s (sW s) p 0 (1 <<< sP s p) t < 2 ^ 31 by omega)]
        by_cases d : it r s (sW s) p 0 (1 <<< sP s p) t &&& it r s (sW s) q 0 (1 <<< sP s q) t = 0
        · right
          rw [if_neg (by simp [d])] at h3
          rw [if_pos d, n_rowIn V (by omega), Option.bind_some, n_liesIn V (by omega), Option.bind_some, n_stp V hp hb, Option.bind_some, n_rowIn V (by omega), Option.bind_some, Option.bind_some, n_stp V hq hb2, Option.bind_some]
          refine ⟨m, (_, _, _), by omega, rfl, t + 1, by omega, ?_, h3⟩
          rw [it, it, Nat.zero_add, nI_1]
          rfl
        · left
          rw [if_pos (by simp [d])] at h3
          rw [if_neg d]
          exact ⟨_, rfl, by rw [h3]; rfl⟩)
  obtain ⟨b, e1, e2⟩ := L am_fu 61 (nI (1 <<< sP s p), nI (1 <<< sP s q), nI 0) (by decide) ⟨0, rfl, rfl, hres.symm⟩
  unfold f_Ahead_hoursToMeet
  rw [n_rd (by omega) (by decide), Option.bind_some, n_rd (by omega) (by decide), Option.bind_some, V.sp hp, V.sp hq, shl1 (by omega), shl1 (by omega), ← e2]
  exact e1
theorem n_meetIn {h : am_H} {r : sR} {s : sS} {p q : Nat} (V : mV (h.2.1 137) r s) (hp : p < rP r) (hq : q < rP r) : ∃ h', f_Mod_meetIn (nI p) (nI q) h = some (oI (mt r s p q), h') ∧ am_ex [141, 142, 144, 145, 146] h h' := by
  have hP := V.hP
  have hG := V.hG
  have hsp := V.hsp hp
  have hsq := V.hsp hq
  generalize hres : mt r s p q = res
  unfold mt at hres
  have L := lp (fun k (a : Int32 × am_H) => f_Mod_meetIn_L2 (nI p) (nI q) k a.1 a.2)
    (fun m a => ∃ t, m + t = 61 ∧ a.1 = nI t ∧ am_ex [141, 142, 144, 145, 146] h a.2 ∧ res = ff (fun n => decide (¬ (it r s (sW s) p 0 (1 <<< sP s p) n &&& it r s (sW s) q 0 (1 <<< sP s q) n) = 0)) t m)
    (fun b => b.1 = oI res ∧ am_ex [141, 142, 144, 145, 146] h b.2)
    (fun k m a hI => by
      obtain ⟨t, h1, h2, hx, h3⟩ := hI
      obtain ⟨a1, a2⟩ := a
      simp only at h2 hx
      subst h2
      simp only
      rw [f_Mod_meetIn_L2]
      have hb := it0_lt (s := s) (p := p) (fr := 0) (wk := sW s) V.1 (fun k hk => V.hwk hk) (one_v hsp) t
      by_cases c : 60 < t
      · left
        rw [if_pos (show (60 : Int32) < nI t from nI_lt (a := 60) c (by omega))]
        have : m = 0 := by omega
        subst this
        exact ⟨_, rfl, by rw [h3]; rfl, hx⟩
      · rw [if_neg (show ¬ (60 : Int32) < nI t from nI_nlt (b := t) (a := 60) (by omega) (by decide))]
        obtain ⟨m, rfl⟩ : ∃ k', m = k' + 1 := ⟨m - 1, by omega⟩
        rw [ff] at h3
        obtain ⟨x1, u1, u2⟩ := n_reachOf (n := t) (V.ex hx (by decide)) hp (by omega)
        have hx1 := hx.tr u2 (Z := [141, 142, 144, 145, 146]) (fun _ z => z) (fun _ z => z)
        obtain ⟨x2, u3, u4⟩ := n_reachOf (n := t) (V.ex hx1 (by decide)) hq (by omega)
        have hx2 := hx1.tr u4 (Z := [141, 142, 144, 145, 146]) (fun _ z => z) (fun _ z => z)
        rw [u1, Option.bind_some]
        simp only
        rw [u3, Option.bind_some]
        simp only [nI_and0 (show it r s (sW s) p 0 (1 <<< sP s p) t < 2 ^ 31 by omega)]
        by_cases d : it r s (sW s) p 0 (1 <<< sP s p) t &&& it r s (sW s) q 0 (1 <<< sP s q) t = 0
        · right
          rw [if_neg (by simp [d])] at h3
          rw [if_pos d]
          exact ⟨m, (_, _), by omega, rfl, t + 1, by omega, nI_1 t, hx2, h3⟩
        · left
          rw [if_pos (by simp [d])] at h3
          rw [if_neg d]
          exact ⟨_, rfl, by rw [h3]; rfl, hx2⟩)
  obtain ⟨b, e1, e2, e3⟩ := L am_fu 61 (nI 0, h) (by decide) ⟨0, rfl, rfl, am_ex.rf, hres.symm⟩
  refine ⟨b.2, ?_, e3⟩
  unfold f_Mod_meetIn
  rw [← e2]
  exact e1
theorem ok_meet (b : Nat) (hb : b ≤ 90000) (x y : Int32) : ok1 b (f_Top_meet x y) (f_Mod_meet x y) := by
  refine ok1_of (fun g h v T M => ?_)
  have TV := T.tV v (by omega)
  have k0 : keM h (am_sI h 136 0 0) := keM.s0 (by decide)
  have MV := (M.ke k0).mV v (by omega)
  unfold f_Top_meet f_Mod_meet
  simp only [am_let]
  rcases per TV MV x with ⟨p, hp, rfl, e1, e2⟩ | ⟨e1, e2⟩
  · rw [e1, e2, Option.bind_some, Option.bind_some, if_tt, if_tt]
    rcases per TV MV y with ⟨q, hq, rfl, e3, e4⟩ | ⟨e3, e4⟩
    · rw [e3, e4, Option.bind_some, Option.bind_some, if_tt, if_tt]
      by_cases c : nI p = nI q
      · rw [if_pos c, if_pos c]; exact ⟨_, _, rfl, rfl, k0⟩
      · obtain ⟨h', a1, a2⟩ := n_meetIn MV hp hq
        rw [if_neg c, if_neg c, n_tMeet TV hp hq, a1]
        exact ⟨_, _, rfl, rfl, k0.tr (a2.keM (by decide))⟩
    · rw [e3, e4, Option.bind_some, Option.bind_some, if_ff, if_ff]
      exact ⟨_, _, rfl, rfl, k0⟩
  · rw [e1, e2, Option.bind_some, Option.bind_some, if_ff, if_ff]
    exact ⟨_, _, rfl, rfl, k0⟩
theorem n_ntz {x : Nat} {h : am_H} (hx : x < 512) (h0 : x ≠ 0) : f_Integer_numberOfTrailingZeros (nI x) h = some (oI (ff (fun j => x.testBit j) 0 9)) := by
  have key : ∀ x, x < 512 → x ≠ 0 → f_Integer_numberOfTrailingZeros (nI x) am_e = some (oI (ff (fun j => x.testBit j) 0 9)) := by decide +kernel
  exact (show f_Integer_numberOfTrailingZeros (nI x) h = f_Integer_numberOfTrailingZeros (nI x) am_e from rfl).trans (key x hx h0)
theorem n_lowest {x : Nat} {h : am_H} {u v w : Int32} (hx : x < 512) (h0 : x ≠ 0) : f_Mod_meetAt_L63 u v am_fu w (nI x) 0 h = some (oI (ff (fun j => x.testBit j) 0 9)) := by
  generalize hres : ff (fun j => x.testBit j) 0 9 = res
  have L := lp (fun k (a : Int32) => f_Mod_meetAt_L63 u v k w (nI x) a h)
    (fun m a => ∃ t, m + t = 9 ∧ a = nI t ∧ res = ff (fun j => x.testBit j) t m)
    (fun b => b = oI res)
    (fun k m a hI => by
      obtain ⟨t, h1, rfl, h3⟩ := hI
      by_cases c : t < 9
      · rw [f_Mod_meetAt_L63, n_isIn (by omega) (by omega), Option.bind_some]
        obtain ⟨m, rfl⟩ : ∃ k', m = k' + 1 := ⟨m - 1, by omega⟩
        rw [ff] at h3
        by_cases d : x.testBit t
        · left
          rw [if_pos d] at h3
          rw [if_pos d]
          exact ⟨_, rfl, by rw [h3]; rfl⟩
        · right
          rw [if_neg d] at h3
          rw [if_neg d]
          exact ⟨m, _, by omega, rfl, t + 1, by omega, nI_1 t, h3⟩
      · exfalso
        have hm : m = 0 := by omega
        subst hm
        rw [ff] at h3
        rw [h3] at hres
        apply h0
        apply Nat.eq_of_testBit_eq
        intro j
        rw [Nat.zero_testBit]
        by_cases q : j < 9
        · exact ff_none hres j (by omega) (by omega)
        · exact Nat.testBit_lt_two_pow (Nat.lt_of_lt_of_le hx (Nat.pow_le_pow_right (n := 2) (i := 9) (by omega) (by omega))))
  obtain ⟨b, e1, e2⟩ := L am_fu 9 (nI 0) (by decide) ⟨0, rfl, rfl, hres.symm⟩
  rw [← e2]
  exact e1
theorem ok_meetAt (b : Nat) (hb : b ≤ 90000) (x y : Int32) : ok1 b (f_Top_meetAt x y) (f_Mod_meetAt x y) := by
  refine ok1_of (fun g h v T M => ?_)
  have TV := T.tV v (by omega)
  have k0 : keM h (am_sI h 136 0 0) := keM.s0 (by decide)
  have MV := (M.ke k0).mV v (by omega)
  unfold f_Top_meetAt f_Mod_meetAt
  simp only [am_let]
  rcases per TV MV x with ⟨p, hp, rfl, e1, e2⟩ | ⟨e1, e2⟩
  · rw [e1, e2, Option.bind_some, Option.bind_some, if_tt, if_tt]
    rcases per TV MV y with ⟨q, hq, rfl, e3, e4⟩ | ⟨e3, e4⟩
    · rw [e3, e4, Option.bind_some, Option.bind_some, if_tt, if_tt]
      by_cases c : nI p = nI q
      · rw [if_pos c, if_pos c]; exact ⟨_, _, rfl, rfl, k0⟩
      · obtain ⟨h', a1, a2⟩ := n_meetIn MV hp hq
        rw [if_neg c, if_neg c, n_tMeet TV hp hq, a1, Option.bind_some, Option.bind_some]
        simp only
        rcases hmt : mt g.1.1 g.1.2.1 p q with _ | n
        · rw [oI_none, if_pos rfl, if_pos rfl]
          exact ⟨_, _, rfl, rfl, k0.tr (a2.keM (by decide))⟩
        · obtain ⟨n1, n2, n3, _⟩ := ff_some hmt
          simp only [decide_eq_true_eq] at n3
          rw [oI_some, if_neg (nI_nm1 (by omega)), if_neg (nI_nm1 (by omega))]
          have MV2 := MV.ex a2 (by decide)
          obtain ⟨h2, b1, b2⟩ := n_reachOf (n := n) MV2 hp (by omega)
          have MV3 := MV2.ex b2 (by decide)
          obtain ⟨h3, b3, b4⟩ := n_reachOf (n := n) MV3 hq (by omega)
          have hb1 := it0_lt (s := g.1.2.1) (p := p) (fr := 0) TV.1 TV.vw (one_v (TV.hsp hp)) n
          rw [n_spotsIn TV hp (by omega), Option.bind_some, n_spotsIn TV hq (by omega), Option.bind_some, b1, Option.bind_some]
          simp only
          rw [b3, Option.bind_some]
          simp only [nI_and]
          rw [n_ntz (and_lt hb1) n3, Option.bind_some, n_lowest (and_lt hb1) n3, Option.bind_some]
          exact ⟨_, _, rfl, rfl, ((k0.tr (a2.keM (by decide))).tr (b2.keM (by decide))).tr (b4.keM (by decide))⟩
    · rw [e3, e4, Option.bind_some, Option.bind_some, if_ff, if_ff]
      exact ⟨_, _, rfl, rfl, k0⟩
  · rw [e1, e2, Option.bind_some, Option.bind_some, if_ff, if_ff]
    exact ⟨_, _, rfl, rfl, k0⟩
