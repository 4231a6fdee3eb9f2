-- deps: 31.law 32.nat 33.bit 34.spec 35.riv 36.let 37.mod 38.mod 39.it 40.ahead 41.rel 42.ask 43.why 44.meet 45.err 46.err 47.wk 48.chg 50.ways 51.way 52.tray 54.past 55.hour 56.act 57.undo 59.deed 60.judge 63.seen 65.chance
/-! ===== the greatest shared divisor ===== -/
theorem lN_div {a b : Nat} (ha : a < 2 ^ 31) (hb : b < 2 ^ 31) : lN a / lN b = lN (a / b) := by
  refine Int64.toInt_inj.mp ?_
  have h1 : a / b ≤ a := Nat.div_le_self a b
  rw [Int64.toInt_div, lN_toInt ha, lN_toInt hb, lN_toInt (by omega)]
  rw [← Int.ofNat_tdiv]
  generalize a / b = q at h1 ⊢
  rw [Int.bmod_eq_of_le (by omega) (by omega)]
theorem lN_ne0 {b : Nat} (h0 : b ≠ 0) (hb : b < 2 ^ 31) : lN b ≠ 0 := fun q => h0 ((lN_eq (b := 0) hb (by decide)).mp q)
theorem n_mdJ {a b : Nat} (ha : a < 2 ^ 31) (hb : b < 2 ^ 31) (h0 : b ≠ 0) : am_mdJ (lN a) (lN b) = some (lN (a % b)) := by
  unfold am_mdJ
  rw [if_neg (lN_ne0 h0 hb), lN_div ha hb, lN_mul, lN_sub (Nat.div_mul_le_self a b)]
  congr 2
  have := Nat.div_add_mod a b
  have e : a / b * b = b * (a / b) := Nat.mul_comm _ _
  omega
theorem gcd_st (a b : Nat) : Nat.gcd a b = Nat.gcd b (a % b) := by
  rw [Nat.gcd_comm a b, Nat.gcd_rec b a, Nat.gcd_comm]
theorem cm0 {b : Nat} (hb : b < 2 ^ 31) : (lg_cmp (lN b) 0 = 0) = (b = 0) := by
  rw [cq_eq, lN_toInt hb, l_0]
  apply propext
  omega
theorem wc1 {n a b : Nat} {h : am_H} (ha : a < 2 ^ 31) (hb : b < 2 ^ 31) : f_Wc (n + 1) 0 (lN a) (lN b) h = if b = 0 then some (lN a) else f_Wc n 0 (lN b) (lN (a % b)) h := by
  have e : f_Wc (n + 1) 0 (lN a) (lN b) h = b_Mod_common (f_Wc n) (lN a) (lN b) h := rfl
  rw [e]
  unfold b_Mod_common
  simp only [cm0 hb]
  by_cases c : b = 0
  · rw [if_pos c, if_pos c]
  · rw [if_neg c, if_neg c, n_mdJ ha hb c, Option.bind_some]
    cases f_Wc n 0 (lN b) (lN (a % b)) h with
    | none => rfl
    | some x => rfl
theorem wc_ok {h : am_H} : ∀ k n a b, 2 * (k + 1) ≤ n → a < 2 ^ 31 → b < 2 ^ (k + 1) → b < 2 ^ 31 → f_Wc n 0 (lN a) (lN b) h = some (lN (Nat.gcd a b))
  | 0, n, a, b, hn, ha, hb, hb2 => by
    obtain ⟨n, rfl⟩ : ∃ m, n = m + 1 + 1 := ⟨n - 2, by omega⟩
    rw [wc1 ha hb2]
    by_cases c : b = 0
    · rw [if_pos c, c, Nat.gcd_zero_right]
    · have c1 : b = 1 := by omega
      subst c1
      rw [if_neg c, Nat.mod_one, wc1 (by decide) (by decide), if_pos rfl, Nat.gcd_one_right]
  | k + 1, n, a, b, hn, ha, hb, hb2 => by
    obtain ⟨n, rfl⟩ : ∃ m, n = m + 1 + 1 := ⟨n - 2, by omega⟩
    rw [wc1 ha hb2]
    by_cases c : b = 0
    · rw [if_pos c, c, Nat.gcd_zero_right]
    · have h1 : a % b < b := Nat.mod_lt _ (by omega)
      rw [if_neg c, wc1 hb2 (by omega), gcd_st a b]
      by_cases d : a % b = 0
      · rw [if_pos d, d, Nat.gcd_zero_right]
      · have h2 : b % (a % b) < a % b := Nat.mod_lt _ (by omega)
        have h3 : b % (a % b) + (a % b) ≤ b := by
          have := Nat.div_add_mod b (a % b)
          have h4 : 1 ≤ b / (a % b) := Nat.div_pos (by omega) (by omega)
          have h5 := Nat.mul_le_mul_left (a % b) h4
          omega
        have h6 : 2 ^ (k + 1 + 1) = 2 ^ (k + 1) * 2 := Nat.pow_succ 2 (k + 1)
        rw [if_neg d, gcd_st b (a % b)]
        exact wc_ok k n (a % b) (b % (a % b)) (by omega) (by omega) (by omega) (by omega)
theorem sd1 {n c a b : Nat} {x y : Int64} {h : am_H} (hc : c < 100) (ha : a < 2 ^ 31) (hb : b < 2 ^ 31) : f_Chances_sharedDivisor_L3 x y (n + 1) (lN a) (lN b) (nI c) h = if b = 0 then some (lN a, lN b, nI c) else f_Chances_sharedDivisor_L3 x y n (lN b) (lN (a % b)) (nI (c + 1)) h := by
  rw [f_Chances_sharedDivisor_L3, if_neg (show ¬ (100 : Int32) ≤ nI c from nI_ge (b := 100) hc (by decide)), nI_up]
  simp only [cm0 hb]
  by_cases z : b = 0
  · rw [if_pos z, if_pos z]
  · rw [if_neg z, if_neg z, n_mdJ ha hb z, Option.bind_some]
theorem sd_ok {x y : Int64} {h : am_H} : ∀ k n c a b, 2 * (k + 1) ≤ n → c + 2 * (k + 1) ≤ 100 → a < 2 ^ 31 → b < 2 ^ (k + 1) → b < 2 ^ 31 → ∃ z, f_Chances_sharedDivisor_L3 x y n (lN a) (lN b) (nI c) h = some (lN (Nat.gcd a b), z)
  | 0, n, c, a, b, hn, hc, ha, hb, hb2 => by
    obtain ⟨n, rfl⟩ : ∃ m, n = m + 1 + 1 := ⟨n - 2, by omega⟩
    rw [sd1 (by omega) ha hb2]
    by_cases z : b = 0
    · rw [if_pos z, z, Nat.gcd_zero_right]
      exact ⟨_, rfl⟩
    · have c1 : b = 1 := by omega
      subst c1
      rw [if_neg z, Nat.mod_one, sd1 (by omega) (by decide) (by decide), if_pos rfl, Nat.gcd_one_right]
      exact ⟨_, rfl⟩
  | k + 1, n, c, a, b, hn, hc, ha, hb, hb2 => by
    obtain ⟨n, rfl⟩ : ∃ m, n = m + 1 + 1 := ⟨n - 2, by omega⟩
    rw [sd1 (by omega) ha hb2]
    by_cases z : b = 0
    · rw [if_pos z, z, Nat.gcd_zero_right]
      exact ⟨_, rfl⟩
    · have h1 : a % b < b := Nat.mod_lt _ (by omega)
      rw [if_neg z, sd1 (by omega) hb2 (by omega), gcd_st a b]
      by_cases d : a % b = 0
      · rw [if_pos d, d, Nat.gcd_zero_right]
        exact ⟨_, rfl⟩
      · have h2 : b % (a % b) < a % b := Nat.mod_lt _ (by omega)
        have h3 : b % (a % b) + (a % b) ≤ b := by
          have := Nat.div_add_mod b (a % b)
          have h4 : 1 ≤ b / (a % b) := Nat.div_pos (by omega) (by omega)
          have h5 := Nat.mul_le_mul_left (a % b) h4
          omega
        have h6 : 2 ^ (k + 1 + 1) = 2 ^ (k + 1) * 2 := Nat.pow_succ 2 (k + 1)
        rw [if_neg d, gcd_st b (a % b)]
        exact sd_ok k n (c + 1 + 1) (a % b) (b % (a % b)) (by omega) (by omega) (by omega) (by omega) (by omega)
theorem n_shared {h : am_H} {a b : Nat} (ha : a < 2 ^ 30) (hb : b < 2 ^ 30) : f_Chances_sharedDivisor (lN a) (lN b) h = some (lN (Nat.gcd a b)) := by
  obtain ⟨z, e⟩ := sd_ok (x := lN a) (y := lN b) (h := h) 29 am_fu 0 a b (by decide) (by decide) (by omega) hb (by omega)
  have e' : f_Chances_sharedDivisor_L3 (lN a) (lN b) am_fu (lN a) (lN b) 0 h = some (lN (Nat.gcd a b), z) := e
  unfold f_Chances_sharedDivisor
  rw [e', Option.bind_some]
theorem n_common {h : am_H} {a b : Nat} (ha : a < 2 ^ 30) (hb : b < 2 ^ 30) : f_Mod_common (lN a) (lN b) h = some (lN (Nat.gcd b a)) := by
  unfold f_Mod_common
  rw [wc_ok 29 60 a b (by decide) (by omega) hb (by omega), Nat.gcd_comm]
/-! ===== chance ===== -/
theorem rng0n {n : Nat} {u : Int64} (hn : n < 2 ^ 30) (hu : u = lN n) (x : Int32) : (∃ k, k ≤ n ∧ x = nI k ∧ ¬ x < 0 ∧ x ≤ nI n ∧ ∀ h, f_Mod_within x.toInt64 0 u h = some true) ∨ ((x < 0 ∨ ¬ x < 0 ∧ ¬ x ≤ nI n) ∧ ∀ h, f_Mod_within x.toInt64 0 u h = some false) := by
  rcases rng2 hn hu x with ⟨k, hk, rfl, e⟩ | ⟨q, e⟩
  · exact .inl ⟨k, hk, rfl, nI_pos (by omega), nI_le hk (by omega), e⟩
  · refine .inr ⟨?_, e⟩
    by_cases d : x < 0
    · exact .inl d
    · rcases q with q | q
      · exact absurd q d
      · exact .inr ⟨d, q⟩
theorem ok_chance (b : Nat) (hb : b ≤ 90000) (x y z w : Int32) : ok2 b (f_Top_chance x y z w) (f_Mod_chance x y z w) := by
  refine ok2_of (fun g h v T M0 => ?_)
  have TV := T.tV v (by omega)
  have hr := v.1
  unfold f_Top_chance f_Mod_chance
  simp only [am_let]
  rcases per2 TV x with ⟨p, hp, rfl, e1, e2⟩ | ⟨e1, e2⟩
  · rw [e1, Option.bind_some, if_tt]
    rcases spt2 TV (s0M M0 v hb).2 y with ⟨q, hq, rfl, e3, e4⟩ | ⟨e3, e4⟩
    · rw [e3, Option.bind_some, if_tt]
      rcases rng0n (n := 1) (by decide) (show (1 : Int64) = lN 1 from rfl) w with ⟨k, hk, hw, w0, w1, e5⟩ | ⟨w0, e5⟩
      · rw [if_neg w0, if_pos (show w ≤ (1 : Int32) from w1)]
        rcases rng0n (n := 9) (by decide) (show (9 : Int64) = lN 9 from rfl) z with ⟨n, hn, rfl, z0, z1, e6⟩ | ⟨z0, e6⟩
        · rw [if_neg z0, if_pos (show nI n ≤ (9 : Int32) from z1)]
          obtain ⟨h1, a1, a2⟩ := n_out TV T.2.2.2.2.2.2.2.2.2 hp hq hn
          have hv := chv_le (s := g.1.2.1) (p := p) (q := q) (n := n) hr n (sP g.1.2.1 p)
          have h10 := p10_lt hn
          have hpos : 0 < 10 ^ n := Nat.pow_pos (by decide)
          generalize hV : chv g.1.1 g.1.2.1 p q n n (sP g.1.2.1 p) = c at *
          have hg1 : 0 < Nat.gcd (10 ^ n) c := Nat.gcd_pos_of_pos_left _ hpos
          have hg2 : Nat.gcd (10 ^ n) c ≤ 10 ^ n := Nat.gcd_le_left _ hpos
          generalize hG : Nat.gcd (10 ^ n) c = d at *
          have hge : (0 ≤ lg_cmp (lN d) 1) = True := by
            rw [← Int32.not_lt, cq_lt, lN_toInt (by omega)]
            have : (1 : Int64).toInt = 1 := by decide
            rw [this]
            simp
            omega
          have hdv : ∀ a, am_dvJ a (lN d) = some (a / lN d) := fun a => by
            unfold am_dvJ
            rw [if_neg (lN_ne0 (by omega) (by omega))]
          rw [a1, Option.bind_some]
          simp only
          rw [n_power (by omega), Option.bind_some, n_shared h10 (by omega), Option.bind_some, hG]
          simp only [hge, if_true]
          rw [hdv, hdv, Option.bind_some, Option.bind_some]
          have hmod : ∀ h', RM g h' → ∃ h2, keM h' h2 ∧ ((f_Mod_isPerson (nI p).toInt64 (am_sI h' 136 0 0)).bind fun q2 => if q2 = true then (f_Mod_isSpot (nI q).toInt64 (am_sI h' 136 0 0)).bind fun q4 => if q4 = true then (f_Mod_within w.toInt64 0 1 (am_sI h' 136 0 0)).bind fun q6 => if q6 = true then (f_Mod_within (nI n).toInt64 0 9 (am_sI h' 136 0 0)).bind fun q8 => if q8 = true then (f_Mod_chanceOf (nI p) (nI q) (nI n) (am_sI h' 136 0 0)).bind fun q10 => (f_Mod_tens (nI n) q10.2).bind fun q11 => (f_Mod_common q10.1 q11 q10.2).bind fun q12 => if w = 0 then (am_dvJ q10.1 q12).bind fun x16 => some (x16, q10.2) else (f_Mod_tens (nI n) q10.2).bind fun q14 => (am_dvJ q14 q12).bind fun x15 => some (x15, q10.2) else some ((-3 : Int64), am_sI h' 136 0 0) else some ((-2 : Int64), am_sI h' 136 0 0) else some ((-2 : Int64), am_sI h' 136 0 0) else some ((-2 : Int64), am_sI h' 136 0 0)) = (if w = 0 then some (lN c / lN d, h2) else some (lN (10 ^ n) / lN d, h2)) := fun h' M => by
            obtain ⟨k0, MV⟩ := s0M M v hb
            obtain ⟨h2, b1, b2⟩ := n_chanceOf MV hp hq hn
            rw [hV] at b1
            refine ⟨h2, k0.tr b2, ?_⟩
            rw [e2 MV, Option.bind_some, if_tt, e4 MV, Option.bind_some, if_tt, e5, Option.bind_some, if_tt, e6, Option.bind_some, if_tt, b1, Option.bind_some]
            simp only
            rw [n_tens (by omega), Option.bind_some, n_common (by omega) h10, Option.bind_some, hG]
            simp only [hdv, Option.bind_some]
          by_cases c0 : w = 0
          · rw [if_pos c0]
            refine ⟨_, ⟨h1, rfl, a2⟩, fun h' M _ => ?_⟩
            obtain ⟨h2, k2, m2⟩ := hmod h' M
            rw [if_pos c0] at m2
            exact ⟨h2, m2, k2⟩
          · rw [if_neg c0]
            refine ⟨_, ⟨h1, rfl, a2⟩, fun h' M _ => ?_⟩
            obtain ⟨h2, k2, m2⟩ := hmod h' M
            rw [if_neg c0] at m2
            exact ⟨h2, m2, k2⟩
        · refine ⟨-3, ⟨h, ?_, keT.rf⟩, fun h' M _ => ?_⟩
          · rcases z0 with q | ⟨q1, q2⟩
            · rw [if_pos q]
            · rw [if_neg q1, if_neg (show ¬ z ≤ (9 : Int32) from q2)]
          · obtain ⟨k0, MV⟩ := s0M M v hb
            rw [e2 MV, Option.bind_some, if_tt, e4 MV, Option.bind_some, if_tt, e5, Option.bind_some, if_tt, e6, Option.bind_some, if_ff]
            exact ⟨_, rfl, k0⟩
      · refine ⟨-2, ⟨h, ?_, keT.rf⟩, fun h' M _ => ?_⟩
        · rcases w0 with q | ⟨q1, q2⟩
          · rw [if_pos q]
          · rw [if_neg q1, if_neg (show ¬ w ≤ (1 : Int32) from q2)]
        · obtain ⟨k0, MV⟩ := s0M M v hb
          rw [e2 MV, Option.bind_some, if_tt, e4 MV, Option.bind_some, if_tt, e5, Option.bind_some, if_ff]
          exact ⟨_, rfl, k0⟩
    · rw [e3, Option.bind_some, if_ff]
      refine ⟨_, ⟨h, rfl, keT.rf⟩, fun h' M _ => ?_⟩
      obtain ⟨k0, MV⟩ := s0M M v hb
      rw [e2 MV, Option.bind_some, if_tt, e4 MV, Option.bind_some, if_ff]
      exact ⟨_, rfl, k0⟩
  · rw [e1, Option.bind_some, if_ff]
    refine ⟨_, ⟨h, rfl, keT.rf⟩, fun h' M _ => ?_⟩
    obtain ⟨k0, MV⟩ := s0M M v hb
    rw [e2 MV, Option.bind_some, if_ff]
    exact ⟨_, rfl, k0⟩
/-! ===== likely ===== -/
def lkl (r : sR) (s : sS) (p q : Nat) (z : Int32) (n : Nat) : Bool := decide ¬ (lg_cmp (lN (chv r s p q n n (sP s p)) * (100 : Int64)) (z.toInt64 * lN (10 ^ n)) < 0)
theorem n_tLikely {h : am_H} {r : sR} {s : sS} {p q : Nat} {z : Int32} (V : tV h r s) (t : tRef h) (hp : p < rP r) (hq : vSp (rG r) q) :
    ∃ h', f_Top_likely_L41 (nI p) (nI q) z am_fu 0 h = some (oI (ff (lkl r s p q z) 0 10), h') ∧ keT h h' := by
  generalize hres : ff (lkl r s p q z) 0 10 = res
  have L := lq2 (fun k (a1 : Int32) (a2 : am_H) => f_Top_likely_L41 (nI p) (nI q) z k a1 a2)
    (fun m a1 a2 => ∃ n, m + n = 10 ∧ a1 = nI n ∧ keT h a2 ∧ ff (lkl r s p q z) n m = res)
    (fun d => d.1 = oI res ∧ keT h d.2)
    (fun k m a1 a2 hI => by
      obtain ⟨n, h1, rfl, k1, f1⟩ := hI
      rw [f_Top_likely_L41]
      by_cases c : 9 < n
      · left
        have hm : m = 0 := by omega
        subst hm
        rw [ff] at f1
        rw [if_pos (show (9 : Int32) < nI n from nI_lt (a := 9) c (by omega))]
        exact ⟨_, rfl, by rw [← f1]; rfl, k1⟩
      · obtain ⟨m, rfl⟩ : ∃ m', m = m' + 1 := ⟨m - 1, by omega⟩
        obtain ⟨h2, a1, a2⟩ := n_out (V.ke k1) (k1.2 t) hp hq (show n ≤ 9 by omega)
        rw [if_neg (show ¬ (9 : Int32) < nI n from nI_nlt (a := 9) (b := n) (by omega) (by decide)), a1, Option.bind_some]
        simp only
        rw [n_power (by omega), Option.bind_some]
        rw [ff] at f1
        by_cases d : lg_cmp (lN (chv r s p q n n (sP s p)) * (100 : Int64)) (z.toInt64 * lN (10 ^ n)) < 0
        · right
          rw [if_neg (by unfold lkl; simpa using d)] at f1
          rw [if_pos d]
          exact ⟨m, _, _, by omega, rfl, n + 1, by omega, nI_up, k1.tr a2, f1⟩
        · left
          rw [if_pos (by unfold lkl; exact decide_eq_true d)] at f1
          rw [if_neg d]
          exact ⟨_, rfl, by rw [← f1]; rfl, k1.tr a2⟩)
  obtain ⟨d, g1, g2, g3⟩ := L am_fu 10 (nI 0) h (by decide) ⟨0, rfl, rfl, keT.rf, hres⟩
  obtain ⟨d1, d2⟩ := d
  simp only at g2 g3
  subst g2
  have g1' : f_Top_likely_L41 (nI p) (nI q) z am_fu 0 h = some (oI res, d2) := g1
  exact ⟨d2, g1', g3⟩
theorem n_mLikely {h : am_H} {r : sR} {s : sS} {p q : Nat} {z : Int32} (V : mV (h.2.1 137) r s) (hp : p < rP r) (hq : vSp (rG r) q) :
    ∃ h', f_Mod_likely_L44 (nI p) (nI q) z am_fu 0 h = some (oI (ff (lkl r s p q z) 0 10), h') ∧ keM h h' := by
  generalize hres : ff (lkl r s p q z) 0 10 = res
  have L := lq2 (fun k (a1 : Int32) (a2 : am_H) => f_Mod_likely_L44 (nI p) (nI q) z k a1 a2)
    (fun m a1 a2 => ∃ n, m + n = 10 ∧ a1 = nI n ∧ keM h a2 ∧ ff (lkl r s p q z) n m = res)
    (fun d => d.1 = oI res ∧ keM h d.2)
    (fun k m a1 a2 hI => by
      obtain ⟨n, h1, rfl, k1, f1⟩ := hI
      rw [f_Mod_likely_L44]
      by_cases c : 9 < n
      · left
        have hm : m = 0 := by omega
        subst hm
        rw [ff] at f1
        rw [if_pos (show (9 : Int32) < nI n from nI_lt (a := 9) c (by omega))]
        exact ⟨_, rfl, by rw [← f1]; rfl, k1⟩
      · obtain ⟨m, rfl⟩ : ∃ m', m = m' + 1 := ⟨m - 1, by omega⟩
        obtain ⟨h2, a1, a2⟩ := n_chanceOf (V.ke k1) hp hq (show n ≤ 9 by omega)
        rw [if_neg (show ¬ (9 : Int32) < nI n from nI_nlt (a := 9) (b := n) (by omega) (by decide)), a1, Option.bind_some]
        simp only
        rw [n_tens (by omega), Option.bind_some]
        rw [ff] at f1
        by_cases d : lg_cmp (lN (chv r s p q n n (sP s p)) * (100 : Int64)) (z.toInt64 * lN (10 ^ n)) < 0
        · right
          rw [if_neg (by unfold lkl; simpa using d)] at f1
          rw [if_pos d]
          exact ⟨m, _, _, by omega, rfl, n + 1, by omega, nI_up, k1.tr a2, f1⟩
        · left
          rw [if_pos (by unfold lkl; exact decide_eq_true d)] at f1
          rw [if_neg d]
          exact ⟨_, rfl, by rw [← f1]; rfl, k1.tr a2⟩)
  obtain ⟨d, g1, g2, g3⟩ := L am_fu 10 (nI 0) h (by decide) ⟨0, rfl, rfl, keM.rf, hres⟩
  obtain ⟨d1, d2⟩ := d
  simp only at g2 g3
  subst g2
  have g1' : f_Mod_likely_L44 (nI p) (nI q) z am_fu 0 h = some (oI res, d2) := g1
  exact ⟨d2, g1', g3⟩
theorem ok_likely (b : Nat) (hb : b ≤ 90000) (x y z : Int32) : ok2 b (f_Top_likely x y z) (f_Mod_likely x y z) := by
  refine ok2_of (fun g h v T M0 => ?_)
  have TV := T.tV v (by omega)
  unfold f_Top_likely f_Mod_likely
  simp only [am_let]
  rcases per2 TV x with ⟨p, hp, rfl, e1, e2⟩ | ⟨e1, e2⟩
  · rw [e1, Option.bind_some, if_tt]
    rcases spt2 TV (s0M M0 v hb).2 y with ⟨q, hq, rfl, e3, e4⟩ | ⟨e3, e4⟩
    · rw [e3, Option.bind_some, if_tt]
      rcases rng0n (n := 100) (by decide) (show (100 : Int64) = lN 100 from rfl) z with ⟨n, hn, hz, z0, z1, e6⟩ | ⟨z0, e6⟩
      · obtain ⟨h1, a1, a2⟩ := n_tLikely (z := z) TV T.2.2.2.2.2.2.2.2.2 hp hq
        rw [if_neg z0, if_pos (show z ≤ (100 : Int32) from z1), a1]
        refine ⟨_, ⟨h1, rfl, a2⟩, fun h' M _ => ?_⟩
        obtain ⟨k0, MV⟩ := s0M M v hb
        obtain ⟨h2, b1, b2⟩ := n_mLikely (z := z) MV hp hq
        rw [e2 MV, Option.bind_some, if_tt, e4 MV, Option.bind_some, if_tt, e6, Option.bind_some, if_tt, b1]
        exact ⟨_, rfl, k0.tr b2⟩
      · refine ⟨-3, ⟨h, ?_, keT.rf⟩, fun h' M _ => ?_⟩
        · rcases z0 with q | ⟨q1, q2⟩
          · rw [if_pos q]
          · rw [if_neg q1, if_neg (show ¬ z ≤ (100 : Int32) from q2)]
        · obtain ⟨k0, MV⟩ := s0M M v hb
          rw [e2 MV, Option.bind_some, if_tt, e4 MV, Option.bind_some, if_tt, e6, Option.bind_some, if_ff]
          exact ⟨_, rfl, k0⟩
    · rw [e3, Option.bind_some, if_ff]
      refine ⟨_, ⟨h, rfl, keT.rf⟩, fun h' M _ => ?_⟩
      obtain ⟨k0, MV⟩ := s0M M v hb
      rw [e2 MV, Option.bind_some, if_tt, e4 MV, Option.bind_some, if_ff]
      exact ⟨_, rfl, k0⟩
  · rw [e1, Option.bind_some, if_ff]
    refine ⟨_, ⟨h, rfl, keT.rf⟩, fun h' M _ => ?_⟩
    obtain ⟨k0, MV⟩ := s0M M v hb
    rw [e2 MV, Option.bind_some, if_ff]
    exact ⟨_, rfl, k0⟩
