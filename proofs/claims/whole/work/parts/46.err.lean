-- deps: 31.law 32.nat 33.bit 34.spec 35.riv 36.let 37.mod 38.mod 39.it 40.ahead 41.rel 42.ask 43.why 44.meet 45.err
/-! the last number below n that has it -/
def fl (P : Nat → Bool) : Nat → Option Nat
  | 0 => none
  | n + 1 => if P n then some n else fl P n
theorem fl_cut {P : Nat → Bool} {m : Nat} : ∀ n, m ≤ n → (∀ i, m ≤ i → i < n → P i = false) → fl P n = fl P m
  | 0, h, _ => by rw [show m = 0 by omega]
  | n + 1, h, f => by
    by_cases c : m = n + 1
    · rw [c]
    · rw [fl, if_neg (by simp [f n (by omega) (by omega)])]
      exact fl_cut n (by omega) (fun i a b => f i a (by omega))
theorem fl_lt {P : Nat → Bool} : ∀ {n k : Nat}, fl P n = some k → k < n
  | 0, k, h => by cases h
  | n + 1, k, h => by
    unfold fl at h
    split at h
    · cases h; omega
    · have := fl_lt h; omega
theorem n_mSpare {h : am_H} {r : sR} {s : sS} {p : Nat} (V : mV (h.2.1 137) r s) (M : mT p r h) (hp : p < rP r) (he : (rTo r p).isSome = true) : ∃ y, f_Mod_spare_L37 (nI p) am_fu (-1) 0 h = some (oI (fl (fun i => iT r s (sW s) p i) 61), y) := by
  have L := lp (fun k (a : Int32 × Int32) => f_Mod_spare_L37 (nI p) k a.1 a.2 h)
    (fun m a => ∃ t, m + t = 61 ∧ a = (oI (fl (fun i => iT r s (sW s) p i) t), nI t))
    (fun b => b.1 = oI (fl (fun i => iT r s (sW s) p i) 61))
    (fun k m a hI => by
      obtain ⟨t, h1, rfl⟩ := hI
      simp only
      rw [f_Mod_spare_L37]
      by_cases c : 60 < t
      · left
        rw [if_pos (show (60 : Int32) < nI t from nI_lt (a := 60) c (by omega))]
        have : t = 61 := by omega
        subst this
        exact ⟨_, rfl, rfl⟩
      · right
        rw [if_neg (show ¬ (60 : Int32) < nI t from nI_nlt (b := t) (a := 60) (by omega) (by decide)), n_isInTime V M hp he (by omega), Option.bind_some, nI_1]
        refine ⟨m - 1, (oI (fl (fun i => iT r s (sW s) p i) (t + 1)), nI (t + 1)), by omega, ?_, t + 1, by omega, rfl⟩
        rw [fl]
        cases hc : iT r s (sW s) p t <;> simp [oI_some])
  obtain ⟨b, e1, e2⟩ := L am_fu 61 (oI none, nI 0) (by decide) ⟨0, rfl, rfl⟩
  refine ⟨b.2, ?_⟩
  have e1' : f_Mod_spare_L37 (nI p) am_fu (-1) 0 h = some b := e1
  rw [e1', ← e2]
theorem n_tSpare {h : am_H} {r : sR} {s : sS} {p : Nat} (V : tV h r s) (hp : p < rP r) (he : (rTo r p).isSome = true) : f_Weeks_hoursToSpare (nI p) h = some (oI (fl (fun i => iT r s (sW s) p i) 61)) := by
  have hP := V.hP
  have hG := V.hG
  have hH := V.hH
  have hsp := V.hsp hp
  have hx9 : sP s p < 9 := by rcases hsp with c | c <;> omega
  obtain ⟨g, hg⟩ := Option.isSome_iff_exists.mp he
  obtain ⟨hg1, b, hb, hb1⟩ := (V.1.2.2.2.2.2 p hp).2.1 g hg
  unfold f_Weeks_hoursToSpare
  rw [n_isDone V hp, Option.bind_some]
  cases hd : (sD s).testBit p with
  | true =>
    rw [if_tt]
    have : fl (fun i => iT r s (sW s) p i) 61 = some 60 := by
      rw [fl, if_pos (by unfold iT; rw [hd]; rfl)]
    rw [this]
    rfl
  | false =>
    rw [if_ff, n_rd (by omega) (by decide), Option.bind_some, V.by hp, V.ho, hb, oI_some]
    have hI : ∀ i, iT r s (sW s) p i = (match ff (fun n => (it r s (sW s) p i (1 <<< sP s p) n).testBit g) 0 61 with
        | some n => decide (sH s + i + n ≤ b)
        | none => false) := fun i => by
      unfold iT
      rw [hd, hg, hb]
      rfl
    have hlate : ∀ i, b < sH s + i → iT r s (sW s) p i = false := fun i hi => by
      rw [hI i]
      cases ff (fun n => (it r s (sW s) p i (1 <<< sP s p) n).testBit g) 0 61 with
      | none => rfl
      | some n => exact decide_eq_false (by omega)
    simp only [am_let]
    by_cases c : sH s ≤ b
    · rw [nI_sub c, min60 (by omega)]
      have hcut : fl (fun i => iT r s (sW s) p i) 61 = fl (fun i => iT r s (sW s) p i) (min 60 (b - sH s) + 1) := fl_cut 61 (by omega) (fun i a q => hlate i (by omega))
      rw [hcut]
      generalize hN : min 60 (b - sH s) = N
      generalize hres : fl (fun i => iT r s (sW s) p i) (N + 1) = res
      have L := lp (fun k (a : Int32) => f_Weeks_hoursToSpare_L36 (nI p) k (nI (b - sH s)) a h)
        (fun m a => (m = 0 ∧ a = -1 ∧ res = none) ∨ ∃ t, m = t + 1 ∧ t ≤ N ∧ a = nI t ∧ res = fl (fun i => iT r s (sW s) p i) (t + 1))
        (fun y => y = oI res)
        (fun k m a hI => by
          rcases hI with ⟨rfl, rfl, h3⟩ | ⟨t, rfl, ht, rfl, h3⟩
          · left
            rw [f_Weeks_hoursToSpare_L36, if_pos (by decide)]
            exact ⟨_, rfl, by rw [h3]; rfl⟩
          · rw [f_Weeks_hoursToSpare_L36, if_neg (nI_pos (by omega)), nI_sub (by omega)]
            simp only [am_let]
            rw [min60 (by omega), n_rd (by omega) (by decide), Option.bind_some, n_rd (by omega) (by decide), Option.bind_some, V.sp hp, V.to hp, hg, oI_some, shl1 (by omega), n_hoursFrom V V.tW hp (one_v hsp) (by omega) (by omega) (by omega), Option.bind_some]
            have hl := ff_lim (P := fun n => (it r s (sW s) p t (1 <<< sP s p) n).testBit g) (m := min 60 (b - sH s - t)) (by omega)
            have hR : iT r s (sW s) p t = (ff (fun n => (it r s (sW s) p t (1 <<< sP s p) n).testBit g) 0 (min 60 (b - sH s - t) + 1)).isSome := by
              rw [hI t, hl]
              cases hf : ff (fun n => (it r s (sW s) p t (1 <<< sP s p) n).testBit g) 0 61 with
              | none => rfl
              | some n =>
                have := (ff_some hf).2.1
                exact decide_eq_decide.mpr (by omega)
            rw [fl] at h3
            cases hf : ff (fun n => (it r s (sW s) p t (1 <<< sP s p) n).testBit g) 0 (min 60 (b - sH s - t) + 1) with
            | none =>
              rw [hf] at hR
              rw [if_neg (by rw [hR]; decide)] at h3
              right
              rw [oI_none, if_pos rfl]
              cases t with
              | zero => exact ⟨0, -1, by omega, rfl, .inl ⟨rfl, rfl, h3⟩⟩
              | succ t => exact ⟨t + 1, nI t, by omega, by rw [nI_m1 (by omega)]; rfl, .inr ⟨t, rfl, by omega, rfl, h3⟩⟩
            | some n =>
              rw [hf] at hR
              rw [if_pos (by rw [hR]; rfl)] at h3
              have := (ff_some hf).2.1
              left
              rw [oI_some, if_neg (nI_nm1 (by omega))]
              exact ⟨_, rfl, by rw [h3]; rfl⟩)
      obtain ⟨y, e1, e2⟩ := L am_fu (N + 1) (nI N) (by unfold am_fu; omega) (.inr ⟨N, rfl, Nat.le_refl _, rfl, hres.symm⟩)
      rw [← e2]
      exact e1
    · have hneg := sub_neg (a := b) (b := sH s) (by omega) (by omega) (by omega)
      rw [lt60 hneg]
      have hn : fl (fun i => iT r s (sW s) p i) 61 = none := by
        rw [fl_cut (m := 0) 61 (by omega) (fun i a q => hlate i (by omega))]
        rfl
      rw [hn]
      show f_Weeks_hoursToSpare_L36 (nI p) (4999 + 1) _ _ h = _
      rw [f_Weeks_hoursToSpare_L36, if_pos hneg]
      rfl
theorem ok_spare (b : Nat) (hb : b ≤ 90000) (x : Int32) : ok1 b (f_Top_spare x) (f_Mod_spare x) := by
  refine ok1_of (fun g h v T M => ?_)
  have TV := T.tV v (by omega)
  have k0 : keM h (am_sI h 136 0 0) := keM.s0 (by decide)
  have MV := (M.ke k0).mV v (by omega)
  have hP := TV.hP
  have hG := TV.hG
  unfold f_Top_spare f_Mod_spare
  simp only [am_let]
  rcases per TV MV x with ⟨p, hp, rfl, e1, e2⟩ | ⟨e1, e2⟩
  · rw [e1, e2, Option.bind_some, Option.bind_some, if_tt, if_tt, n_isErrand MV hp, Option.bind_some, n_rd (by omega) (by decide), Option.bind_some, TV.to hp]
    cases hc : (rTo g.1.1 p).isSome with
    | false =>
      have : rTo g.1.1 p = none := by cases h : rTo g.1.1 p with
        | none => rfl
        | some q => rw [h] at hc; cases hc
      rw [if_ff, this, oI_none, if_pos rfl]
      exact ⟨_, _, rfl, rfl, k0⟩
    | true =>
      obtain ⟨q, hq⟩ := Option.isSome_iff_exists.mp hc
      have hq1 := ((TV.1.2.2.2.2.2 p hp).2.1 q hq).1
      obtain ⟨h', a1, a2, a3⟩ := n_laysLets hp MV
      obtain ⟨y, a4⟩ := n_mSpare (MV.ex a2 (by decide)) a3 hp hc
      rw [if_tt, hq, oI_some, if_neg (nI_nm1 (by omega)), n_tSpare TV hp hc, a1, Option.bind_some, Option.bind_some, a4]
      exact ⟨_, _, rfl, rfl, k0.tr (a2.keM (by decide))⟩
  · rw [e1, e2, Option.bind_some, Option.bind_some, if_ff, if_ff]
    exact ⟨_, _, rfl, rfl, k0⟩
/-! moves -/
theorem cnt_s (c : Nat → Bool) (n : Nat) : cnt c (n + 1) = cnt c n + (if c n then 1 else 0) := rfl
theorem cnt_le (c : Nat → Bool) : ∀ n, cnt c n ≤ n
  | 0 => Nat.le_refl _
  | n + 1 => by
    have := cnt_le c n
    rw [cnt_s]
    split <;> omega
theorem oI_eqP {a b : Option Nat} (ha : ∀ g, a = some g → g < 2 ^ 31) (hb : ∀ g, b = some g → g < 2 ^ 31) : (oI a = oI b) = (a = b) := propext ⟨oI_inj ha hb, fun e => by rw [e]⟩
theorem vW.b {r : sR} {wk : Nat → Option Nat} (hr : vR r) (hw : vW r wk) {k : Nat} (hk : k < rW r) : ∀ g, wk k = some g → g < 2 ^ 31 := fun g hg => by
  have := hw k hk g hg
  have := hr.1
  omega
theorem n_movesOf {h : am_H} {r : sR} {s : sS} {q : Nat} {wk : Nat → Option Nat} (V : tV h r s) (T : tW h q r wk) : f_Weeks_movesOf q 6 h = some (nI (mvs (rW r) wk)) := by
  have hW := V.hW
  have L := lp (fun k (a : Int32 × Int32 × Int32) => f_Weeks_movesOf_L17 q 6 k a.1 a.2.1 a.2.2 h)
    (fun m a => ∃ t, m + t = rW r ∧ a = (nI (cnt (fun k => decide (wk k ≠ wk ((k + rW r - 1) % rW r))) t), oI (wk ((t + rW r - 1) % rW r)), nI t))
    (fun b => b.1 = nI (mvs (rW r) wk))
    (fun k m a hI => by
      obtain ⟨t, h1, rfl⟩ := hI
      simp only
      rw [f_Weeks_movesOf_L17, V.w]
      by_cases c : t < rW r
      · right
        have hm : (t + rW r - 1) % rW r < rW r := Nat.mod_lt _ (by omega)
        rw [if_neg (nI_ge c (by omega)), n_rd (by omega) (by decide), Option.bind_some, Option.bind_some, T.2 t c, nI_1, nI_1]
        simp only [oI_eqP (vW.b V.1 T.1 c) (vW.b V.1 T.1 hm)]
        have e : (t + 1 + rW r - 1) % rW r = t := by
          rw [show t + 1 + rW r - 1 = t + rW r by omega, Nat.add_mod_right, Nat.mod_eq_of_lt c]
        refine ⟨m - 1, (nI (cnt (fun k => decide (wk k ≠ wk ((k + rW r - 1) % rW r))) (t + 1)), oI (wk t), nI (t + 1)), by omega, ?_, t + 1, by omega, by rw [e]⟩
        rw [cnt_s]
        by_cases d : wk t = wk ((t + rW r - 1) % rW r)
        · rw [if_pos d]; simp [d]
        · rw [if_neg d]; simp [d]
      · left
        have : t = rW r := by omega
        subst this
        rw [if_pos (nI_le (Nat.le_refl _) (by omega))]
        exact ⟨_, rfl, rfl⟩)
  have e0 : (0 + rW r - 1) % rW r = rW r - 1 := by rw [Nat.zero_add, Nat.mod_eq_of_lt (by omega)]
  obtain ⟨b, e1, e2⟩ := L am_fu (rW r) (nI 0, oI (wk (rW r - 1)), nI 0) (by unfold am_fu; omega) ⟨0, by omega, by rw [e0]; rfl⟩
  unfold f_Weeks_movesOf
  have em : nI (rW r) - (1 : Int32) = nI (rW r - 1) := nI_sub (b := 1) hW.1
  have e1' : f_Weeks_movesOf_L17 q 6 am_fu 0 (oI (wk (rW r - 1))) 0 h = some b := e1
  rw [V.w, em, n_rd (by omega) (by decide), Option.bind_some, T.2 _ (by omega), e1', Option.bind_some, e2]
theorem n_movesNow {h : am_H} {r : sR} {s : sS} (V : mV (h.2.1 137) r s) : f_Mod_movesNow h = some (nI (mvs (rW r) (sW s))) := by
  have hW := V.hW
  have L := lp (fun k (a : Int32 × Int32) => f_Mod_movesNow_L4 k a.1 a.2 h)
    (fun m a => ∃ t, m + t = rW r ∧ a = (nI (cnt (fun k => decide (sW s k ≠ sW s ((k + rW r - 1) % rW r))) t), nI t))
    (fun b => b.1 = nI (mvs (rW r) (sW s)))
    (fun k m a hI => by
      obtain ⟨t, h1, rfl⟩ := hI
      simp only
      rw [f_Mod_movesNow_L4, rd_lit (by decide) (by decide), Option.bind_some, V.w]
      by_cases c : t < rW r
      · right
        have hm : (t + rW r - 1) % rW r < rW r := Nat.mod_lt _ (by omega)
        have em : nI t + nI (rW r) - (1 : Int32) = nI (t + rW r - 1) := by rw [nI_add]; exact nI_sub (b := 1) (by omega)
        have e29 : ∀ k, (29 : Int32) + nI k = nI (29 + k) := fun k => nI_add 29 k
        rw [if_neg (nI_ge c (by omega)), e29, n_rd (by omega) (by decide), Option.bind_some, Option.bind_some, Option.bind_some, em, n_md (by omega) (by omega) (by omega), Option.bind_some, e29, n_rd (by omega) (by decide), Option.bind_some, V.wk c, V.wk hm, nI_1, nI_1]
        have e00 : ∀ n, nI n + (0 : Int32) = nI n := fun n => nI_add n 0
        rw [e00]
        simp only [oI_eqP (vW.b V.1 V.vw c) (vW.b V.1 V.vw hm)]
        refine ⟨m - 1, (nI (cnt (fun k => decide (sW s k ≠ sW s ((k + rW r - 1) % rW r))) (t + 1)), nI (t + 1)), by omega, ?_, t + 1, by omega, rfl⟩
        rw [cnt_s]
        by_cases d : sW s t = sW s ((t + rW r - 1) % rW r)
        · rw [if_pos d]; simp [d]
        · rw [if_neg d]; simp [d]
      · left
        have : t = rW r := by omega
        subst this
        rw [if_pos (nI_le (Nat.le_refl _) (by omega))]
        exact ⟨_, rfl, rfl⟩)
  obtain ⟨b, e1, e2⟩ := L am_fu (rW r) (nI 0, nI 0) (by unfold am_fu; omega) ⟨0, by omega, rfl⟩
  unfold f_Mod_movesNow
  have e1' : f_Mod_movesNow_L4 am_fu 0 0 h = some b := e1
  rw [e1', Option.bind_some, e2]
theorem ok_moves (b : Nat) (hb : b ≤ 90000) : ok1 b f_Top_moves f_Mod_moves := by
  refine ok1_of (fun g h v T M => ?_)
  have TV := T.tV v (by omega)
  have k0 : keM h (am_sI h 136 0 0) := keM.s0 (by decide)
  have MV := (M.ke k0).mV v (by omega)
  unfold f_Top_moves f_Mod_moves
  simp only [am_let]
  rw [n_movesOf TV TV.tW, n_movesNow MV]
  exact ⟨_, _, rfl, rfl, k0⟩
