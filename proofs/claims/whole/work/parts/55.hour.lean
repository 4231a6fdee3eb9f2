-- deps: 31.law 32.nat 33.bit 34.spec 35.riv 36.let 37.mod 38.mod 39.it 40.ahead 41.rel 42.ask 43.why 44.meet 45.err 46.err 47.wk 48.chg 50.ways 51.way 52.tray 54.past
/-! ===== an hour passes ===== -/
/-- is at its goal in time -/
def dn1 (r : sR) (s : sS) (p : Nat) : Bool := match rTo r p, rBy r p with
  | some g, some b => decide (g = sP s p ∧ sH s ≤ b)
  | _, _ => false
def sM (r : sR) (s : sS) : sS := ((sH s, sF s, sD s ||| bts (rP r) (dn1 r s)), s.2)
def ps (r : sR) (s : sS) (p : Nat) : Nat := if hs r s p (sT s p) = 0 then mv (sP s p) (sT s p) (sW s (sH s % rW r)) else sP s p
def sN (r : sR) (s : sS) : sS := sM r ((sH s + 1, sF s - 1, sD s), sW s, ps r s, fun _ => 0)
/-- how many arrive -/
def nw (r : sR) (s : sS) : Nat := cnt (fun p => dn1 r s p && !(sD s).testBit p) (rP r)
theorem or_lt32 {a b : Nat} (ha : a < 32) (hb : b < 32) : a ||| b < 32 := Nat.or_lt_two_pow (n := 5) ha hb
theorem sM_v {b : Nat} {r : sR} {s : sS} (hr : vR r) (v : vS b r s) : vS b r (sM r s) := ⟨v.1, v.2.1, or_lt32 v.2.2.1 (bts5 hr.2.2.1), v.2.2.2⟩
theorem n_markDone {o b : Nat} {h : am_H} {r : sR} {s : sS} (hb : b < 2 ^ 30) (hr : vR r) (v : vS b r s) (R : tR 1 r h) (T : tS o r s h) (ho : 10 ≤ o) : ∃ h', f_State_markDone o 1 h = some h' ∧ am_ex [o] h h' ∧ tS o r (sM r s) h' := by
  have hP := hr.2.2.1
  have hG := hr.1
  have hH := v.1
  obtain ⟨c, f1, f2, f3⟩ := lpc2 (fun m (a1 : Int32) (a2 : am_H) => f_State_markDone_L2 o 1 m a1 a2) (rP r)
    (fun t a1 a2 => a1 = nI t ∧ am_ex [o] h a2 ∧ a2.2.1 o = va_up (h.2.1 o) 2 (nI (sD s ||| bts t (dn1 r s))))
    (fun c => am_ex [o] h c.2 ∧ c.2.2.1 o = va_up (h.2.1 o) 2 (nI (sD s ||| bts (rP r) (dn1 r s))))
    (fun m t a1 a2 ht hI => by
      obtain ⟨rfl, i2, i3⟩ := hI
      have r1 : ∀ a, a ≠ o → a2.2.1 a = h.2.1 a := fun a ha => i2.2.2 a (by simpa using ha)
      have hsp : sP s t < 9 := by rcases (v.2.2.2.2 t ht).1 with c | c <;> omega
      rw [f_State_markDone_L2, r1 1 (by omega), R.2.2.1, if_neg (nI_ge ht (by omega)), n_rd (by omega) (by decide), Option.bind_some, r1 (1 + 4) (by omega), (R.2.2.2.2.2.1 t ht).2.1, n_rd (by omega) (by decide), Option.bind_some, r1 (o + 2) (by omega), (T.2.2.2.2 t ht).1, nI_up]
      cases hg : rTo r t with
      | none =>
        rw [oI_none, if_neg (m1_nI (by omega))]
        have hd : dn1 r s t = false := by unfold dn1; rw [hg]
        exact ⟨_, _, rfl, rfl, i2, by rw [i3, bts_s, hd]; simp⟩
      | some g =>
        obtain ⟨hg1, b', hb', hb1⟩ := (hr.2.2.2.2.2 t ht).2.1 g hg
        rw [oI_some]
        by_cases c : g = sP s t
        · subst c
          rw [if_pos rfl, n_rd (by omega) (by decide), Option.bind_some, r1 (1 + 5) (by omega), (R.2.2.2.2.2.1 t ht).2.2, hb', oI_some, i3, up_n (by decide), T.1]
          by_cases d : sH s ≤ b'
          · have hd : dn1 r s t = true := by unfold dn1; rw [hg, hb']; simp [d]
            rw [if_neg (nI_nlt d (by omega))]
            simp only [am_let]
            rw [up_s, shl1 (by omega), nI_or]
            refine ⟨_, _, rfl, rfl, i2.tr (am_ex.sI (X := [o]) (by simp)) (fun _ z => z) (fun _ z => z), ?_⟩
            rw [sI_row, if_pos rfl, i3, up_up, bts_s, hd, if_tt, Nat.or_assoc]
          · have hd : dn1 r s t = false := by unfold dn1; rw [hg, hb']; simp [d]
            rw [if_pos (nI_lt (by omega) (by omega))]
            exact ⟨_, _, rfl, rfl, i2, by rw [i3, bts_s, hd]; simp⟩
        · have hd : dn1 r s t = false := by unfold dn1; rw [hg, hb']; simp [c]
          rw [if_neg (fun q => c ((nI_eq (by omega) (by omega)).mp q))]
          exact ⟨_, _, rfl, rfl, i2, by rw [i3, bts_s, hd]; simp⟩)
    (fun m a1 a2 hI => by
      obtain ⟨rfl, i2⟩ := hI
      have r1 : ∀ a, a ≠ o → a2.2.1 a = h.2.1 a := fun a ha => i2.1.2.2 a (by simpa using ha)
      rw [f_State_markDone_L2, r1 1 (by omega), R.2.2.1, if_pos (nI_le (Nat.le_refl _) (by omega))]
      exact ⟨_, rfl, i2⟩) (by unfold am_fu; omega) 0 h ⟨rfl, am_ex.rf, by
        show _ = va_up (h.2.1 o) 2 (nI (sD s ||| 0))
        rw [Nat.or_zero, ← T.2.2.1, up_id]⟩
  unfold f_State_markDone
  rw [f1, Option.bind_some]
  refine ⟨_, rfl, f2, ?_, ?_, ?_, fun k hk => ?_, fun p hp => ⟨?_, ?_⟩⟩
  · rw [f3, up_n (by decide)]; exact T.1
  · rw [f3, up_n (by decide)]; exact T.2.1
  · rw [f3, up_s]; rfl
  · rw [f2.2.2 (o + 1) (by simp)]; exact T.2.2.2.1 k hk
  · rw [f2.2.2 (o + 2) (by simp)]; exact (T.2.2.2.2 p hp).1
  · rw [f2.2.2 (o + 3) (by simp)]; exact (T.2.2.2.2 p hp).2
/-- some people have gone -/
def sQ (r : sR) (s : sS) (t : Nat) : sS := (s.1, sW s, fun p => if p < t then ps r s p else sP s p, fun p => if p < t then 0 else sT s p)
theorem sQ_hs {r : sR} {s : sS} {t a : Nat} : hs r (sQ r s t) t a = hs r s t a := by
  have : sP (sQ r s t) t = sP s t := by
    show (if t < t then ps r s t else sP s t) = sP s t
    rw [if_neg (by omega)]
  unfold hs
  rw [this]
  rfl
theorem ps_v {b : Nat} {r : sR} {s : sS} {p : Nat} (hr : vR r) (v : vS b r s) (hp : p < rP r) : vSp (rG r) (ps r s p) := by
  have hm : sH s % rW r < rW r := Nat.mod_lt _ (by have := hr.2.1; omega)
  unfold ps
  by_cases c : hs r s p (sT s p) = 0
  · rw [if_pos c]
    exact (hi_mv hr (v.2.2.2.2 p hp).1 (v.2.2.2.1 _ hm) (v.2.2.2.2 p hp).2 c).2.2
  · rw [if_neg c]
    exact (v.2.2.2.2 p hp).1
theorem sQ_v {b : Nat} {r : sR} {s : sS} {t : Nat} (hr : vR r) (v : vS b r s) : vS b r (sQ r s t) := by
  refine ⟨v.1, v.2.1, v.2.2.1, v.2.2.2.1, fun p hp => ?_⟩
  show vSp (rG r) (if p < t then ps r s p else sP s p) ∧ (if p < t then 0 else sT s p) ≤ 6
  by_cases c : p < t
  · rw [if_pos c, if_pos c]
    exact ⟨ps_v hr v hp, by omega⟩
  · rw [if_neg c, if_neg c]
    exact v.2.2.2.2 p hp
theorem sN_v {b : Nat} {r : sR} {s : sS} (hr : vR r) (v : vS b r s) : vS (b + 1) r (sN r s) := by
  have h1 := v.1
  have h2 := v.2.1
  refine sM_v hr ⟨?_, ?_, v.2.2.1, v.2.2.2.1, fun p hp => ⟨ps_v hr v hp, ?_⟩⟩
  · show sH s + 1 ≤ b + 1
    omega
  · show sF s - 1 ≤ 99
    omega
  · exact Nat.zero_le 6
theorem n_pass {o b : Nat} {h : am_H} {r : sR} {s : sS} (hb : b ≤ 99999) (hr : vR r) (v : vS b r s) (R : tR 1 r h) (T : tS o r s h) (ho : 10 ≤ o) : ∃ h', f_State_passHour o 1 h = some h' ∧ am_ex [o, o + 2, o + 3] h h' ∧ tS o r (sN r s) h' := by
  have hP := hr.2.2.1
  have hG := hr.1
  have hW := hr.2.1
  have hH := v.1
  have hF := v.2.1
  have hm : sH s % rW r < rW r := Nat.mod_lt _ (by omega)
  have v1 : vS 100000 r s := v.up (by omega)
  obtain ⟨c, f1, f2, f3⟩ := lpc2 (fun m (a1 : Int32) (a2 : am_H) => f_State_passHour_L8 o 1 m (oI (sW s (sH s % rW r))) a1 a2) (rP r)
    (fun t a1 a2 => a1 = nI t ∧ am_ex [o + 2, o + 3] h a2 ∧ tS o r (sQ r s t) a2)
    (fun c => am_ex [o + 2, o + 3] h c.2 ∧ tS o r (sQ r s (rP r)) c.2)
    (fun m t a1 a2 ht hI => by
      obtain ⟨rfl, i2, i3⟩ := hI
      have R2 : tR 1 r a2 := R.cg (fun a _ _ => i2.2.2 a (by simp; omega))
      have X : tX o a2 r (sQ r s t) := ⟨hr, sQ_v hr v1, R2, i3⟩
      have eT : sT (sQ r s t) t = sT s t := by
        show (if t < t then 0 else sT s t) = sT s t
        rw [if_neg (by omega)]
      have eP : sP (sQ r s t) t = sP s t := by
        show (if t < t then ps r s t else sP s t) = sP s t
        rw [if_neg (by omega)]
      have hvt := (v.2.2.2.2 t ht)
      have hx9 : sP s t < 9 := by rcases hvt.1 with c | c <;> omega
      have e4 : f_State_hindrance o 1 (nI t) (nI (sT s t)) a2 = some (nI (hs r s t (sT s t))) := by rw [n_stHind X ht hvt.2, sQ_hs]
      rw [f_State_passHour_L8, R2.2.2.1, if_neg (nI_ge ht (by omega)), n_rd (by omega) (by decide), Option.bind_some, (i3.2.2.2.2 t ht).2, eT, e4, Option.bind_some, nI_up]
      have key : ∀ a3, am_ex [o + 2] a2 a3 → (∀ p, p < rP r → a3.2.1 (o + 2) p = nI (if p < t + 1 then ps r s p else sP s p)) → ∃ b1 b2, (am_wr a3 (o + 3) 5 (nI t) 0).bind (fun h11 => f_State_passHour_L8 o 1 m (oI (sW s (sH s % rW r))) (nI (t + 1)) h11) = f_State_passHour_L8 o 1 m (oI (sW s (sH s % rW r))) b1 b2 ∧ b1 = nI (t + 1) ∧ am_ex [o + 2, o + 3] h b2 ∧ tS o r (sQ r s (t + 1)) b2 := fun a3 x3 e3 => by
        rw [n_wr (by omega) (by decide), Option.bind_some]
        have x4 : am_ex [o + 2, o + 3] a2 (am_sI a3 (o + 3) t 0) := x3.tr (am_ex.sI (X := [o + 3]) (by simp)) (by simp) (by simp)
        refine ⟨_, _, rfl, rfl, i2.tr x4 (fun _ z => z) (fun _ z => z), ?_, ?_, ?_, fun k hk => ?_, fun p hp => ⟨?_, ?_⟩⟩
        · rw [x4.2.2 o (by simp)]; exact i3.1
        · rw [x4.2.2 o (by simp)]; exact i3.2.1
        · rw [x4.2.2 o (by simp)]; exact i3.2.2.1
        · rw [x4.2.2 (o + 1) (by simp)]; exact i3.2.2.2.1 k hk
        · rw [sI_row, if_neg (by omega), e3 p hp]; rfl
        · rw [sI_row, if_pos rfl]
          show _ = nI (if p < t + 1 then 0 else sT s p)
          by_cases c : p = t
          · subst c; rw [up_s, if_pos (by omega)]; rfl
          · rw [up_n c, x3.2.2 (o + 3) (by simp), (i3.2.2.2.2 p hp).2]
            show nI (if p < t then 0 else sT s p) = _
            by_cases d : p < t
            · rw [if_pos d, if_pos (by omega)]
            · rw [if_neg d, if_neg (by omega)]
      have old : ∀ p, p < rP r → p ≠ t → a2.2.1 (o + 2) p = nI (if p < t + 1 then ps r s p else sP s p) := fun p hp hpt => by
        rw [(i3.2.2.2.2 p hp).1]
        show nI (if p < t then ps r s p else sP s p) = _
        by_cases d : p < t
        · rw [if_pos d, if_pos (by omega)]
        · rw [if_neg d, if_neg (by omega)]
      by_cases c : hs r s t (sT s t) = 0
      · obtain ⟨m1, m2, m3⟩ := hi_mv hr hvt.1 (v.2.2.2.1 _ hm) hvt.2 c
        rw [c, if_pos (show nI 0 = 0 from rfl), n_rd (by omega) (by decide), Option.bind_some, Option.bind_some, (i3.2.2.2.2 t ht).1, eP, n_moved (G := rG r) hx9 hvt.2 m1 m2, Option.bind_some, n_wr (by omega) (by decide), Option.bind_some, Option.bind_some]
        refine key _ (am_ex.sI (by simp)) (fun p hp => ?_)
        rw [sI_row, if_pos rfl]
        by_cases d : p = t
        · subst d
          rw [up_s, if_pos (by omega)]
          unfold ps
          rw [if_pos c]
        · rw [up_n d]; exact old p hp d
      · have h4 := hi_lt (r := r) (p := t) (k := sH s % rW r) (f := fg s 0) (x := sP s t) (a := sT s t) (l := sW s (sH s % rW r))
        have h4' : hs r s t (sT s t) < 4 := h4
        rw [if_neg (show ¬ nI _ = (0 : Int32) from fun q => c ((nI_eq (b := 0) (by omega) (by decide)).mp q)), Option.bind_some]
        refine key _ am_ex.rf (fun p hp => ?_)
        by_cases d : p = t
        · subst d
          rw [(i3.2.2.2.2 p ht).1, eP, if_pos (by omega)]
          unfold ps
          rw [if_neg c]
        · exact old p hp d)
    (fun m a1 a2 hI => by
      obtain ⟨rfl, i2, i3⟩ := hI
      have R2 : tR 1 r a2 := R.cg (fun a _ _ => i2.2.2 a (by simp; omega))
      rw [f_State_passHour_L8, R2.2.2.1, if_pos (nI_le (Nat.le_refl _) (by omega))]
      exact ⟨_, rfl, i2, i3⟩) (by unfold am_fu; omega) 0 h ⟨rfl, am_ex.rf, T⟩
  obtain ⟨c1, c2⟩ := c
  simp only at f2 f3
  have X0 : tX o h r s := ⟨hr, v1, R, T⟩
  unfold f_State_passHour
  rw [n_lies X0, Option.bind_some, f1, Option.bind_some]
  simp only [am_let]
  rw [f3.1, show nI (sH (sQ r s (rP r))) + (1 : Int32) = nI (sH s + 1) from nI_up]
  have e1 : (am_sI c2 o 0 (nI (sH s + 1))).2.1 o 1 = nI (sF s) := by rw [sI_row, if_pos rfl, up_n (by decide)]; exact f3.2.1
  rw [e1]
  have eF : (if (0 : Int32) < nI (sF s) - (1 : Int32) then nI (sF s) - (1 : Int32) else (0 : Int32)) = nI (sF s - 1) := by
    by_cases c : sF s = 0
    · rw [c]; rfl
    · have : nI (sF s) - (1 : Int32) = nI (sF s - 1) := nI_sub (b := 1) (by omega)
      rw [this]
      by_cases d : sF s - 1 = 0
      · rw [d]; rfl
      · rw [if_pos (show (0 : Int32) < nI (sF s - 1) from nI_lt (a := 0) (by omega) (by omega))]
  rw [eF]
  have T2 : tS o r ((sH s + 1, sF s - 1, sD s), sW s, ps r s, fun _ => 0) (am_sI (am_sI c2 o 0 (nI (sH s + 1))) o 1 (nI (sF s - 1))) := by
    have ro : ∀ a, a ≠ o → (am_sI (am_sI c2 o 0 (nI (sH s + 1))) o 1 (nI (sF s - 1))).2.1 a = c2.2.1 a := fun a ha => by rw [sI_row, if_neg ha, sI_row, if_neg ha]
    refine ⟨?_, ?_, ?_, fun k hk => ?_, fun p hp => ⟨?_, ?_⟩⟩
    · rw [sI_row, if_pos rfl, up_n (by decide), sI_row, if_pos rfl, up_s]; rfl
    · rw [sI_row, if_pos rfl, up_s]; rfl
    · rw [sI_row, if_pos rfl, up_n (by decide), sI_row, if_pos rfl, up_n (by decide)]; exact f3.2.2.1
    · rw [ro (o + 1) (by omega)]; exact f3.2.2.2.1 k hk
    · rw [ro (o + 2) (by omega), (f3.2.2.2.2 p hp).1]
      show nI (if p < rP r then ps r s p else sP s p) = nI (ps r s p)
      rw [if_pos hp]
    · rw [ro (o + 3) (by omega), (f3.2.2.2.2 p hp).2]
      show nI (if p < rP r then 0 else sT s p) = nI 0
      rw [if_pos hp]
  have x2 : am_ex [o, o + 2, o + 3] h (am_sI (am_sI c2 o 0 (nI (sH s + 1))) o 1 (nI (sF s - 1))) := (f2.tr (am_ex.sI (X := [o]) (by simp)) (Z := [o, o + 2, o + 3]) (by simp) (by simp)).tr (am_ex.sI (X := [o]) (by simp)) (fun _ z => z) (by simp)
  have R3 : tR 1 r (am_sI (am_sI c2 o 0 (nI (sH s + 1))) o 1 (nI (sF s - 1))) := R.cg (fun a _ _ => x2.2.2 a (by simp; omega))
  have v3 : vS 100001 r ((sH s + 1, sF s - 1, sD s), sW s, ps r s, fun _ => 0) := by
    refine ⟨?_, ?_, v.2.2.1, v.2.2.2.1, fun p hp => ⟨ps_v hr v hp, Nat.zero_le 6⟩⟩
    · show sH s + 1 ≤ 100001
      omega
    · show sF s - 1 ≤ 99
      omega
  obtain ⟨h4, d1, d2, d3⟩ := n_markDone (by decide) hr v3 R3 T2 ho
  rw [d1, Option.bind_some]
  exact ⟨_, rfl, x2.tr d2 (fun _ z => z) (by simp), d3⟩
/-! the reference -/
theorem n_doesErrands {h : am_H} {r : sR} {s : sS} (V : mV (h.2.1 137) r s) : ∃ h', f_Mod_doesErrands h = some (nI (nw r s), h') ∧ mW h h' ∧ mS (h'.2.1 137) 26 r (sM r s) ∧ ∀ a, a ≠ 137 → h'.2.1 a = h.2.1 a := by
  have hP := V.hP
  have hG := V.hG
  have hH := V.hH
  have hD : sD s < 32 := V.2.1.2.2.1
  obtain ⟨c, f1, f2, f3, f4⟩ := lpc3 (fun m (a1 : Int32) (a2 : Int32) (a3 : am_H) => f_Mod_doesErrands_L4 m a1 a2 a3) (rP r)
    (fun t a1 a2 a3 => a1 = nI (cnt (fun p => dn1 r s p && !(sD s).testBit p) t) ∧ a2 = nI t ∧ am_ex [137] h a3 ∧ a3.2.1 137 = va_up (h.2.1 137) 28 (nI (sD s ||| bts t (dn1 r s))))
    (fun c => c.1 = nI (nw r s) ∧ am_ex [137] h c.2.2 ∧ c.2.2.2.1 137 = va_up (h.2.1 137) 28 (nI (sD s ||| bts (rP r) (dn1 r s))))
    (fun m t a1 a2 a3 ht hI => by
      obtain ⟨rfl, rfl, i2, i3⟩ := hI
      have hsp : sP s t < 9 := by rcases V.hsp ht with c | c <;> omega
      have hDb : sD s ||| bts t (dn1 r s) < 32 := or_lt32 hD (bts5 (by omega))
      have e16 : (16 : Int32) + nI t = nI (16 + t) := nI_add 16 t
      have e35 : (35 : Int32) + nI t = nI (35 + t) := nI_add 35 t
      have e21 : (21 : Int32) + nI t = nI (21 + t) := nI_add 21 t
      have hbt : (sD s ||| bts t (dn1 r s)).testBit t = (sD s).testBit t := by
        rw [Nat.testBit_or, bts_t]
        simp
      have rd : ∀ j, j ≠ 28 → a3.2.1 137 j = h.2.1 137 j := fun j hj => by rw [i3, up_n hj]
      rw [f_Mod_doesErrands_L4, rd_lit (by decide) (by decide), Option.bind_some, rd 3 (by decide), V.p, if_neg (nI_ge ht (by omega)), rd_lit (by decide) (by decide), Option.bind_some, i3, up_s, n_isIn (by omega) (by omega), Option.bind_some, hbt, nI_up, ← i3]
      have same : dn1 r s t = false ∨ (sD s).testBit t = true → a3.2.1 137 = va_up (h.2.1 137) 28 (nI (sD s ||| bts (t + 1) (dn1 r s))) := fun q => by
        rw [i3]
        congr 2
        rw [bts_s]
        apply Nat.eq_of_testBit_eq
        intro j
        rw [Nat.testBit_or, Nat.testBit_or, Nat.testBit_or]
        rcases q with q | q
        · rw [q]; simp
        · cases dn1 r s t
          · simp
          · rw [if_tt, Nat.one_shiftLeft, Nat.testBit_two_pow]
            by_cases e : t = j
            · subst e; rw [q]; simp
            · simp [e]
      have cs : dn1 r s t = false ∨ (sD s).testBit t = true → nI (cnt (fun p => dn1 r s p && !(sD s).testBit p) t) = nI (cnt (fun p => dn1 r s p && !(sD s).testBit p) (t + 1)) := fun q => by
        rw [cnt_s]
        rcases q with q | q <;> simp [q]
      cases hb : (sD s).testBit t with
      | true =>
        rw [if_tt]
        exact ⟨_, _, _, rfl, cs (.inr hb), rfl, i2, same (.inr hb)⟩
      | false =>
        rw [if_ff, e16, n_rd (by omega) (by decide), Option.bind_some, rd _ (by omega), V.to ht, e35, n_rd (by omega) (by decide), Option.bind_some, rd _ (by omega), V.sp ht]
        cases hg : rTo r t with
        | none =>
          have hd : dn1 r s t = false := by unfold dn1; rw [hg]
          rw [oI_none, if_neg (m1_nI (by omega))]
          exact ⟨_, _, _, rfl, cs (.inl hd), rfl, i2, same (.inl hd)⟩
        | some g =>
          obtain ⟨hg1, b', hb', hb1⟩ := (V.1.2.2.2.2.2 t ht).2.1 g hg
          rw [oI_some]
          by_cases c : g = sP s t
          · subst c
            rw [if_pos rfl, rd_lit (by decide) (by decide), Option.bind_some, rd _ (by omega), V.ho, e21, n_rd (by omega) (by decide), Option.bind_some, rd _ (by omega), V.by ht, hb', oI_some]
            by_cases d : sH s ≤ b'
            · have hd : dn1 r s t = true := by unfold dn1; rw [hg, hb']; simp [d]
              rw [if_pos (nI_le d (by omega)), Option.bind_some, shl1 (by omega), nI_or, wr_lit (by decide) (by decide), Option.bind_some, nI_up]
              refine ⟨_, _, _, rfl, ?_, rfl, i2.tr (am_ex.sI (X := [137]) (by simp)) (fun _ z => z) (fun _ z => z), ?_⟩
              · rw [cnt_s]; simp [hd, hb]
              · rw [sI_row, if_pos rfl, i3, up_up, bts_s, hd, if_tt, Nat.or_assoc]
            · have hd : dn1 r s t = false := by unfold dn1; rw [hg, hb']; simp [d]
              rw [if_neg (nI_ge (by omega) (by omega))]
              exact ⟨_, _, _, rfl, cs (.inl hd), rfl, i2, same (.inl hd)⟩
          · have hd : dn1 r s t = false := by unfold dn1; rw [hg, hb']; simp [c]
            rw [if_neg (fun q => c ((nI_eq (by omega) (by omega)).mp q))]
            exact ⟨_, _, _, rfl, cs (.inl hd), rfl, i2, same (.inl hd)⟩)
    (fun m a1 a2 a3 hI => by
      obtain ⟨rfl, rfl, i2, i3⟩ := hI
      rw [f_Mod_doesErrands_L4, rd_lit (by decide) (by decide), Option.bind_some, i3, up_n (by decide), V.p, if_pos (nI_le (Nat.le_refl _) (by omega))]
      exact ⟨_, rfl, rfl, i2, i3⟩) (by unfold am_fu; omega) 0 0 h ⟨rfl, rfl, am_ex.rf, by
        show _ = va_up (h.2.1 137) 28 (nI (sD s ||| 0))
        rw [Nat.or_zero, ← V.dn, up_id]⟩
  unfold f_Mod_doesErrands
  rw [f1, Option.bind_some, f2]
  refine ⟨_, rfl, ⟨f3.frM (by decide), fun a ha => f3.2.2 a (by simp; omega), by rw [f3.2.1], ⟨by rw [f3.2.2 136 (by decide)], by rw [f3.2.2 136 (by decide)], by rw [f3.2.2 136 (by decide)]⟩, fun j hj => by rw [f4, up_n (by omega)]⟩, ⟨?_, ?_, ?_, fun k hk => ?_, fun p hp => ⟨?_, ?_⟩⟩, fun a ha => f3.2.2 a (by simpa using ha)⟩
  · rw [f4, up_n (by decide)]; exact V.ho
  · rw [f4, up_n (by decide)]; exact V.fo
  · rw [f4, up_s]; rfl
  · rw [f4, up_n (by have := V.hW; omega)]; exact V.wk hk
  · rw [f4, up_n (by omega)]; exact V.sp hp
  · rw [f4, up_n (by omega)]; exact V.ac hp
theorem n_goesHour {b : Nat} {h : am_H} {r : sR} {s : sS} (hb : b ≤ 99999) (vb : vS b r s) (V : mV (h.2.1 137) r s) : ∃ h', f_Mod_goesHour h = some (nI (nw r ((sH s + 1, sF s - 1, sD s), sW s, ps r s, fun _ => 0)), h') ∧ mW h h' ∧ mS (h'.2.1 137) 26 r (sN r s) ∧ ∀ a, a = 136 ∨ a = 143 → h'.2.1 a = h.2.1 a := by
  have hP := V.hP
  have hG := V.hG
  have hW := V.hW
  have hH := vb.1
  have hF := V.hF
  have hr := V.1
  have hm : sH s % rW r < rW r := Nat.mod_lt _ (by omega)
  have v := V.2.1
  obtain ⟨c, f1, f2, f3, f4⟩ := lpc2 (fun m (a1 : Int32) (a2 : am_H) => f_Mod_goesHour_L2 m a1 a2) (rP r)
    (fun t a1 a2 => a1 = nI t ∧ mW h a2 ∧ mS (a2.2.1 137) 26 r (sQ r s t) ∧ ∀ a, a = 136 ∨ a = 143 → a2.2.1 a = h.2.1 a)
    (fun c => mW h c.2 ∧ mS (c.2.2.1 137) 26 r (sQ r s (rP r)) ∧ ∀ a, a = 136 ∨ a = 143 → c.2.2.1 a = h.2.1 a)
    (fun m t a1 a2 ht hI => by
      obtain ⟨rfl, i2, i3, i4⟩ := hI
      have V2 : mV (a2.2.1 137) r (sQ r s t) := i2.mV V (sQ_v hr v) i3
      have eT : sT (sQ r s t) t = sT s t := by
        show (if t < t then 0 else sT s t) = sT s t
        rw [if_neg (by omega)]
      have eP : sP (sQ r s t) t = sP s t := by
        show (if t < t then ps r s t else sP s t) = sP s t
        rw [if_neg (by omega)]
      have hvt := (v.2.2.2.2 t ht)
      have hx9 : sP s t < 9 := by rcases hvt.1 with c | c <;> omega
      have e40 : (40 : Int32) + nI t = nI (40 + t) := nI_add 40 t
      have e35 : (35 : Int32) + nI t = nI (35 + t) := nI_add 35 t
      obtain ⟨h1, d1, d2⟩ := n_whyTold V2 ht hvt.2
      rw [sQ_hs] at d1
      have V3 := V2.ex d2 (by decide)
      have w3 := i2.tr (d2.keM (by decide)).mW
      have r143 : ∀ a, a = 136 ∨ a = 143 → h1.2.1 a = h.2.1 a := fun a ha => by rw [d2.2.2 a (by simp; omega)]; exact i4 a ha
      have key : ∀ a3, (∀ a, a ≠ 137 → a3.2.1 a = h1.2.1 a) → mW h1 a3 → (∀ j, j < 35 ∨ 40 ≤ j → a3.2.1 137 j = h1.2.1 137 j) → (∀ p, p < rP r → a3.2.1 137 (35 + p) = nI (if p < t + 1 then ps r s p else sP s p)) → ∃ b1 b2, (am_wr a3 137 3411 (nI (40 + t)) 0).bind (fun h12 => f_Mod_goesHour_L2 m (nI (t + 1)) h12) = f_Mod_goesHour_L2 m b1 b2 ∧ b1 = nI (t + 1) ∧ mW h b2 ∧ mS (b2.2.1 137) 26 r (sQ r s (t + 1)) ∧ ∀ a, a = 136 ∨ a = 143 → b2.2.1 a = h.2.1 a := fun a3 e0 w4 e1 e2 => by
        rw [n_wr (by omega) (by decide), Option.bind_some]
        have rr : ∀ j, j ≠ 40 + t → (am_sI a3 137 (40 + t) 0).2.1 137 j = a3.2.1 137 j := fun j hj => by rw [sI_row, if_pos rfl, up_n hj]
        refine ⟨_, _, rfl, rfl, (w3.tr w4).tr (mW.sI (by omega)), ⟨?_, ?_, ?_, fun k hk => ?_, fun p hp => ⟨?_, ?_⟩⟩, fun a ha => ?_⟩
        · rw [rr 26 (by omega), e1 26 (by omega)]; exact V3.ho
        · rw [rr _ (by omega), e1 _ (by omega)]; exact V3.fo
        · rw [rr _ (by omega), e1 _ (by omega)]; exact V3.dn
        · rw [rr _ (by omega), e1 _ (by omega)]; exact V3.wk hk
        · rw [rr _ (by omega)]
          show a3.2.1 137 (35 + p) = _
          rw [e2 p hp]; rfl
        · show (am_sI a3 137 (40 + t) 0).2.1 137 (40 + p) = nI (if p < t + 1 then 0 else sT s p)
          by_cases c : p = t
          · subst c; rw [sI_row, if_pos rfl, up_s, if_pos (by omega)]; rfl
          · rw [rr _ (by omega), e1 _ (by omega), V3.ac hp]
            show nI (if p < t then 0 else sT s p) = _
            by_cases d : p < t
            · rw [if_pos d, if_pos (by omega)]
            · rw [if_neg d, if_neg (by omega)]
        · rw [sI_row, if_neg (by omega), e0 a (by omega)]; exact r143 a ha
      have old : ∀ p, p < rP r → p ≠ t → h1.2.1 137 (35 + p) = nI (if p < t + 1 then ps r s p else sP s p) := fun p hp hpt => by
        rw [V3.sp hp]
        show nI (if p < t then ps r s p else sP s p) = _
        by_cases d : p < t
        · rw [if_pos d, if_pos (by omega)]
        · rw [if_neg d, if_neg (by omega)]
      rw [f_Mod_goesHour_L2, rd_lit (by decide) (by decide), Option.bind_some, V2.p, if_neg (nI_ge ht (by omega)), e40, n_rd (by omega) (by decide), Option.bind_some, V2.ac ht, eT, nI_l (by omega), nI_l (by omega), d1, Option.bind_some, nI_up]
      simp only
      by_cases c : hs r s t (sT s t) = 0
      · obtain ⟨m1, m2, m3⟩ := hi_mv hr hvt.1 (v.2.2.2.1 _ hm) hvt.2 c
        have el : f_Mod_leads (nI (sP s t)) (nI (sT s t)) (oI (sW (sQ r s t) (sH (sQ r s t) % rW r))) h1 = some (nI (mv (sP s t) (sT s t) (sW s (sH s % rW r)))) := n_leads' V3 hvt.1 (v.2.2.2.1 _ hm) hvt.2 c
        rw [c, if_pos (show nI 0 = 0 from rfl), e35, n_rd (by omega) (by decide), Option.bind_some, rd_lit (by decide) (by decide), Option.bind_some, V3.ho, n_spanIn V3 (by have := V3.hH; omega), Option.bind_some, V3.sp ht, eP, el, Option.bind_some, n_wr (by omega) (by decide), Option.bind_some, Option.bind_some]
        refine key _ (fun a ha => by rw [sI_row, if_neg ha]) (mW.sI (by omega)) (fun j hj => by rw [sI_row, if_pos rfl, up_n (by omega)]) (fun p hp => ?_)
        rw [sI_row, if_pos rfl]
        by_cases d : p = t
        · subst d
          rw [up_s, if_pos (by omega)]
          unfold ps
          rw [if_pos c]
        · rw [up_n (by omega)]; exact old p hp d
      · have h4 : hs r s t (sT s t) < 4 := hi_lt
        rw [if_neg (show ¬ nI _ = (0 : Int32) from fun q => c ((nI_eq (b := 0) (by omega) (by decide)).mp q)), Option.bind_some]
        refine key _ (fun a ha => rfl) mW.rf (fun j hj => rfl) (fun p hp => ?_)
        by_cases d : p = t
        · subst d
          rw [V3.sp hp, eP, if_pos (by omega)]
          unfold ps
          rw [if_neg c]
        · exact old p hp d)
    (fun m a1 a2 hI => by
      obtain ⟨rfl, i2, i3, i4⟩ := hI
      have V2 : mV (a2.2.1 137) r (sQ r s (rP r)) := i2.mV V (sQ_v hr v) i3
      rw [f_Mod_goesHour_L2, rd_lit (by decide) (by decide), Option.bind_some, V2.p, if_pos (nI_le (Nat.le_refl _) (by omega))]
      exact ⟨_, rfl, i2, i3, i4⟩) (by unfold am_fu; omega) 0 h ⟨rfl, mW.rf, V.2.2.2, fun _ _ => rfl⟩
  obtain ⟨c1, c2⟩ := c
  simp only at f2 f3 f4
  have V2 : mV (c2.2.1 137) r (sQ r s (rP r)) := f2.mV V (sQ_v hr v) f3
  have hF2 : (am_sI c2 137 26 (nI (sH s + 1))).2.1 137 27 = nI (sF s) := by rw [sI_row, if_pos rfl, up_n (by decide)]; exact V2.fo
  have v3 : vS 100000 r ((sH s + 1, sF s - 1, sD s), sW s, ps r s, fun _ => 0) := by
    refine ⟨?_, ?_, v.2.2.1, v.2.2.2.1, fun p hp => ⟨ps_v hr v hp, Nat.zero_le 6⟩⟩
    · show sH s + 1 ≤ 100000
      omega
    · show sF s - 1 ≤ 99
      omega
  -- the row after the hour and the fog
  have key : ∀ a3, (∀ a, a ≠ 137 → a3.2.1 a = c2.2.1 a) → mW c2 a3 → a3.2.1 137 26 = nI (sH s + 1) → a3.2.1 137 27 = nI (sF s - 1) → (∀ j, 28 ≤ j → a3.2.1 137 j = c2.2.1 137 j) → ∃ h', ((f_Mod_doesErrands a3).bind fun q21 => some (q21.1, q21.2)) = some (nI (nw r ((sH s + 1, sF s - 1, sD s), sW s, ps r s, fun _ => 0)), h') ∧ mW h h' ∧ mS (h'.2.1 137) 26 r (sN r s) ∧ ∀ a, a = 136 ∨ a = 143 → h'.2.1 a = h.2.1 a := fun a3 e0 w4 e1 e2 e3 => by
    have w5 := f2.tr w4
    have M5 : mS (a3.2.1 137) 26 r ((sH s + 1, sF s - 1, sD s), sW s, ps r s, fun _ => 0) := by
      refine ⟨e1, e2, ?_, fun k hk => ?_, fun p hp => ⟨?_, ?_⟩⟩
      · rw [e3 _ (by omega)]; exact V2.dn
      · rw [e3 _ (by omega)]; exact V2.wk hk
      · rw [e3 _ (by omega)]
        show c2.2.1 137 (35 + p) = _
        rw [V2.sp hp]
        show nI (if p < rP r then ps r s p else sP s p) = nI (ps r s p)
        rw [if_pos hp]
      · rw [e3 _ (by omega)]
        show c2.2.1 137 (40 + p) = _
        rw [V2.ac hp]
        show nI (if p < rP r then 0 else sT s p) = nI 0
        rw [if_pos hp]
    obtain ⟨h', d1, d2, d3, d4⟩ := n_doesErrands (w5.mV V v3 M5)
    rw [d1, Option.bind_some]
    exact ⟨h', rfl, w5.tr d2, d3, fun a ha => by rw [d4 a (by omega), e0 a (by omega)]; exact f4 a ha⟩
  unfold f_Mod_goesHour
  rw [f1, Option.bind_some]
  simp only
  rw [rd_lit (by decide) (by decide), Option.bind_some, V2.ho, show nI (sH (sQ r s (rP r))) + (1 : Int32) = nI (sH s + 1) from nI_up, wr_lit (by decide) (by decide), Option.bind_some, rd_lit (by decide) (by decide), Option.bind_some, hF2]
  by_cases c : sF s = 0
  · rw [c, if_pos (show nI 0 ≤ (0 : Int32) by decide), Option.bind_some]
    refine key _ (fun a ha => by rw [sI_row, if_neg ha]) (mW.sI (by omega)) (by rw [sI_row, if_pos rfl, up_s]) (by rw [hF2, c]) (fun j hj => by rw [sI_row, if_pos rfl, up_n (by omega)])
  · have : nI (sF s) - (1 : Int32) = nI (sF s - 1) := nI_sub (b := 1) (by omega)
    rw [if_neg (show ¬ nI (sF s) ≤ (0 : Int32) from nI_ge (a := 0) (by omega) (by omega)), Option.bind_some, this, wr_lit (by decide) (by decide), Option.bind_some, Option.bind_some]
    refine key _ (fun a ha => by rw [sI_row, if_neg ha, sI_row, if_neg ha]) ((mW.sI (by omega)).tr (mW.sI (by omega))) ?_ ?_ (fun j hj => ?_)
    · rw [sI_row, if_pos rfl, up_n (by decide), sI_row, if_pos rfl, up_s]
    · rw [sI_row, if_pos rfl, up_s]
    · rw [sI_row, if_pos rfl, up_n (by omega), sI_row, if_pos rfl, up_n (by omega)]
