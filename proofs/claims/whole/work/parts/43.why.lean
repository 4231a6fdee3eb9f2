-- deps: 31.law 32.nat 33.bit 34.spec 35.riv 36.let 37.mod 38.mod 39.it 40.ahead 41.rel 42.ask
theorem if_ff {α : Type} {a b : α} : (if false = true then a else b) = b := rfl
theorem if_tt {α : Type} {a b : α} : (if true = true then a else b) = a := rfl
/-- why a person can't do an act now -/
def hs (r : sR) (s : sS) (p act : Nat) : Nat := hi r p (sH s % rW r) (fg s 0) (sP s p) act (sW s (sH s % rW r))
/-- a state of the class in its river -/
def tX (o : Nat) (h : am_H) (r : sR) (s : sS) : Prop := vR r ∧ vS 100000 r s ∧ tR 1 r h ∧ tS o r s h
theorem n_lies {o : Nat} {h : am_H} {r : sR} {s : sS} (V : tX o h r s) : f_State_lies o 1 h = some (oI (sW s (sH s % rW r))) := by
  have hW := V.1.2.1
  have hH := V.2.1.1
  have hm : sH s % rW r < rW r := Nat.mod_lt _ (by omega)
  unfold f_State_lies
  rw [V.2.2.2.1, n_hourOfWeek V.1 V.2.2.1 (by omega), Option.bind_some, n_rd (by omega) (by decide), Option.bind_some, V.2.2.2.2.2.2.1 _ hm]
theorem n_stHind {o : Nat} {h : am_H} {r : sR} {s : sS} {p act : Nat} (V : tX o h r s) (hp : p < rP r) (ha : act ≤ 6) : f_State_hindrance o 1 (nI p) (nI act) h = some (nI (hs r s p act)) := by
  have hW := V.1.2.1
  have hP := V.1.2.2.1
  have hH := V.2.1.1
  have hF := V.2.1.2.1
  have hm : sH s % rW r < rW r := Nat.mod_lt _ (by omega)
  have hf : (if h.2.1 o 1 ≤ 0 then (0 : Int32) else 1) = nI (fg s 0) := by
    rw [V.2.2.2.2.1]
    unfold fg
    by_cases c : 0 < sF s
    · rw [if_pos c, if_neg (nI_nle c (by omega))]; rfl
    · rw [if_neg c, if_pos (by rw [show sF s = 0 by omega]; decide)]; rfl
  unfold f_State_hindrance hs
  rw [n_hasPerson V.1 V.2.2.1 hp, Option.bind_some, if_pos rfl, V.2.2.2.1, n_hourOfWeek V.1 V.2.2.1 (by omega), Option.bind_some, hf, n_row (fg_lt _ _), Option.bind_some, n_rd (by omega) (by decide), Option.bind_some, (V.2.2.2.2.2.2.2 p hp).1, n_lies V, Option.bind_some, n_hind V.1 V.2.2.1 hp hm (fg_lt _ _) (V.2.1.2.2.2.2 p hp).1 (V.2.1.2.2.2.1 _ hm) ha, Option.bind_some]
theorem n_stHind' {o : Nat} {h : am_H} {r : sR} {s : sS} {x y : Int32} (V : tX o h r s) (hx : (x < 0 ∨ nI (rP r) ≤ x) ∨ (y < 0 ∨ nI 7 ≤ y)) : f_State_hindrance o 1 x y h = some 1 := by
  have hW := V.1.2.1
  have hP := V.1.2.2.1
  have hH := V.2.1.1
  have hm : sH s % rW r < rW r := Nat.mod_lt _ (by omega)
  unfold f_State_hindrance
  rcases of_lt x (P := rP r) (by omega) with ⟨p, hp, rfl⟩ | ⟨q, _⟩
  · have hy : y < 0 ∨ nI 7 ≤ y := by
      rcases hx with (c | c) | c
      · exact absurd c (nI_pos (by omega))
      · exact absurd c (nI_ge hp (by omega))
      · exact c
    have hf : ∃ f, f < 2 ∧ (if h.2.1 o 1 ≤ 0 then (0 : Int32) else 1) = nI f := by
      split
      · exact ⟨0, by decide, rfl⟩
      · exact ⟨1, by decide, rfl⟩
    obtain ⟨f, hf1, hf2⟩ := hf
    rw [n_hasPerson V.1 V.2.2.1 hp, Option.bind_some, if_pos rfl, V.2.2.2.1, n_hourOfWeek V.1 V.2.2.1 (by omega), Option.bind_some, hf2, n_row hf1, Option.bind_some, n_rd (by omega) (by decide), Option.bind_some, n_lies V, Option.bind_some, n_hind1 hy, Option.bind_some]
  · rw [n_hasPerson' V.2.2.1 q, Option.bind_some, if_neg (by decide)]
theorem lN_i32 {n : Nat} : (lN n).toInt32 = nI n := lN_i n
theorem n_whyTold {h : am_H} {r : sR} {s : sS} {p act : Nat} (V : mV (h.2.1 137) r s) (hp : p < rP r) (ha : act ≤ 6) : ∃ h', f_Mod_whyTold (lN p) (lN act) h = some (nI (hs r s p act), h') ∧ am_ex [141, 142] h h' := by
  have hP := V.hP
  have hH := V.hH
  have e1 : f_Mod_isPerson (lN p) h = some true := by rw [← nI_l (by omega)]; exact n_isPerson V hp
  have e2 : f_Mod_within (lN act) 0 6 h = some true := by
    rw [n_within]
    congr 1
    apply decide_eq_true
    exact ⟨(lN_le (a := 0) (by omega) (by omega)).mpr (Nat.zero_le act), (lN_le (b := 6) (by omega) (by omega)).mpr ha⟩
  obtain ⟨h', a1, a2⟩ := n_whyAct (t := sH s) (f := fg s 0) V hp (V.hsp hp) ha (by omega) (fg_lt _ _)
  refine ⟨h', ?_, a2⟩
  unfold f_Mod_whyTold
  rw [e1, Option.bind_some, if_pos rfl, e2, Option.bind_some, if_pos rfl, lN_i32, lN_i32]
  have hfo : f_Mod_fogIn (nI 0) h = some (nI (fg s 0)) := n_fogIn V (by omega)
  simp (disch := omega) only [i_0, i_1, i_2, i_3, i_4, i_5, i_6, i_7, i_8, i_9, i_10, i_11, i_12, i_13, i_14, i_15, i_16, i_17, i_18, i_19, i_20, i_21, i_22, i_23, i_24, i_25, i_26, i_27, i_28, i_29, i_30, i_31, i_32, i_33, i_34, i_35, i_36, i_37, i_38, i_39, i_40, i_41, i_42, i_43, i_45, i_46, i_48, i_50, i_57, i_58, i_59, i_60, i_61, i_62, i_63, i_65, i_91, i_93, i_97, i_99, i_100, i_101, i_102, i_103, i_104, i_105, i_106, i_107, i_108, i_109, i_110, i_111, i_112, i_113, i_114, i_115, i_116, i_117, i_118, i_119, i_120, i_121, i_122, i_171, i_200, i_236, i_237, i_255, i_256, i_900, i_999, i_1000, i_1137, i_2000, i_2001, i_2002, i_2003, i_2004, i_2005, i_2006, i_2007, i_2008, i_3000, i_3001, i_3002, i_3003, i_3004, i_3005, i_3006, i_3007, i_3008, nm_1, nI_a1, nm_2, oI_n, oI_some, nI_eqP, nI_ltP, nI_leP, nI_add, nI_mul, nI_sub, nI_div, n_rd, n_wr, n_wrJ, n_md, Option.bind_some, reduceIte, Nat.reduceEqDiff, Nat.reduceLeDiff, Nat.reduceLT, or_self, true_or, or_true, false_or, or_false, ne_eq, not_true_eq_false, not_false_eq_true, true_and, and_true, false_and, and_false, decide_true, decide_false, Bool.false_eq_true, decide_eq_true_eq, reduceCtorEq, Nat.add_sub_cancel, Nat.reduceAdd, Nat.reduceMul, Nat.reduceSub, am_let, V.sp hp, V.ho, hfo]
  rw [a1, Option.bind_some]
  rfl
theorem n_whyTold' {h : am_H} {r : sR} {s : sS} {x y : Int32} (V : mV (h.2.1 137) r s) (hx : (x < 0 ∨ nI (rP r) ≤ x) ∨ (y < 0 ∨ nI 7 ≤ y)) : f_Mod_whyTold x.toInt64 y.toInt64 h = some (1, h) := by
  have hP := V.hP
  unfold f_Mod_whyTold
  rcases of_lt x (P := rP r) (by omega) with ⟨p, hp, rfl⟩ | ⟨q, _⟩
  · have hy : y < 0 ∨ nI 7 ≤ y := by
      rcases hx with (c | c) | c
      · exact absurd c (nI_pos (by omega))
      · exact absurd c (nI_ge hp (by omega))
      · exact c
    rcases rng (h := h) (n := 6) (by decide) (show (6 : Int64) = lN 6 from rfl) y with ⟨k, hk, rfl, e⟩ | ⟨q, e⟩
    · rcases hy with c | c
      · exact absurd c (nI_pos (by omega))
      · exact absurd c (nI_ge (by omega) (by decide))
    · rw [n_isPerson V hp, Option.bind_some, if_pos rfl, e, Option.bind_some, if_neg (by decide)]
  · rw [n_isPerson' V q, Option.bind_some, if_neg (by decide)]
/-- a person and an act, or not -/
theorem p_act (P : Nat) (hP : P < 2 ^ 31) (x y : Int32) : (∃ p act, p < P ∧ act ≤ 6 ∧ x = nI p ∧ y = nI act) ∨ ((x < 0 ∨ nI P ≤ x) ∨ (y < 0 ∨ nI 7 ≤ y)) := by
  rcases of_lt x hP with ⟨p, hp, rfl⟩ | ⟨q, _⟩
  · rcases of_lt y (P := 7) (by decide) with ⟨k, hk, rfl⟩ | ⟨q, _⟩
    · exact .inl ⟨p, k, hp, by omega, rfl, rfl⟩
    · exact .inr (.inr q)
  · exact .inr (.inl q)
theorem tV.tX {h : am_H} {r : sR} {s : sS} (V : tV h r s) : tX 10 h r s := V
theorem ok_why (b : Nat) (hb : b ≤ 90000) (x y : Int32) : ok1 b (f_Top_why x y) (f_Mod_why x y) := by
  refine ok1_of (fun g h v T M => ?_)
  have TV := T.tV v (by omega)
  have k0 : keM h (am_sI h 136 0 0) := keM.s0 (by decide)
  have MV := (M.ke k0).mV v (by omega)
  have hP := TV.hP
  unfold f_Top_why f_Mod_why
  simp only [am_let]
  rcases p_act (rP g.1.1) (by omega) x y with ⟨p, act, hp, ha, rfl, rfl⟩ | q
  · obtain ⟨h', a1, a2⟩ := n_whyTold MV hp ha
    rw [n_stHind TV.tX hp ha, nI_l (by omega), nI_l (by omega), a1]
    exact ⟨_, _, rfl, rfl, k0.tr (a2.keM (by decide))⟩
  · rw [n_stHind' TV.tX q, n_whyTold' MV q]
    exact ⟨_, _, rfl, rfl, k0⟩
/-! the rows of the hours to come -/
theorem n_rowIn {h : am_H} {r : sR} {s : sS} {p t : Nat} (V : tV h r s) (ht : t ≤ 1000) : f_Ahead_rowIn (nI p) (nI t) h = some (nI (12 * p + 2 * ((sH s + t) % rW r) + fg s t)) := by
  have hH := V.hH
  have hF := V.hF
  have hf : (if nI (sF s) ≤ nI t then (0 : Int32) else 1) = nI (fg s t) := by
    unfold fg
    by_cases c : t < sF s
    · rw [if_pos c, if_neg (nI_ge c (by omega))]; rfl
    · rw [if_neg c, if_pos (nI_le (by omega) (by omega))]; rfl
  unfold f_Ahead_rowIn
  rw [V.ho, nI_add, n_hourOfWeek V.1 V.2.2.1 (by omega), Option.bind_some, V.fo, hf, n_row (fg_lt _ _), Option.bind_some]
theorem n_liesIn {h : am_H} {r : sR} {s : sS} {t : Nat} (V : tV h r s) (ht : t ≤ 1000) : f_Ahead_liesIn (nI t) h = some (oI (sW s ((sH s + t) % rW r))) := by
  have hH := V.hH
  have hW := V.hW
  have hm : (sH s + t) % rW r < rW r := Nat.mod_lt _ (by omega)
  unfold f_Ahead_liesIn
  rw [V.ho, nI_add, n_hourOfWeek V.1 V.2.2.1 (by omega), Option.bind_some, n_rd (by omega) (by decide), Option.bind_some, V.wk hm]
theorem n_stp {h : am_H} {r : sR} {s : sS} {p t x : Nat} (V : tV h r s) (hp : p < rP r) (hx : x < 512) : f_River_spread 1 (nI (12 * p + 2 * ((sH s + t) % rW r) + fg s t)) (nI x) (oI (sW s ((sH s + t) % rW r))) h = some (nI (stp r s (sW s) p t x)) := by
  have hW := V.hW
  have hm : (sH s + t) % rW r < rW r := Nat.mod_lt _ (by omega)
  exact n_spread V.1 V.2.2.1 hp hm (fg_lt _ _) hx (V.vw _ hm)
theorem shl1 {x : Nat} (hx : x < 32) : (1 : Int32) <<< (nI x &&& 31) = nI (1 <<< x) := by
  rw [nI_msk hx]
  exact nI_shl (a := 1) hx
theorem it0_lt {r : sR} {s : sS} {wk : Nat → Option Nat} {p fr x : Nat} (hr : vR r) (hw : vW r wk) (hx : vSet (rG r) x) (n : Nat) : it r s wk p fr x n < 512 := (it_v hr hw hx n).lt hr.1.2
theorem n_spotsIn {h : am_H} {r : sR} {s : sS} {p n : Nat} (V : tV h r s) (hp : p < rP r) (hn : n ≤ 60) : f_Ahead_spotsIn (nI p) (nI n) h = some (nI (it r s (sW s) p 0 (1 <<< sP s p) n)) := by
  have hP := V.hP
  have hsp := V.hsp hp
  have hG := V.hG
  have hx9 : sP s p < 9 := by rcases hsp with c | c <;> omega
  have L := lp (fun k (a : Int32 × Int32) => f_Ahead_spotsIn_L15 (nI p) (nI n) k a.1 a.2 h)
    (fun m a => ∃ t, m + t = n ∧ a = (nI (it r s (sW s) p 0 (1 <<< sP s p) t), nI t))
    (fun b => b.1 = nI (it r s (sW s) p 0 (1 <<< sP s p) n))
    (fun k m a hI => by
      obtain ⟨t, h1, rfl⟩ := hI
      simp only
      rw [f_Ahead_spotsIn_L15]
      by_cases c : t < n
      · right
        rw [if_neg (nI_ge c (by omega)), n_rowIn V (by omega), Option.bind_some, n_liesIn V (by omega), Option.bind_some, n_stp V hp (it0_lt V.1 V.vw (one_v hsp) t), Option.bind_some]
        refine ⟨m - 1, (_, _), by omega, rfl, t + 1, by omega, ?_⟩
        rw [it, Nat.zero_add, nI_1]
        rfl
      · left
        have : t = n := by omega
        subst this
        rw [if_pos (nI_le (Nat.le_refl _) (by omega))]
        exact ⟨_, rfl, rfl⟩)
  obtain ⟨b, e1, e2⟩ := L am_fu n (nI (1 <<< sP s p), nI 0) (by unfold am_fu; omega) ⟨0, by omega, rfl⟩
  unfold f_Ahead_spotsIn
  rw [n_rd (by omega) (by decide), Option.bind_some, V.sp hp, shl1 (by omega)]
  have e1' : f_Ahead_spotsIn_L15 (nI p) (nI n) am_fu (nI (1 <<< sP s p)) 0 h = some b := e1
  rw [e1', Option.bind_some, e2]
theorem n_reachOf {h : am_H} {r : sR} {s : sS} {p n : Nat} (V : mV (h.2.1 137) r s) (hp : p < rP r) (hn : n ≤ 60) : ∃ h', f_Mod_reachOf (nI p) (nI n) h = some (nI (it r s (sW s) p 0 (1 <<< sP s p) n), h') ∧ am_ex [141, 142, 144, 145, 146] h h' := by
  have hP := V.hP
  have hH := V.hH
  have hsp := V.hsp hp
  have hG := V.hG
  have hx9 : sP s p < 9 := by rcases hsp with c | c <;> omega
  obtain ⟨h', a1, a2, a3⟩ := n_laysLets hp V
  have V2 := V.ex a2 (by decide)
  have L := lp (fun k (a : Int32 × Int32) => f_Mod_reachOf_L20 (nI p) (nI n) k a.1 a.2 h')
    (fun m a => ∃ t, m + t = n ∧ a = (nI (it r s (sW s) p 0 (1 <<< sP s p) t), nI t))
    (fun b => b.1 = nI (it r s (sW s) p 0 (1 <<< sP s p) n))
    (fun k m a hI => by
      obtain ⟨t, h1, rfl⟩ := hI
      simp only
      rw [f_Mod_reachOf_L20]
      have hb := it0_lt (s := s) (p := p) (fr := 0) V.1 (fun k hk => V.hwk hk) (one_v hsp) t
      by_cases c : t < n
      · right
        rw [if_neg (nI_ge c (by omega)), rd_lit (by decide) (by decide), Option.bind_some, V2.ho, n_fogIn V2 (by omega), Option.bind_some, nI_add, n_goesOn V2 a3 hb (by omega) (fg_lt _ _), Option.bind_some]
        refine ⟨m - 1, (_, _), by omega, rfl, t + 1, by omega, ?_⟩
        rw [it, Nat.zero_add, nI_1]
        rfl
      · left
        have : t = n := by omega
        subst this
        rw [if_pos (nI_le (Nat.le_refl _) (by omega))]
        exact ⟨_, rfl, rfl⟩)
  obtain ⟨b, e1, e2⟩ := L am_fu n (nI (1 <<< sP s p), nI 0) (by unfold am_fu; omega) ⟨0, by omega, rfl⟩
  refine ⟨h', ?_, a2⟩
  unfold f_Mod_reachOf
  have e35 : (35 : Int32) + nI p = nI (35 + p) := nI_add 35 p
  rw [a1, Option.bind_some, e35, n_rd (by omega) (by decide), Option.bind_some, V2.sp hp, shl1 (by omega)]
  have e1' : f_Mod_reachOf_L20 (nI p) (nI n) am_fu (nI (1 <<< sP s p)) 0 h' = some b := e1
  rw [e1', Option.bind_some, e2]
theorem ok_reach (b : Nat) (hb : b ≤ 90000) (x y : Int32) : ok1 b (f_Top_reach x y) (f_Mod_reach x y) := by
  refine ok1_of (fun g h v T M => ?_)
  have TV := T.tV v (by omega)
  have k0 : keM h (am_sI h 136 0 0) := keM.s0 (by decide)
  have MV := (M.ke k0).mV v (by omega)
  unfold f_Top_reach f_Mod_reach
  simp only [am_let]
  rcases per TV MV x with ⟨p, hp, rfl, e1, e2⟩ | ⟨e1, e2⟩
  · rw [e1, e2, Option.bind_some, Option.bind_some, if_tt, if_tt]
    rcases rng (h := am_sI h 136 0 0) (n := 60) (by decide) (show (60 : Int64) = lN 60 from rfl) y with ⟨k, hk, rfl, e⟩ | ⟨q, e⟩
    · obtain ⟨h', a1, a2⟩ := n_reachOf MV hp hk
      rw [e, Option.bind_some, if_pos rfl, if_neg (nI_pos (by omega)), if_pos (show nI k ≤ (60 : Int32) from nI_le (b := 60) hk (by decide)), n_spotsIn TV hp hk, a1]
      exact ⟨_, _, rfl, rfl, k0.tr (a2.keM (by decide))⟩
    · rw [e, Option.bind_some, if_ff]
      refine ⟨_, _, ?_, rfl, k0⟩
      rcases q with q | q
      · rw [if_pos q]
      · by_cases d : y < 0
        · rw [if_pos d]
        · rw [if_neg d, if_neg (show ¬ y ≤ (60 : Int32) from q)]
  · rw [e1, e2, Option.bind_some, Option.bind_some, if_ff, if_ff]
    exact ⟨_, _, rfl, rfl, k0⟩
theorem n_soonestOf {h : am_H} {r : sR} {s : sS} {p q : Nat} (V : mV (h.2.1 137) r s) (hp : p < rP r) (hq : q < 32) : ∃ h', f_Mod_soonestOf (nI p) (nI q) h = some (oI (ff (fun n => (it r s (sW s) p 0 (1 <<< sP s p) n).testBit q) 0 61), h') ∧ am_ex [141, 142, 144, 145, 146] h h' ∧ mT p r h' := by
  have hP := V.hP
  obtain ⟨h', a1, a2, a3⟩ := n_laysLets hp V
  have V2 := V.ex a2 (by decide)
  refine ⟨h', ?_, a2, a3⟩
  unfold f_Mod_soonestOf
  have e35 : (35 : Int32) + nI p = nI (35 + p) := nI_add 35 p
  have e0 : f_Mod_hoursTo (nI (sP s p)) (nI q) 0 h' = _ := n_hoursTo (later := 0) V2 a3 (V.hsp hp) hq (by omega)
  rw [a1, Option.bind_some, e35, n_rd (by omega) (by decide), Option.bind_some, V2.sp hp, e0, Option.bind_some]
theorem n_tHoursTo {h : am_H} {r : sR} {s : sS} {p q : Nat} (V : tV h r s) (hp : p < rP r) (hq : q < 9) : f_Ahead_hoursTo (nI p) (nI q) h = some (oI (ff (fun n => (it r s (sW s) p 0 (1 <<< sP s p) n).testBit q) 0 61)) := by
  have hP := V.hP
  have hG := V.hG
  have hsp := V.hsp hp
  have hx9 : sP s p < 9 := by rcases hsp with c | c <;> omega
  have e0 : f_Ahead_hoursFrom (nI p) (nI (1 <<< sP s p)) (nI q) 11 6 0 60 h = _ := n_hoursFrom (fr := 0) (m := 60) V V.tW hp (one_v hsp) hq (by omega) (by omega)
  unfold f_Ahead_hoursTo
  rw [n_rd (by omega) (by decide), Option.bind_some, V.sp hp, shl1 (by omega), e0, Option.bind_some]
theorem ok_soonest (b : Nat) (hb : b ≤ 90000) (x y : Int32) : ok1 b (f_Top_soonest x y) (f_Mod_soonest x y) := by
  refine ok1_of (fun g h v T M => ?_)
  have TV := T.tV v (by omega)
  have k0 : keM h (am_sI h 136 0 0) := keM.s0 (by decide)
  have MV := (M.ke k0).mV v (by omega)
  have hG := TV.hG
  unfold f_Top_soonest f_Mod_soonest
  simp only [am_let]
  rcases per TV MV x with ⟨p, hp, rfl, e1, e2⟩ | ⟨e1, e2⟩
  · rw [e1, e2, Option.bind_some, Option.bind_some, if_tt, if_tt]
    rcases spt TV MV y with ⟨q, hq, rfl, e3, e4⟩ | ⟨e3, e4⟩
    · have hq9 : q < 9 := by rcases hq with c | c <;> omega
      obtain ⟨h', a1, a2, a3⟩ := n_soonestOf MV hp (show q < 32 by omega)
      rw [e3, e4, Option.bind_some, Option.bind_some, if_pos rfl, if_pos rfl, n_tHoursTo TV hp hq9, a1]
      exact ⟨_, _, rfl, rfl, k0.tr (a2.keM (by decide))⟩
    · rw [e3, e4, Option.bind_some, Option.bind_some, if_ff, if_ff]
      exact ⟨_, _, rfl, rfl, k0⟩
  · rw [e1, e2, Option.bind_some, Option.bind_some, if_ff, if_ff]
    exact ⟨_, _, rfl, rfl, k0⟩
