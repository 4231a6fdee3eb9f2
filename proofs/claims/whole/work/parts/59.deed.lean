-- deps: 31.law 32.nat 33.bit 34.spec 35.riv 36.let 37.mod 38.mod 39.it 40.ahead 41.rel 42.ask 43.why 44.meet 45.err 46.err 47.wk 48.chg 50.ways 51.way 52.tray 54.past 55.hour 56.act 57.undo
/-! ===== deeds ===== -/
def wD (r : sR) (s : sS) (i : Int) : Nat := if i = -1 then 0
  else if 0 ≤ i ∧ i ≤ 49 then (if i.toNat / 10 < rP r ∧ i.toNat % 10 ≤ 6 then hs r s (i.toNat / 10) (i.toNat % 10) else 1)
  else if 100 ≤ i ∧ i ≤ 159 then (if (i.toNat - 100) / 10 < rW r ∧ (i.toNat % 10 = 9 ∨ i.toNat % 10 < rG r) then 0 else 1)
  else if 200 ≤ i ∧ i ≤ 209 then 0 else 1
def dS (r : sR) (s : sS) (i : Int) : sS := if wD r s i = 0 then
    (if i = -1 then sN r s else if i ≤ 49 then sAct s (i.toNat / 10) (i.toNat % 10)
     else if i ≤ 159 then sWk s (va_up (sW s) ((i.toNat - 100) / 10) (if i.toNat % 10 = 9 then none else some (i.toNat % 10))) else sFog s (i.toNat - 200))
  else s
theorem cq_lt {d k : Int64} : (lg_cmp d k < 0) = (d.toInt < k.toInt) := by rw [propext (lg_cmp_lt d k), Int64.lt_iff_toInt_lt]
theorem cq_eq {d k : Int64} : (lg_cmp d k = 0) = (d.toInt = k.toInt) := by rw [propext (lg_cmp_eq d k), propext Int64.toInt_inj.symm]
theorem cq_gt {d k : Int64} : (0 < lg_cmp d k) = (k.toInt < d.toInt) := by
  apply propext
  constructor
  · intro h
    apply Classical.byContradiction
    intro c
    rcases Int.lt_or_eq_of_le (Int.not_lt.mp c) with q | q
    · have : lg_cmp d k < 0 := by rw [cq_lt]; exact q
      exact absurd (Int32.lt_trans h this) (by decide)
    · have : lg_cmp d k = 0 := by rw [cq_eq]; exact q
      rw [this] at h
      exact absurd h (by decide)
  · intro h
    apply Classical.byContradiction
    intro c
    rcases Int32.lt_or_eq_of_le (Int32.not_lt.mp c) with q | q
    · rw [cq_lt] at q; omega
    · rw [cq_eq] at q; omega
theorem l_n1 : (-1 : Int64).toInt = -1 := by decide
theorem l_0 : (0 : Int64).toInt = 0 := by decide
theorem l_49 : (49 : Int64).toInt = 49 := by decide
theorem l_100 : (100 : Int64).toInt = 100 := by decide
theorem l_159 : (159 : Int64).toInt = 159 := by decide
theorem l_200 : (200 : Int64).toInt = 200 := by decide
theorem l_209 : (209 : Int64).toInt = 209 := by decide
theorem l_9 : (9 : Int64).toInt = 9 := by decide
theorem of_i64 {d : Int64} (h0 : 0 ≤ d.toInt) (h1 : d.toInt < 2 ^ 31) : d = lN d.toInt.toNat := by
  apply Int64.toInt_inj.mp
  rw [lN_toInt (by omega)]
  omega
theorem d10 {m : Nat} (hm : m < 256) : nI m / (10 : Int32) = nI (m / 10) := nI_div (by omega) (show (10 : Nat) < 2 ^ 31 by decide)
theorem n_dHour {o q : Nat} {d : Int64} {h : am_H} (hd : d.toInt = -1) : f_State_doDeed o q d h = (f_State_passHour o q h).bind fun q23 => some ((0 : Int32), q23) := by
  unfold f_State_doDeed
  simp only [cq_lt, cq_eq, cq_gt, l_n1, l_0, l_49, l_100, l_159, l_200, l_209]
  rw [if_pos hd]
theorem n_dAct {o q : Nat} {d : Int64} {h : am_H} (h0 : 0 ≤ d.toInt) (h1 : d.toInt ≤ 49) : f_State_doDeed o q d h = f_State_tellAct o q (nI (d.toInt.toNat / 10)) (nI (d.toInt.toNat % 10)) h := by
  have e := of_i64 h0 (by omega)
  have e2 : d.toInt32 = nI d.toInt.toNat := by rw [e]; rw [lN_i, lN_toInt (by omega)]; congr 1
  unfold f_State_doDeed
  simp only [cq_lt, cq_eq, cq_gt, l_n1, l_0, l_49, l_100, l_159, l_200, l_209]
  rw [if_neg (by omega), if_neg (by omega), if_neg (by omega), e2, md10 (by omega), d10 (by omega)]
  cases f_State_tellAct o q (nI (d.toInt.toNat / 10)) (nI (d.toInt.toNat % 10)) h with
  | none => rfl
  | some x => rfl
theorem n_dWeek {o q : Nat} {d : Int64} {h : am_H} (h0 : 100 ≤ d.toInt) (h1 : d.toInt ≤ 159) : f_State_doDeed o q d h = f_State_tellWeek o q (nI ((d.toInt.toNat - 100) / 10)) (nI (d.toInt.toNat % 10)) h := by
  have e := of_i64 (d := d) (by omega) (by omega)
  have e2 : d.toInt32 = nI d.toInt.toNat := by rw [e]; rw [lN_i, lN_toInt (by omega)]; congr 1
  have e3 : nI d.toInt.toNat - (100 : Int32) = nI (d.toInt.toNat - 100) := nI_sub (b := 100) (by omega)
  unfold f_State_doDeed
  simp only [cq_lt, cq_eq, cq_gt, l_n1, l_0, l_49, l_100, l_159, l_200, l_209]
  rw [if_neg (by omega), if_neg (by omega), if_pos (by omega), if_neg (by omega), if_neg (by omega), e2, e3, md10 (by omega), d10 (by omega)]
  cases f_State_tellWeek o q (nI ((d.toInt.toNat - 100) / 10)) (nI (d.toInt.toNat % 10)) h with
  | none => rfl
  | some x => rfl
theorem n_dFog {o q : Nat} {d : Int64} {h : am_H} (h0 : 200 ≤ d.toInt) (h1 : d.toInt ≤ 209) : f_State_doDeed o q d h = some (0, am_sI h o 1 (nI (d.toInt.toNat - 200))) := by
  have e := of_i64 (d := d) (by omega) (by omega)
  have e2 : d.toInt32 = nI d.toInt.toNat := by rw [e]; rw [lN_i, lN_toInt (by omega)]; congr 1
  have e3 : nI d.toInt.toNat - (200 : Int32) = nI (d.toInt.toNat - 200) := nI_sub (b := 200) (by omega)
  unfold f_State_doDeed
  simp only [cq_lt, cq_eq, cq_gt, l_n1, l_0, l_49, l_100, l_159, l_200, l_209, am_let]
  rw [if_neg (by omega), if_neg (by omega), if_pos (by omega), if_neg (by omega), if_pos (by omega), if_neg (by omega), if_neg (by omega), e2, e3]
theorem n_dBad {o q : Nat} {d : Int64} {h : am_H} (c0 : d.toInt ≠ -1) (c1 : ¬ (0 ≤ d.toInt ∧ d.toInt ≤ 49)) (c2 : ¬ (100 ≤ d.toInt ∧ d.toInt ≤ 159)) (c3 : ¬ (200 ≤ d.toInt ∧ d.toInt ≤ 209)) : f_State_doDeed o q d h = some (1, h) := by
  unfold f_State_doDeed
  simp only [cq_lt, cq_eq, cq_gt, l_n1, l_0, l_49, l_100, l_159, l_200, l_209, am_let]
  repeat' split
  all_goals first
    | rfl
    | (exfalso; omega)
theorem hasHour_t {o : Nat} {r : sR} {h : am_H} {k : Nat} (R : tR o r h) (hr : vR r) (hk : k < 2 ^ 31) : f_River_hasHour o (nI k) h = some (decide (k < rW r)) := by
  have hW := hr.2.1
  unfold f_River_hasHour
  rw [R.2.1, if_neg (nI_pos hk)]
  by_cases c : k < rW r
  · rw [if_neg (nI_ge c (by omega))]; simp [c]
  · rw [if_pos (nI_le (by omega) (by omega))]; simp [c]
theorem hasGap_t {o : Nat} {r : sR} {h : am_H} {k : Nat} (R : tR o r h) (hr : vR r) (hk : k < 2 ^ 31) : f_River_hasGap o (nI k) h = some (decide (k < rG r)) := by
  have hG := hr.1
  unfold f_River_hasGap
  rw [R.1, if_neg (nI_pos hk)]
  by_cases c : k < rG r
  · rw [if_neg (nI_ge c (by omega))]; simp [c]
  · rw [if_pos (nI_le (by omega) (by omega))]; simp [c]
theorem wk9_v {G m : Nat} (h : m = 9 ∨ m < G) : ∀ g, (if m = 9 then none else some m) = some g → g < G := fun g hg => by
  by_cases c : m = 9
  · rw [if_pos c] at hg; cases hg
  · rw [if_neg c] at hg; cases hg; omega
theorem sFog_v {b f : Nat} {r : sR} {s : sS} (v : vS b r s) (hf : f ≤ 99) : vS b r (sFog s f) := ⟨v.1, hf, v.2.2⟩
theorem tS_fog {o f : Nat} {r : sR} {s : sS} {h : am_H} (T : tS o r s h) : tS o r (sFog s f) (am_sI h o 1 (nI f)) := by
  refine ⟨?_, ?_, ?_, fun k hk => ?_, fun p hp => ⟨?_, ?_⟩⟩
  · rw [sI_row, if_pos rfl, up_n (by decide)]; exact T.1
  · rw [sI_row, if_pos rfl, up_s]; rfl
  · rw [sI_row, if_pos rfl, up_n (by decide)]; exact T.2.2.1
  · rw [sI_row, if_neg (by omega)]; exact T.2.2.2.1 k hk
  · rw [sI_row, if_neg (by omega)]; exact (T.2.2.2.2 p hp).1
  · rw [sI_row, if_neg (by omega)]; exact (T.2.2.2.2 p hp).2
theorem mS_fog {f : Nat} {r : sR} {s : sS} {h : am_H} (V : mV (h.2.1 137) r s) : mS ((am_sI h 137 27 (nI f)).2.1 137) 26 r (sFog s f) := by
  have rr : ∀ j, j ≠ 27 → (am_sI h 137 27 (nI f)).2.1 137 j = h.2.1 137 j := fun j hj => by rw [sI_row, if_pos rfl, up_n hj]
  refine ⟨?_, ?_, ?_, fun k hk => ?_, fun q hq => ⟨?_, ?_⟩⟩
  · rw [rr _ (by omega)]; exact V.ho
  · rw [sI_row, if_pos rfl, up_s]; rfl
  · rw [rr _ (by omega)]; exact V.dn
  · rw [rr _ (by omega)]; exact V.wk hk
  · rw [rr _ (by omega)]; exact V.sp hq
  · rw [rr _ (by omega)]; exact V.ac hq
theorem dS_v {b : Nat} {r : sR} {s : sS} {i : Int} (hr : vR r) (v : vS b r s) : vS (b + 1) r (dS r s i) := by
  have v2 := v.up (show b ≤ b + 1 by omega)
  unfold dS
  by_cases c : wD r s i = 0
  · rw [if_pos c]
    unfold wD at c
    by_cases c1 : i = -1
    · rw [if_pos c1]; exact sN_v hr v
    · rw [if_neg c1] at c ⊢
      by_cases c2 : 0 ≤ i ∧ i ≤ 49
      · rw [if_pos c2] at c
        rw [if_pos c2.2]
        by_cases c3 : i.toNat / 10 < rP r ∧ i.toNat % 10 ≤ 6
        · refine ⟨v2.1, v2.2.1, v2.2.2.1, v2.2.2.2.1, fun q hq => ⟨(v2.2.2.2.2 q hq).1, ?_⟩⟩
          show va_up (sT s) (i.toNat / 10) (i.toNat % 10) q ≤ 6
          by_cases d : q = i.toNat / 10
          · rw [d, up_s]; exact c3.2
          · rw [up_n d]; exact (v2.2.2.2.2 q hq).2
        · rw [if_neg c3] at c; cases c
      · rw [if_neg c2] at c
        by_cases c3 : 100 ≤ i ∧ i ≤ 159
        · rw [if_pos c3] at c
          rw [if_neg (by omega), if_pos c3.2]
          by_cases c4 : (i.toNat - 100) / 10 < rW r ∧ (i.toNat % 10 = 9 ∨ i.toNat % 10 < rG r)
          · exact ⟨v2.1, v2.2.1, v2.2.2.1, vW.up (r := r) v2.2.2.2.1 (wk9_v c4.2), v2.2.2.2.2⟩
          · rw [if_neg c4] at c; cases c
        · rw [if_neg c3] at c
          by_cases c4 : 200 ≤ i ∧ i ≤ 209
          · rw [if_neg (by omega), if_neg (by omega)]
            exact sFog_v v2 (by omega)
          · rw [if_neg c4] at c; cases c
  · rw [if_neg c]; exact v2
theorem wD_lt {r : sR} {s : sS} {i : Int} : wD r s i < 4 := by
  unfold wD
  repeat' split
  all_goals first
    | omega
    | exact hi_lt
theorem n_deed {o b : Nat} {d : Int64} {h : am_H} {r : sR} {s : sS} (hb : b ≤ 99999) (hr : vR r) (v : vS b r s) (R : tR 1 r h) (T : tS o r s h) (ho : 10 ≤ o) : ∃ h', f_State_doDeed o 1 d h = some (nI (wD r s d.toInt), h') ∧ am_ex [o, o + 1, o + 2, o + 3] h h' ∧ tS o r (dS r s d.toInt) h' := by
  have hP := hr.2.2.1
  have hW := hr.2.1
  have hG := hr.1
  have v1 : vS 100000 r s := v.up (by omega)
  generalize hi : d.toInt = i
  by_cases c1 : i = -1
  · have hw : wD r s i = 0 := by unfold wD; rw [if_pos c1]
    have hs : dS r s i = sN r s := by unfold dS; rw [if_pos hw, if_pos c1]
    obtain ⟨h1, a1, a2, a3⟩ := n_pass hb hr v R T ho
    rw [n_dHour (by omega), a1, Option.bind_some, hw, hs]
    exact ⟨_, rfl, a2.tr am_ex.rf (Y := []) (by simp) (by simp), a3⟩
  · by_cases c2 : 0 ≤ i ∧ i ≤ 49
    · have hw : wD r s i = (if i.toNat / 10 < rP r ∧ i.toNat % 10 ≤ 6 then hs r s (i.toNat / 10) (i.toNat % 10) else 1) := by unfold wD; rw [if_neg c1, if_pos c2]
      rw [n_dAct (by omega) (by omega), hi]
      unfold f_State_tellAct
      by_cases c3 : i.toNat / 10 < rP r ∧ i.toNat % 10 ≤ 6
      · rw [if_pos c3] at hw
        rw [n_stHind ⟨hr, v1, R, T⟩ c3.1 c3.2, Option.bind_some, ← hw]
        by_cases c4 : wD r s i = 0
        · have hs : dS r s i = sAct s (i.toNat / 10) (i.toNat % 10) := by unfold dS; rw [if_pos c4, if_neg c1, if_pos c2.2]
          rw [c4, if_pos (show nI 0 = 0 from rfl), n_wr (by omega) (by decide), Option.bind_some, hs]
          refine ⟨_, rfl, am_ex.sI (by simp), ?_, ?_, ?_, fun k hk => ?_, fun p hp => ⟨?_, ?_⟩⟩
          · rw [sI_row, if_neg (by omega)]; exact T.1
          · rw [sI_row, if_neg (by omega)]; exact T.2.1
          · rw [sI_row, if_neg (by omega)]; exact T.2.2.1
          · rw [sI_row, if_neg (by omega)]; exact T.2.2.2.1 k hk
          · rw [sI_row, if_neg (by omega)]; exact (T.2.2.2.2 p hp).1
          · rw [sI_row, if_pos rfl]
            show _ = nI (va_up (sT s) (i.toNat / 10) (i.toNat % 10) p)
            by_cases q : p = i.toNat / 10
            · rw [q, up_s, up_s]
            · rw [up_n q, up_n q]; exact (T.2.2.2.2 p hp).2
        · have hs : dS r s i = s := by unfold dS; rw [if_neg c4]
          have := wD_lt (r := r) (s := s) (i := i)
          rw [if_neg (show ¬ nI _ = (0 : Int32) from fun q => c4 ((nI_eq (b := 0) (by omega) (by decide)).mp q)), hs]
          exact ⟨_, rfl, am_ex.rf, T⟩
      · rw [if_neg c3] at hw
        have hs : dS r s i = s := by unfold dS; rw [if_neg (by rw [hw]; decide)]
        have hx : (nI (i.toNat / 10) < 0 ∨ nI (rP r) ≤ nI (i.toNat / 10)) ∨ (nI (i.toNat % 10) < 0 ∨ nI 7 ≤ nI (i.toNat % 10)) := by
          by_cases q : i.toNat / 10 < rP r
          · exact .inr (.inr (nI_le (by omega) (by omega)))
          · exact .inl (.inr (nI_le (by omega) (by omega)))
        rw [n_stHind' ⟨hr, v1, R, T⟩ hx, Option.bind_some, if_neg (by decide), hw, hs]
        exact ⟨_, rfl, am_ex.rf, T⟩
    · by_cases c3 : 100 ≤ i ∧ i ≤ 159
      · have hw : wD r s i = (if (i.toNat - 100) / 10 < rW r ∧ (i.toNat % 10 = 9 ∨ i.toNat % 10 < rG r) then 0 else 1) := by unfold wD; rw [if_neg c1, if_neg c2, if_pos c3]
        rw [n_dWeek (by omega) (by omega), hi]
        unfold f_State_tellWeek
        have hl : (if nI (i.toNat % 10) = (9 : Int32) then (-1 : Int32) else nI (i.toNat % 10)) = oI (if i.toNat % 10 = 9 then none else some (i.toNat % 10)) := by
          by_cases q : i.toNat % 10 = 9
          · rw [q]; rfl
          · rw [if_neg (show ¬ nI _ = (9 : Int32) from fun z => q ((nI_eq (b := 9) (by omega) (by decide)).mp z)), if_neg q]; rfl
        rw [hasHour_t R hr (by omega), Option.bind_some, hl, hasGap_t R hr (by omega)]
        by_cases c4 : (i.toNat - 100) / 10 < rW r ∧ (i.toNat % 10 = 9 ∨ i.toNat % 10 < rG r)
        · rw [if_pos c4] at hw
          have hs : dS r s i = sWk s (va_up (sW s) ((i.toNat - 100) / 10) (if i.toNat % 10 = 9 then none else some (i.toNat % 10))) := by unfold dS; rw [if_pos hw, if_neg c1, if_neg (by omega), if_pos c3.2]
          have T2 : tS o r (sWk s (va_up (sW s) ((i.toNat - 100) / 10) (if i.toNat % 10 = 9 then none else some (i.toNat % 10)))) (am_sI h (o + 1) ((i.toNat - 100) / 10) (oI (if i.toNat % 10 = 9 then none else some (i.toNat % 10)))) := by
            refine ⟨?_, ?_, ?_, fun k hk => ?_, fun p hp => ⟨?_, ?_⟩⟩
            · rw [sI_row, if_neg (by omega)]; exact T.1
            · rw [sI_row, if_neg (by omega)]; exact T.2.1
            · rw [sI_row, if_neg (by omega)]; exact T.2.2.1
            · rw [sI_row, if_pos rfl]
              show _ = oI (va_up (sW s) ((i.toNat - 100) / 10) (if i.toNat % 10 = 9 then none else some (i.toNat % 10)) k)
              by_cases q : k = (i.toNat - 100) / 10
              · rw [q, up_s, up_s]
              · rw [up_n q, up_n q]; exact T.2.2.2.1 k hk
            · rw [sI_row, if_neg (by omega)]; exact (T.2.2.2.2 p hp).1
            · rw [sI_row, if_neg (by omega)]; exact (T.2.2.2.2 p hp).2
          rw [if_pos (by simpa using c4.1), n_wr (by omega) (by decide), Option.bind_some, Option.bind_some, hw, hs]
          refine ⟨am_sI h (o + 1) ((i.toNat - 100) / 10) (oI (if i.toNat % 10 = 9 then none else some (i.toNat % 10))), ?_, am_ex.sI (by simp), T2⟩
          by_cases q : nI (i.toNat % 10) = (9 : Int32)
          · rw [if_pos q]; rfl
          · have q' : i.toNat % 10 ≠ 9 := fun z => q (by rw [z]; rfl)
            rw [if_neg q, if_pos (by simp; omega)]; rfl
        · rw [if_neg c4] at hw
          have hs : dS r s i = s := by unfold dS; rw [if_neg (by rw [hw]; decide)]
          rw [hw, hs]
          refine ⟨h, ?_, am_ex.rf, T⟩
          by_cases q1 : (i.toNat - 100) / 10 < rW r
          · have q2 : i.toNat % 10 ≠ 9 := by omega
            rw [if_pos (by simpa using q1), if_neg (show ¬ nI _ = (9 : Int32) from fun z => q2 ((nI_eq (b := 9) (by omega) (by decide)).mp z)), Option.bind_some, if_neg (by simp; omega)]; rfl
          · rw [if_neg (by simpa using q1)]; rfl
      · by_cases c4 : 200 ≤ i ∧ i ≤ 209
        · have hw : wD r s i = 0 := by unfold wD; rw [if_neg c1, if_neg c2, if_neg c3, if_pos c4]
          have hs : dS r s i = sFog s (i.toNat - 200) := by unfold dS; rw [if_pos hw, if_neg c1, if_neg (by omega), if_neg (by omega)]
          rw [n_dFog (by omega) (by omega), hi, hw, hs]
          exact ⟨_, rfl, am_ex.sI (by simp), tS_fog T⟩
        · have hw : wD r s i = 1 := by unfold wD; rw [if_neg c1, if_neg c2, if_neg c3, if_neg c4]
          have hs : dS r s i = s := by unfold dS; rw [if_neg (by rw [hw]; decide)]
          rw [n_dBad (by rw [hi]; exact c1) (by rw [hi]; exact c2) (by rw [hi]; exact c3) (by rw [hi]; exact c4), hw, hs]
          exact ⟨_, rfl, am_ex.rf, T⟩
/-! the reference -/
theorem wi_t {d l u : Int64} {h : am_H} : f_Mod_within d l u h = some (decide (l.toInt ≤ d.toInt ∧ d.toInt ≤ u.toInt)) := by
  rw [n_within]
  congr 1
  rw [decide_eq_decide, Int64.le_iff_toInt_le, Int64.le_iff_toInt_le]
theorem lD10 : ∀ m, m < 256 → lN m / 10 = lN (m / 10) := by decide +kernel
theorem lM10 : ∀ m, m < 256 → lN m - lN m / 10 * 10 = lN (m % 10) := by decide +kernel
theorem lS100 : ∀ m, m < 256 → 100 ≤ m → (lN m - 100) / 10 = lN ((m - 100) / 10) := by decide +kernel
theorem n_whyNot {d : Int64} {h : am_H} {r : sR} {s : sS} (V : mV (h.2.1 137) r s) : ∃ h', f_Mod_whyNot d h = some (nI (wD r s d.toInt), h') ∧ am_ex [141, 142] h h' := by
  have hP := V.hP
  have hW := V.hW
  have hG := V.hG
  generalize hi : d.toInt = i
  unfold f_Mod_whyNot
  simp only [cq_eq, l_n1, wi_t, l_0, l_49, l_100, l_159, l_200, l_209, hi, Option.bind_some, decide_eq_true_eq]
  by_cases c1 : i = -1
  · have hw : wD r s i = 0 := by unfold wD; rw [if_pos c1]
    rw [if_pos c1, hw]
    exact ⟨h, rfl, am_ex.rf⟩
  · rw [if_neg c1]
    by_cases c4 : 200 ≤ i ∧ i ≤ 209
    · have hw : wD r s i = 0 := by unfold wD; rw [if_neg c1, if_neg (by omega), if_neg (by omega), if_pos c4]
      rw [if_pos c4, hw]
      exact ⟨h, rfl, am_ex.rf⟩
    · rw [if_neg c4]
      by_cases c2 : 0 ≤ i ∧ i ≤ 49
      · have e := of_i64 (d := d) (by omega) (by omega)
        have hw : wD r s i = (if i.toNat / 10 < rP r ∧ i.toNat % 10 ≤ 6 then hs r s (i.toNat / 10) (i.toNat % 10) else 1) := by unfold wD; rw [if_neg c1, if_pos c2]
        rw [if_pos c2, e, hi, lD10 _ (by omega), ← lD10 _ (by omega), lM10 _ (by omega), lD10 _ (by omega)]
        by_cases c3 : i.toNat / 10 < rP r ∧ i.toNat % 10 ≤ 6
        · rw [if_pos c3] at hw
          obtain ⟨h1, a1, a2⟩ := n_whyTold V c3.1 c3.2
          rw [a1, hw]
          exact ⟨h1, rfl, a2⟩
        · rw [if_neg c3] at hw
          have hx : (nI (i.toNat / 10) < 0 ∨ nI (rP r) ≤ nI (i.toNat / 10)) ∨ (nI (i.toNat % 10) < 0 ∨ nI 7 ≤ nI (i.toNat % 10)) := by
            by_cases q : i.toNat / 10 < rP r
            · exact .inr (.inr (nI_le (by omega) (by omega)))
            · exact .inl (.inr (nI_le (by omega) (by omega)))
          have a1 := n_whyTold' V hx
          rw [nI_l (by omega), nI_l (by omega)] at a1
          rw [a1, hw]
          exact ⟨h, rfl, am_ex.rf⟩
      · rw [if_neg c2]
        by_cases c3 : 100 ≤ i ∧ i ≤ 159
        · have e := of_i64 (d := d) (by omega) (by omega)
          have hw : wD r s i = (if (i.toNat - 100) / 10 < rW r ∧ (i.toNat % 10 = 9 ∨ i.toNat % 10 < rG r) then 0 else 1) := by unfold wD; rw [if_neg c1, if_neg c2, if_pos c3]
          have f1 : ((d - 100) / 10).toInt = ((i.toNat - 100) / 10 : Nat) := by rw [e, hi, lS100 _ (by omega) (by omega), lN_toInt (by omega)]
          have f2 : (d - d / 10 * 10).toInt = (i.toNat % 10 : Nat) := by rw [e, hi, lM10 _ (by omega), lN_toInt (by omega)]
          have f3 : ((nI (rW r)).toInt64).toInt = (rW r : Nat) := by rw [nI_l (by omega), lN_toInt (by omega)]
          have f4 : ((nI (rG r)).toInt64).toInt = (rG r : Nat) := by rw [nI_l (by omega), lN_toInt (by omega)]
          have f5 : ∀ a b : Int64, (0 ≤ lg_cmp a b) = ¬ (a.toInt < b.toInt) := fun a b => by rw [← cq_lt]; exact propext Int32.not_lt.symm
          rw [if_pos c3, rd_lit (by decide) (by decide), Option.bind_some, V.w, rd_lit (by decide) (by decide), Option.bind_some, V.g]
          simp only [cq_lt, cq_eq, f5, f1, f2, f3, f4, l_9]
          refine ⟨h, ?_, am_ex.rf⟩
          rw [hw]
          by_cases q1 : (i.toNat - 100) / 10 < rW r
          · rw [if_pos (by omega)]
            by_cases q2 : i.toNat % 10 = 9
            · rw [if_pos (by omega), if_pos ⟨q1, .inl q2⟩]; rfl
            · rw [if_neg (by omega)]
              by_cases q3 : i.toNat % 10 < rG r
              · rw [if_neg (by omega), if_pos ⟨q1, .inr q3⟩]; rfl
              · rw [if_pos (by omega), if_neg (by omega)]; rfl
          · rw [if_neg (by omega), if_neg (by omega)]; rfl
        · have hw : wD r s i = 1 := by unfold wD; rw [if_neg c1, if_neg c2, if_neg c3, if_neg c4]
          rw [if_neg c3, hw]
          exact ⟨h, rfl, am_ex.rf⟩
theorem n_does {b : Nat} {i : Int32} {h : am_H} {r : sR} {s : sS} (hb : b ≤ 99999) (v : vS b r s) (V : mV (h.2.1 137) r s) (h0 : wD r s i.toInt = 0) : ∃ h', f_Mod_does i h = some h' ∧ mW h h' ∧ mS (h'.2.1 137) 26 r (dS r s i.toInt) ∧ ∀ a, a = 136 ∨ a = 143 → h'.2.1 a = h.2.1 a := by
  have hP := V.hP
  have hW := V.hW
  have hG := V.hG
  have hS0 : dS r s i.toInt = (if i.toInt = -1 then sN r s else if i.toInt ≤ 49 then sAct s (i.toInt.toNat / 10) (i.toInt.toNat % 10)
     else if i.toInt ≤ 159 then sWk s (va_up (sW s) ((i.toInt.toNat - 100) / 10) (if i.toInt.toNat % 10 = 9 then none else some (i.toInt.toNat % 10))) else sFog s (i.toInt.toNat - 200)) := by
    unfold dS
    rw [if_pos h0]
  unfold f_Mod_does
  by_cases c1 : i = -1
  · have c1' : i.toInt = -1 := by rw [c1]; rfl
    rw [if_pos c1] 
    rw [if_pos c1'] at hS0
    obtain ⟨h1, a1, a2, a3, a4⟩ := n_goesHour hb v V
    rw [a1, Option.bind_some, hS0]
    exact ⟨h1, rfl, a2, a3, a4⟩
  · have c1' : i.toInt ≠ -1 := fun q => c1 (Int32.toInt_inj.mp (by rw [q]; rfl))
    rw [if_neg c1]
    rw [if_neg c1'] at hS0
    unfold wD at h0
    rw [if_neg c1'] at h0
    by_cases c2 : 0 ≤ i.toInt ∧ i.toInt ≤ 49
    · rw [if_pos c2] at h0
      rw [if_pos c2.2] at hS0
      have e : i = nI i.toInt.toNat := by apply Int32.toInt_inj.mp; rw [nI_toInt (by omega)]; omega
      generalize hm : i.toInt.toNat = m at *
      rw [hS0, e, if_neg (show ¬ (50 : Int32) ≤ nI m from nI_ge (b := 50) (by omega) (by decide)), md10 (by omega), d10 (by omega)]
      by_cases c3 : m / 10 < rP r ∧ m % 10 ≤ 6
      · have e40 : (40 : Int32) + nI (m / 10) = nI (40 + m / 10) := nI_add 40 _
        rw [e40, n_wr (by omega) (by decide), Option.bind_some]
        have rr : ∀ j, j ≠ 40 + m / 10 → (am_sI h 137 (40 + m / 10) (nI (m % 10))).2.1 137 j = h.2.1 137 j := fun j hj => by rw [sI_row, if_pos rfl, up_n hj]
        refine ⟨_, rfl, mW.sI (by omega), ⟨?_, ?_, ?_, fun k hk => ?_, fun q hq => ⟨?_, ?_⟩⟩, fun a ha => by rw [sI_row, if_neg (by omega)]⟩
        · rw [rr _ (by omega)]; exact V.ho
        · rw [rr _ (by omega)]; exact V.fo
        · rw [rr _ (by omega)]; exact V.dn
        · rw [rr _ (by omega)]; exact V.wk hk
        · rw [rr _ (by omega)]; exact V.sp hq
        · show _ = nI (va_up (sT s) (m / 10) (m % 10) q)
          by_cases d : q = m / 10
          · rw [d, up_s]
            show (am_sI h 137 (40 + m / 10) (nI (m % 10))).2.1 137 (40 + m / 10) = _
            rw [sI_row, if_pos rfl, up_s]
          · rw [up_n d, rr _ (by omega)]; exact V.ac hq
      · rw [if_neg c3] at h0; cases h0
    · rw [if_neg c2] at h0
      by_cases c3 : 100 ≤ i.toInt ∧ i.toInt ≤ 159
      · rw [if_pos c3] at h0
        rw [if_neg (by omega), if_pos c3.2] at hS0
        have e : i = nI i.toInt.toNat := by apply Int32.toInt_inj.mp; rw [nI_toInt (by omega)]; omega
        generalize hm : i.toInt.toNat = m at *
        have e3 : nI m - (100 : Int32) = nI (m - 100) := nI_sub (b := 100) (by omega)
        have hl : (if nI (m % 10) = (9 : Int32) then (-1 : Int32) else nI (m % 10)) = oI (if m % 10 = 9 then none else some (m % 10)) := by
          by_cases q : m % 10 = 9
          · rw [q]; rfl
          · rw [if_neg (show ¬ nI _ = (9 : Int32) from fun z => q ((nI_eq (b := 9) (by omega) (by decide)).mp z)), if_neg q]; rfl
        rw [hS0, e, if_pos (show (50 : Int32) ≤ nI m from nI_le (a := 50) (by omega) (by omega)), if_neg (show ¬ (200 : Int32) ≤ nI m from nI_ge (b := 200) (by omega) (by decide)), e3, md10 (by omega), d10 (by omega), hl]
        by_cases c4 : (m - 100) / 10 < rW r ∧ (m % 10 = 9 ∨ m % 10 < rG r)
        · have e29 : (29 : Int32) + nI ((m - 100) / 10) = nI (29 + (m - 100) / 10) := nI_add 29 _
          rw [e29, n_wr (by omega) (by decide), Option.bind_some]
          have V2 := V.up c4.1 (wk9_v c4.2)
          refine ⟨_, rfl, mW.sI (by omega), ?_, fun a ha => by rw [sI_row, if_neg (by omega)]⟩
          rw [sI_row, if_pos rfl]
          exact V2.2.2.2
        · rw [if_neg c4] at h0; cases h0
      · rw [if_neg c3] at h0
        by_cases c4 : 200 ≤ i.toInt ∧ i.toInt ≤ 209
        · rw [if_neg (by omega), if_neg (by omega)] at hS0
          have e : i = nI i.toInt.toNat := by apply Int32.toInt_inj.mp; rw [nI_toInt (by omega)]; omega
          generalize hm : i.toInt.toNat = m at *
          have e3 : nI m - (200 : Int32) = nI (m - 200) := nI_sub (b := 200) (by omega)
          rw [hS0, e, if_pos (show (50 : Int32) ≤ nI m from nI_le (a := 50) (by omega) (by omega)), if_pos (show (200 : Int32) ≤ nI m from nI_le (a := 200) (by omega) (by omega)), e3, wr_lit (by decide) (by decide), Option.bind_some]
          exact ⟨_, rfl, mW.sI (by omega), mS_fog V, fun a ha => by rw [sI_row, if_neg (by omega)]⟩
        · rw [if_neg c4] at h0; cases h0
