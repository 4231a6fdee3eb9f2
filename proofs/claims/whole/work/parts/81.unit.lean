-- deps: 73.eval 74.wrd 75.tok 76.next 77.cut 78.prs 79.rec 80.rd
theorem takeC {B : Nat → Nat} {n M i k : Nat} {hc hm : am_H} (tk : tkM B n M) (j : Jo B n M i hc hm) (d : kdd B n i = k) : f_Reader_take (nI k) hc = some (true, am_sI hc 61 3 (nI (i + 1))) := by
  unfold f_Reader_take
  simp only [am_let]
  rw [cR_kind tk j, Option.bind_some, if_pos (by rw [d]), j.2.1.2.2.2, nI_up]
theorem takeN {B : Nat → Nat} {n M i k : Nat} {hc hm : am_H} (tk : tkM B n M) (j : Jo B n M i hc hm) (d : kdd B n i ≠ k) (hk : k < 2 ^ 31) : f_Reader_take (nI k) hc = some (false, hc) := by
  have hl := kdd_lt tk.2.1 i
  unfold f_Reader_take
  rw [cR_kind tk j, Option.bind_some, if_neg (fun q => d ((nI_eq (by omega) hk).mp q))]
/-- the class compares two sums -/
def cmC (rc : am_H → Option am_H) (h : am_H) : Option am_H := (rc h).bind fun q25 =>
          (f_Reader_comparing  q25).bind fun q26 =>
          am_let (am_sI q26.2 61 3 ((q26.2.2.1 61 3) + (1 : Int32))) fun h27 =>
          (rc h27).bind fun q28 =>
          (f_Law_put (am_rf q28 61 7) q26.1 q28).bind fun q30 =>
          some q30
def cmM (rm : am_H → Option am_H) (h : am_H) : Option am_H := (rm h).bind (cmE (fun m10 m21 => (rm m21).bind fun q22 => (f_Mod_codes m10 q22).bind fun q23 => some q23))
theorem rd_cmp {B : Nat → Nat} {n M law frm hd : Nat} {rc rm : am_H → Option am_H} (hlaw : law < 2) (tk : tkM B n M) (R3 : RS B n M law frm false hd rc rm) : RS B n M law frm true (hd + 1) (cmC rc) (cmM rm) := by
  have ho : 75 ≤ 75 + 4 * law := by omega
  have hM := M_le tk
  have fault : ∀ hc1 hm1 c x, Jf hc1 hm1 → lwv (75 + 4 * law) hc1 → ∃ hc4 hm3, ((rc (am_sI hc1 61 3 (hc1.2.1 61 3 + (1 : Int32)))).bind fun q28 => (f_Law_put (am_rf q28 61 7) x q28).bind fun q30 => some q30) = some hc4 ∧ ((rm hm1).bind fun q22 => (f_Mod_codes c q22).bind fun q23 => some q23) = some hm3 ∧ Jf hc4 hm3 ∧ lwv (75 + 4 * law) hc4 ∧ fC (75 + 4 * law) hc1 hc4 ∧ fM hm1 hm3 := by
    intro hc1 hm1 c x f1 l1
    have x0 : am_ex [61] hc1 (am_sI hc1 61 3 (hc1.2.1 61 3 + (1 : Int32))) := am_ex.sI (by decide)
    obtain ⟨hc3, hm3, b1, b2, b3, b4, b5, b6⟩ := R3.1 _ hm1 (f1.cg (s61n (by decide)) (s61n (by decide)) rfl rfl) (l1.k ho x0)
    obtain ⟨hc4, d1, d2, d3, d4⟩ := putF ho b4 x
    refine ⟨hc4, hm3, ?_, ?_, b3.cg (by rw [d4]) (by rw [d4]) rfl rfl, d2, ((fC.o1 ho x0).tr b5).tr d3, b6⟩
    · rw [b1, Option.bind_some, d1, Option.bind_some]
    · rw [b2, Option.bind_some, mF_codes b3, Option.bind_some]
  constructor
  · intro hc hm f L
    obtain ⟨hc1, hm1, a1, a2, a3, a4, a5, a6⟩ := R3.1 hc hm f L
    obtain ⟨hc4, hm3, b1, b2, b3, b4, b5, b6⟩ := fault hc1 hm1 3005 2003 a3 a4
    refine ⟨hc4, hm3, ?_, ?_, b3, b4, a5.tr b5, a6.tr b6⟩
    · unfold cmC
      rw [a1, Option.bind_some, (cmF a3 (fun _ _ => none)).1, Option.bind_some]
      exact b1
    · unfold cmM
      rw [a2, Option.bind_some, (cmF a3 _).2]
      exact b2
  · intro i s hc hm j L hs
    obtain ⟨hc1, hm1, a1, a2, a3, a4, a5⟩ := R3.2 i s hc hm j L hs
    unfold cmC cmM
    rw [a1, a2, Option.bind_some, Option.bind_some]
    rcases a5 with ⟨f1, l1⟩ | ⟨i1, s1, p1, p2, p3⟩
    · obtain ⟨hc4, hm3, b1, b2, b3, b4, b5, b6⟩ := fault hc1 hm1 3005 2003 f1 l1
      rw [(cmF f1 (fun _ _ => none)).1, Option.bind_some, (cmF f1 _).2]
      exact ⟨hc4, hm3, b1, b2, a3.tr b5, a4.tr b6, .inl ⟨b3, b4⟩⟩
    · have hi1 := p3.1.1
      obtain ⟨c, hcc, ⟨hm2, c1, c2, c3, c4, c5⟩ | ⟨hc2, hm2, c1, c2, c3, c4, c5⟩⟩ := cmO tk p3.1
      · rw [c1, Option.bind_some, c2]
        have x0 : am_ex [61] hc1 (am_sI hc1 61 3 (nI (i1 + 1))) := am_ex.sI (by decide)
        have q3 := p3.av c4 x0 c5
        obtain ⟨hc3, hm3, b1, b2, b3, b4, b5⟩ := R3.2 (i1 + 1) s1 _ hm2 c4 q3.2.1 (by omega)
        have F0 := (a3.tr (fC.o1 ho x0)).tr b3
        have G0 := (a4.tr c5.fM).tr b4
        show ∃ hc' hm', ((rc (am_sI hc1 61 3 (hc1.2.1 61 3 + (1 : Int32)))).bind fun q28 => (f_Law_put (am_rf q28 61 7) (mpc c) q28).bind fun q30 => some q30) = some hc' ∧ ((rm hm2).bind fun q22 => (f_Mod_codes c q22).bind fun q23 => some q23) = some hm' ∧ _
        rw [c3, b1, b2, Option.bind_some, Option.bind_some]
        rcases b5 with ⟨f1, l1⟩ | ⟨i2, s2, r1, r2, r3⟩
        · obtain ⟨hc4, d1, d2, d3, d4⟩ := putF ho l1 (mpc c)
          rw [d1, mF_codes f1, Option.bind_some, Option.bind_some]
          exact ⟨_, _, rfl, rfl, F0.tr d3, G0, .inl ⟨f1.cg (by rw [d4]) (by rw [d4]) rfl rfl, d2⟩⟩
        · have hi2 := r3.1.1
          have t3 := (q3.wk (hd' := hd + 1) (by omega)).tr (r3.fr [false] (hd' := hd + 1) (by simp))
          obtain ⟨hc4, hm4, d1, d2, d3, d4, d5⟩ := PG.put hlaw t3 (by omega) c (post := [true]) (fun τ _ => ty_cmp hcc)
          rw [d1, d2, Option.bind_some, Option.bind_some]
          exact ⟨_, _, rfl, rfl, F0.tr d3, G0.tr d4, .inr ⟨i2, s2 + 1, by omega, by omega, d5⟩⟩
      · rw [c1, Option.bind_some, c2]
        obtain ⟨hc4, hm3, b1, b2, b3, b4, b5, b6⟩ := fault hc2 hm2 c 2003 c3 ((p3.2.1.v (by omega)).k ho c4)
        exact ⟨hc4, hm3, b1, b2, (a3.tr (fC.o1 ho c4)).tr b5, (a4.tr c5.fM).tr b6, .inl ⟨b3, b4⟩⟩
theorem rd_unit {B : Nat → Nat} {n M law frm k : Nat} {rc rm : Nat → Int32 → am_H → Option am_H} (hlaw : law < 2) (tk : tkM B n M)
    (R2 : 1 ≤ k → RS B n M law frm true (2 + 2 * k) (rc 2 (nI (6 - k) + (1 : Int32))) (rm 2 (nI (6 - k) + (1 : Int32))))
    (R0 : 1 ≤ k → RS B n M law frm true (4 + 2 * k) (rc 0 (nI (6 - k) + (1 : Int32))) (rm 0 (nI (6 - k) + (1 : Int32))))
    (R3 : RS B n M law frm false (3 + 2 * k) (rc 3 (nI (6 - k))) (rm 3 (nI (6 - k)))) : RS B n M law frm true (4 + 2 * k) (b_Reader_readUnit rc (nI (6 - k))) (b_Mod_readUnit rm (nI (6 - k))) := by
  have ho : 75 ≤ 75 + 4 * law := by omega
  have hM := M_le tk
  have RC := rd_cmp hlaw tk R3
  constructor
  · intro hc hm f L
    obtain ⟨hc1, hm1, a1, a2, a3⟩ := RC.1 hc hm f L
    refine ⟨hc1, hm1, ?_, ?_, a3⟩
    · have t118 : f_Reader_take (118 : Int32) hc = some (false, hc) := cF_take f (k := 118) (by decide)
      have t91 : f_Reader_take (91 : Int32) hc = some (false, hc) := cF_take f (k := 91) (by decide)
      unfold b_Reader_readUnit
      rw [cF_kind f, Option.bind_some, if_neg (by decide), if_neg (by decide), t118, Option.bind_some, if_neg Bool.false_ne_true, t91, Option.bind_some, if_neg Bool.false_ne_true]
      exact a1
    · unfold b_Mod_readUnit
      rw [mF_is f, Option.bind_some, if_neg Bool.false_ne_true, mF_is f, Option.bind_some, if_neg Bool.false_ne_true]
      exact a2
  · intro i s hc hm j L hs
    have hiM := j.1
    have hl := kdd_lt tk.2.1 i
    have e21 : f_Mod_is (21 : Int32) hm = some (decide (kdd B n i = 118)) := mR_is tk j (k := 118) (by decide)
    have e37 : f_Mod_is (37 : Int32) hm = some (decide (kdd B n i = 91)) := mR_is tk j (k := 91) (by decide)
    have x118 : (nI (kdd B n i) = (118 : Int32)) = (kdd B n i = 118) := propext (nI_eq (b := 118) (by omega) (by decide))
    have x91 : (nI (kdd B n i) = (91 : Int32)) = (kdd B n i = 91) := propext (nI_eq (b := 91) (by omega) (by decide))
    unfold b_Reader_readUnit b_Mod_readUnit
    rw [cR_kind tk j, Option.bind_some, e21, Option.bind_some]
    by_cases d118 : kdd B n i = 118
    · rw [if_pos (x118 ▸ d118), if_pos (decide_eq_true d118)]
      by_cases hk : k = 0
      · subst hk
        obtain ⟨hc', hm', b1, b2, b3, b4, b5⟩ := gin_f tk j
        rw [if_neg nlt6, b1, b2, Option.bind_some, Option.bind_some, if_neg Bool.false_ne_true]
        exact ⟨_, _, rfl, rfl, fC.o1 ho b4, b5.fM, .inl ⟨b3, (L.v (by omega)).k ho b4⟩⟩
      · obtain ⟨a1, a2, hm', a3, a4, a5⟩ := gin_o (k := k) tk j (by omega) (by omega) (by omega)
        have x0 : am_ex [61] hc (am_sI hc 61 3 (nI (i + 1))) := am_ex.sI (by decide)
        have t118 : f_Reader_take (118 : Int32) hc = some (true, am_sI hc 61 3 (nI (i + 1))) := takeC tk j (k := 118) d118
        obtain ⟨q5, p4, b1, b2, b3, b4, b5⟩ := (R2 (by omega)).2 (i + 1) s _ hm' a5 (L.k x0 a4) (by omega)
        have F0 := (fC.o1 ho x0).tr b3
        have G0 := a4.fM.tr b4
        rw [if_pos (lt6 (by omega)), t118, a3, Option.bind_some, Option.bind_some, if_pos rfl, if_pos rfl, b1, b2, Option.bind_some, Option.bind_some]
        have m6 : (2008 : Int32) = mpc 3006 := by decide
        rw [m6]
        rcases b5 with ⟨f1, l1⟩ | ⟨i', s', p1, p2, p3⟩
        · obtain ⟨hc4, c1, c2, c3, c4⟩ := putF ho l1 (mpc 3006)
          rw [c1, mF_codes f1, Option.bind_some, Option.bind_some]
          exact ⟨_, _, rfl, rfl, F0.tr c3, G0, .inl ⟨f1.cg (by rw [c4]) (by rw [c4]) rfl rfl, c2⟩⟩
        · have hi' := p3.1.1
          obtain ⟨hc4, hm4, c1, c2, c3, c4, c5⟩ := PG.put hlaw ((p3.b0 (a4.row (by decide))).wk (hd' := 4 + 2 * k) (by omega)) (by omega) 3006 (post := [true]) (fun τ _ => ty_not)
          rw [c1, c2, Option.bind_some, Option.bind_some]
          exact ⟨_, _, rfl, rfl, F0.tr c3, G0.tr c4, .inr ⟨i', s' + 1, by omega, by omega, c5⟩⟩
    · rw [if_neg (x118 ▸ d118), if_neg (show ¬ decide (kdd B n i = 118) = true by simpa using d118), e37, Option.bind_some]
      have t118 : f_Reader_take (118 : Int32) hc = some (false, hc) := takeN tk j (k := 118) d118 (by decide)
      by_cases d91 : kdd B n i = 91
      · rw [if_pos (x91 ▸ d91), if_pos (decide_eq_true d91)]
        by_cases hk : k = 0
        · subst hk
          obtain ⟨hc', hm', b1, b2, b3, b4, b5⟩ := gin_f tk j
          rw [if_neg nlt6, b1, b2, Option.bind_some, Option.bind_some, if_neg Bool.false_ne_true]
          exact ⟨_, _, rfl, rfl, fC.o1 ho b4, b5.fM, .inl ⟨b3, (L.v (by omega)).k ho b4⟩⟩
        · obtain ⟨a1, a2, hm', a3, a4, a5⟩ := gin_o (k := k) tk j (by omega) (by omega) (by omega)
          have x0 : am_ex [61] hc (am_sI hc 61 3 (nI (i + 1))) := am_ex.sI (by decide)
          have t91 : f_Reader_take (91 : Int32) hc = some (true, am_sI hc 61 3 (nI (i + 1))) := takeC tk j (k := 91) d91
          obtain ⟨q5, p4, b1, b2, b3, b4, b5⟩ := (R0 (by omega)).2 (i + 1) s _ hm' a5 (L.k x0 a4) (by omega)
          have F0 := (fC.o1 ho x0).tr b3
          have G0 := a4.fM.tr b4
          rw [if_pos (lt6 (by omega)), t118, Option.bind_some, if_neg Bool.false_ne_true, t91, a3, Option.bind_some, Option.bind_some, if_pos rfl, if_pos rfl, b1, b2, Option.bind_some, Option.bind_some]
          show ∃ hc' hm'_1, (f_Reader_expect (nI 93) q5).bind _ = some hc' ∧ eof (nI (rk 93)) p4 = some hm'_1 ∧ _
          rcases b5 with ⟨f1, f2⟩ | ⟨i', s', p1, p2, p3⟩
          · rw [cF_expect f1 (by decide), mF_eof f1, Option.bind_some]
            exact ⟨_, _, rfl, rfl, F0, G0, .inl ⟨f1, f2⟩⟩
          · obtain ⟨hcx, hmx, y1, y2, y3, y4, y5⟩ := xpc tk p3.1 (k := 93) (by decide) (by decide) (by decide)
            rw [y1, y2, Option.bind_some]
            refine ⟨_, _, rfl, rfl, F0.tr (fC.o1 ho y3), G0.tr y4.fM, ?_⟩
            rcases y5 with ⟨w1, w2, w3⟩ | w
            · exact .inr ⟨i' + 1, s', by omega, by omega, (p3.av w3 y3 y4).b0 (a4.row (by decide))⟩
            · have := p3.1.1
              exact .inl ⟨w, (p3.2.1.v (by omega)).k ho y3⟩
      · have t91 : f_Reader_take (91 : Int32) hc = some (false, hc) := takeN tk j (k := 91) d91 (by decide)
        rw [if_neg (x91 ▸ d91), if_neg (show ¬ decide (kdd B n i = 91) = true by simpa using d91), t118, Option.bind_some, if_neg Bool.false_ne_true, t91, Option.bind_some, if_neg Bool.false_ne_true]
        obtain ⟨hc1, hm1, b⟩ := RC.2 i s hc hm j L hs
        exact ⟨hc1, hm1, b.1, b.2.1, b.2.2.1, b.2.2.2.1, by
          have e : 3 + 2 * k + 1 = 4 + 2 * k := by omega
          rw [← e]
          exact b.2.2.2.2⟩
/-! ===== the loops ===== -/
theorem ls_sum {B : Nat → Nat} {n M law frm hd0 hd : Nat} {rc rm : Nat → Int32 → am_H → Option am_H} {p : Int32} (hlaw : law < 2) (tk : tkM B n M) (R : RS B n M law frm false hd0 (rc 4 p) (rm 4 p)) (hh : hd0 + 1 ≤ hd) : LSt B n M law frm false hd (f_Reader_readSum_L7 rc p) (f_Mod_readSum_L5 rm p) := by
  constructor
  · intro hc hm f f' v
    constructor
    · rw [f_Reader_readSum_L7, cF_kind f, Option.bind_some, if_neg (show ¬ (-1 : Int32) = 43 by decide), Option.bind_some, if_neg (show ¬ (-1 : Int32) = 45 by decide)]
      split <;> rfl
    · rw [f_Mod_readSum_L5, mF_is f, Option.bind_some, if_neg Bool.false_ne_true, mF_is f, Option.bind_some, if_neg Bool.false_ne_true]
  · intro i s hc hm j L hs
    have hl := kdd_lt tk.2.1 i
    have e32 : f_Mod_is (32 : Int32) hm = some (decide (kdd B n i = 43)) := mR_is tk j (k := 43) (by decide)
    have e33 : f_Mod_is (33 : Int32) hm = some (decide (kdd B n i = 45)) := mR_is tk j (k := 45) (by decide)
    have x43 : (nI (kdd B n i) = (43 : Int32)) = (kdd B n i = 43) := propext (nI_eq (b := 43) (by omega) (by decide))
    have x45 : (nI (kdd B n i) = (45 : Int32)) = (kdd B n i = 45) := propext (nI_eq (b := 45) (by omega) (by decide))
    have y32 : (nI (rk (kdd B n i)) = (32 : Int32)) = (kdd B n i = 43) := rk_k tk (k := 43) (by decide)
    have n900 : ∀ v, v < 900 → ¬ (900 : Int32) ≤ nI v := fun v hv => nI_ge (b := 900) hv (by decide)
    by_cases d43 : kdd B n i = 43
    · right
      obtain ⟨a1, a2, hm', a3, a4, a5⟩ := adv tk j (by omega) (by omega)
      obtain ⟨q5, q7, p4, p5, b1, b2, b3, b4, b5, b6, b7⟩ := rnd (K := 43) (c := 3000) hlaw tk R hh (fun τ => ty_sum (.inl rfl)) L hs a5 a4
      have m0 : (2000 : Int32) = mpc 3000 := by decide
      refine ⟨q7, p5, fun f v hv => ⟨?_, ?_⟩, b5, b6, b7⟩
      · rw [f_Reader_readSum_L7, if_neg (n900 v hv), cR_kind tk j, Option.bind_some, if_pos (x43 ▸ d43), Option.bind_some]
        simp only [am_let]
        rw [if_pos (x43 ▸ d43), a2, b1, Option.bind_some, m0, b2, Option.bind_some, nI_up]
      · rw [f_Mod_readSum_L5, e32, Option.bind_some, if_pos (decide_eq_true d43)]
        simp only [am_let]
        rw [j.2.2.2.2.2.2.1, if_pos (y32 ▸ d43), a3, Option.bind_some, b3, Option.bind_some, b4, Option.bind_some]
    · by_cases d45 : kdd B n i = 45
      · right
        obtain ⟨a1, a2, hm', a3, a4, a5⟩ := adv tk j (by omega) (by omega)
        obtain ⟨q5, q7, p4, p5, b1, b2, b3, b4, b5, b6, b7⟩ := rnd (K := 45) (c := 3001) hlaw tk R hh (fun τ => ty_sum (.inr (.inl rfl))) L hs a5 a4
        have m0 : (2001 : Int32) = mpc 3001 := by decide
        refine ⟨q7, p5, fun f v hv => ⟨?_, ?_⟩, b5, b6, b7⟩
        · rw [f_Reader_readSum_L7, if_neg (n900 v hv), cR_kind tk j, Option.bind_some, if_neg (x43 ▸ d43), Option.bind_some, if_pos (x45 ▸ d45), Option.bind_some]
          simp only [am_let]
          rw [if_neg (x43 ▸ d43), a2, b1, Option.bind_some, m0, b2, Option.bind_some, nI_up]
        · rw [f_Mod_readSum_L5, e32, Option.bind_some, if_neg (show ¬ decide (kdd B n i = 43) = true by simpa using d43), e33, Option.bind_some, if_pos (decide_eq_true d45)]
          simp only [am_let]
          rw [j.2.2.2.2.2.2.1, if_neg (y32 ▸ d43), a3, Option.bind_some, b3, Option.bind_some, b4, Option.bind_some]
      · left
        intro f v hv
        constructor
        · rw [f_Reader_readSum_L7, if_neg (n900 v hv), cR_kind tk j, Option.bind_some, if_neg (x43 ▸ d43), Option.bind_some, if_neg (x45 ▸ d45)]
        · rw [f_Mod_readSum_L5, e32, Option.bind_some, if_neg (show ¬ decide (kdd B n i = 43) = true by simpa using d43), e33, Option.bind_some, if_neg (show ¬ decide (kdd B n i = 45) = true by simpa using d45)]
theorem rdOK {B : Nat → Nat} {n M law frm : Nat} (hlaw : law < 2) (tk : tkM B n M) : ∀ (N t k : Nat), t ≤ 5 → k ≤ 6 → 3 * k + 6 - t ≤ N → RS B n M law frm (decide (t ≤ 2)) (6 + 2 * k - t) (f_Rd N t (nI (6 - k))) (f_Rm N t (nI (6 - k))) := by
  intro N
  induction N with
  | zero => intro t k h1 h2 h3; omega
  | succ N ih =>
    intro t k h1 h2 h3
    have up : 1 ≤ k → nI (6 - k) + (1 : Int32) = nI (6 - (k - 1)) := fun q => by rw [nI_up, show 6 - k + 1 = 6 - (k - 1) by omega]
    rcases (show t = 0 ∨ t = 1 ∨ t = 2 ∨ t = 3 ∨ t = 4 ∨ t = 5 by omega) with rfl | rfl | rfl | rfl | rfl | rfl
    · have R1 : RS B n M law frm true (5 + 2 * k) (f_Rd N 1 (nI (6 - k))) (f_Rm N 1 (nI (6 - k))) := by
        have := ih 1 k (by omega) h2 (by omega)
        rwa [show 6 + 2 * k - 1 = 5 + 2 * k by omega] at this
      exact RS.loop tk R1 (hd := 6 + 2 * k) (by omega) (stpL (FC := f_Reader_readTruth_L7 (f_Rd N) (nI (6 - k))) (FM := f_Mod_readTruth_L5 (f_Rm N) (nI (6 - k))) (K := 116) (c := 3008) hlaw tk R1 (by omega) (by decide) (by decide) (by decide) (fun τ => ty_and (.inr rfl)) (fun f v h => rfl) (fun f h => rfl))
    · have R1 : RS B n M law frm true (4 + 2 * k) (f_Rd N 2 (nI (6 - k))) (f_Rm N 2 (nI (6 - k))) := by
        have := ih 2 k (by omega) h2 (by omega)
        rwa [show 6 + 2 * k - 2 = 4 + 2 * k by omega] at this
      have := RS.loop tk R1 (hd := 5 + 2 * k) (by omega) (stpL (FC := f_Reader_readBoth_L7 (f_Rd N) (nI (6 - k))) (FM := f_Mod_readBoth_L5 (f_Rm N) (nI (6 - k))) (K := 117) (c := 3007) hlaw tk R1 (by omega) (by decide) (by decide) (by decide) (fun τ => ty_and (.inl rfl)) (fun f v h => rfl) (fun f h => rfl))
      rw [show 6 + 2 * k - 1 = 5 + 2 * k by omega]
      exact this
    · have R3 : RS B n M law frm false (3 + 2 * k) (f_Rd N 3 (nI (6 - k))) (f_Rm N 3 (nI (6 - k))) := by
        have := ih 3 k (by omega) h2 (by omega)
        rwa [show 6 + 2 * k - 3 = 3 + 2 * k by omega] at this
      have := rd_unit (k := k) hlaw tk (rc := f_Rd N) (rm := f_Rm N) (fun q => by
        rw [up q]
        have := ih 2 (k - 1) (by omega) (by omega) (by omega)
        rwa [show 6 + 2 * (k - 1) - 2 = 2 + 2 * k by omega] at this) (fun q => by
        rw [up q]
        have := ih 0 (k - 1) (by omega) (by omega) (by omega)
        rwa [show 6 + 2 * (k - 1) - 0 = 4 + 2 * k by omega] at this) R3
      rw [show 6 + 2 * k - 2 = 4 + 2 * k by omega]
      exact this
    · have R1 : RS B n M law frm false (2 + 2 * k) (f_Rd N 4 (nI (6 - k))) (f_Rm N 4 (nI (6 - k))) := by
        have := ih 4 k (by omega) h2 (by omega)
        rwa [show 6 + 2 * k - 4 = 2 + 2 * k by omega] at this
      have := RS.loop tk R1 (hd := 3 + 2 * k) (by omega) (ls_sum (rc := f_Rd N) (rm := f_Rm N) (p := nI (6 - k)) hlaw tk R1 (by omega))
      rw [show 6 + 2 * k - 3 = 3 + 2 * k by omega]
      exact this
    · have R1 : RS B n M law frm false (1 + 2 * k) (f_Rd N 5 (nI (6 - k))) (f_Rm N 5 (nI (6 - k))) := by
        have := ih 5 k (by omega) h2 (by omega)
        rwa [show 6 + 2 * k - 5 = 1 + 2 * k by omega] at this
      have := RS.loop tk R1 (hd := 2 + 2 * k) (by omega) (stpL (FC := f_Reader_readTerm_L7 (f_Rd N) (nI (6 - k))) (FM := f_Mod_readTerm_L5 (f_Rm N) (nI (6 - k))) (K := 42) (c := 3002) hlaw tk R1 (by omega) (by decide) (by decide) (by decide) (fun τ => ty_sum (.inr (.inr rfl))) (fun f v h => rfl) (fun f h => rfl))
      rw [show 6 + 2 * k - 4 = 2 + 2 * k by omega]
      exact this
    · have := rd_atom (k := k) (frm := frm) hlaw tk (rc := f_Rd N) (rm := f_Rm N) (fun q => by
        rw [up q]
        have := ih 3 (k - 1) (by omega) (by omega) (by omega)
        rwa [show 6 + 2 * (k - 1) - 3 = 1 + 2 * k by omega] at this)
      rw [show 6 + 2 * k - 5 = 1 + 2 * k by omega]
      exact this
