-- deps: 73.eval 74.wrd 75.tok 76.next 77.cut 78.prs 79.rec
/-! ===== atoms and units ===== -/
theorem sI_cm {h : am_H} {a b j j' : Nat} {x y : Int32} (e : a ≠ b) : am_sI (am_sI h a j x) b j' y = am_sI (am_sI h b j' y) a j x := by
  unfold am_sI am_rI
  have e1 : (fun c => if c = b then va_up ((fun c => if c = a then va_up (h.2.1 a) j x else h.2.1 c) b) j' y else (fun c => if c = a then va_up (h.2.1 a) j x else h.2.1 c) c) = (fun c => if c = a then va_up ((fun c => if c = b then va_up (h.2.1 b) j' y else h.2.1 c) a) j x else (fun c => if c = b then va_up (h.2.1 b) j' y else h.2.1 c) c) := by
    funext c
    by_cases c1 : c = a
    · subst c1
      simp [e]
    · by_cases c2 : c = b
      · subst c2
        simp [c1]
      · simp [c1, c2]
  exact congrArg (fun f => (h.1, f, h.2.2.1, h.2.2.2)) e1
theorem put_cm {o : Nat} {c x : Int32} {h h1 : am_H} (ho : 75 ≤ o) (e : f_Law_put o c h = some h1) : f_Law_put o c (am_sI h 61 3 x) = some (am_sI h1 61 3 x) := by
  unfold f_Law_put at e ⊢
  simp only [am_let] at e ⊢
  have r0 : (am_sI h 61 3 x).2.1 o = h.2.1 o := by rw [sI_row, if_neg (by omega)]
  rw [r0]
  by_cases d : Int32.ofNat 900 ≤ h.2.1 o 1
  · rw [if_pos d] at e ⊢
    cases e
    rfl
  · rw [if_neg d] at e ⊢
    unfold am_wr at e ⊢
    by_cases q : h.2.1 o 1 < 0 ∨ 900 ≤ (h.2.1 o 1).toNatClampNeg
    · rw [if_pos q] at e
      cases e
    · rw [if_neg q, Option.bind_some] at e ⊢
      cases e
      generalize (h.2.1 o 1).toNatClampNeg = z
      have e1 : (am_sI (am_sI h 61 3 x) (o + 1) z c).2.1 o 1 = h.2.1 o 1 := by rw [sI_row, if_neg (by omega), r0]
      have e2 : (am_sI h (o + 1) z c).2.1 o 1 = h.2.1 o 1 := by rw [sI_row, if_neg (by omega)]
      rw [e1, e2, sI_cm (a := 61) (b := o + 1) (by omega), sI_cm (a := 61) (b := o) (by omega)]
def askv (k : Nat) : Option Nat := if k = 109 then some 3 else if k = 115 then some 1 else if k = 119 then some 0 else if k = 120 then some 2 else if k = 121 then some 4 else none
theorem ask_t : ∀ k ∈ kds, k ≠ 122 → f_Reader_askedBy (nI k) am_e = some (oI (askv k)) ∧ f_Mod_wordOf (nI (rk k)) am_e = some (oI (askv k)) := by decide +kernel
theorem ask_v {k q : Nat} (h : askv k = some q) : q < 5 ∧ 3 ≤ k := by
  unfold askv at h
  repeat' split at h
  all_goals first
    | (cases h; omega)
    | cases h
theorem ask_h {x : Int32} {h : am_H} (hx : ¬ x = 122) : f_Reader_askedBy x h = f_Reader_askedBy x am_e := by
  unfold f_Reader_askedBy
  rw [if_neg hx, if_neg hx]
theorem wor_h {x : Int32} {h : am_H} (hx : ¬ x = 18) : f_Mod_wordOf x h = f_Mod_wordOf x am_e := by
  unfold f_Mod_wordOf
  rw [if_neg hx, if_neg hx]
theorem ask_m1 (h : am_H) : f_Reader_askedBy (-1) h = some (-1) := by
  rw [ask_h (by decide)]
  decide +kernel
theorem askB {B : Nat → Nat} {n M i law frm s : Nat} {hc hm : am_H} (hlaw : law < 2) (tk : tkM B n M) (L : LC law frm s hc hm) : ∃ a : Option Nat, f_Reader_askedBy (nI (kdd B n i)) hc = some (oI a) ∧ f_Mod_wordOf (nI (rk (kdd B n i))) hm = some (oI a) ∧ ∀ q, a = some q → q < 6 - law ∧ 3 ≤ kdd B n i := by
  have hk := kdd_in tk.2.1 i
  have hl := kdd_lt tk.2.1 i
  by_cases d : kdd B n i = 122
  · refine ⟨if law = 0 then some 5 else none, ?_, ?_, ?_⟩
    · rw [d]
      unfold f_Reader_askedBy
      rw [if_neg (by decide), if_neg (by decide), if_neg (by decide), if_neg (by decide), if_neg (by decide), if_neg (by decide), if_neg (by decide), if_neg (by decide), if_neg (by decide), if_neg (by decide), if_neg (by decide), if_neg (by decide), if_neg (by decide), if_pos (show nI 122 = (122 : Int32) from rfl), L.1]
      rcases (show law = 0 ∨ law = 1 by omega) with rfl | rfl
      · rfl
      · rfl
    · rw [d]
      unfold f_Mod_wordOf
      rw [if_neg (by decide), if_neg (by decide), if_neg (by decide), if_neg (by decide), if_neg (by decide), if_neg (by decide), if_neg (by decide), if_neg (by decide), if_neg (by decide), if_neg (by decide), if_pos (by decide), L.2.2.2.2]
      rcases (show law = 0 ∨ law = 1 by omega) with rfl | rfl
      · rfl
      · rfl
    · intro q hq
      by_cases e : law = 0
      · rw [if_pos e] at hq
        cases hq
        omega
      · rw [if_neg e] at hq
        cases hq
  · have n1 : ¬ nI (kdd B n i) = 122 := fun q => d ((nI_eq (b := 122) (by omega) (by decide)).mp q)
    have n2 : ¬ nI (rk (kdd B n i)) = 18 := fun q => by
      have e : (nI (rk (kdd B n i)) = nI (rk 122)) = (kdd B n i = 122) := rk_k tk (by decide)
      exact d (e ▸ q)
    obtain ⟨t1, t2⟩ := ask_t _ hk d
    refine ⟨askv (kdd B n i), (ask_h n1).trans t1, (wor_h n2).trans t2, fun q hq => ?_⟩
    have := ask_v hq
    omega
theorem ty_val {m c : Int32} {τ : List Bool} (h1 : c < 3000) (h2 : 0 ≤ c) (h3 : c < m) (h4 : τ.length < 64) : tyc m [c] τ = some (false :: τ) := by
  unfold tyc
  rw [if_pos h1, if_pos ⟨h2, h3, h4⟩]
  rfl
theorem ty_not {m : Int32} {τ : List Bool} : tyc m [3006] (true :: τ) = some (true :: τ) := by
  rw [tyc, if_neg (by decide), if_pos rfl]
  rfl
theorem ty_and {m c : Int32} {τ : List Bool} (h : c = 3007 ∨ c = 3008) : tyc m [c] (true :: true :: τ) = some (true :: τ) := by
  rcases h with rfl | rfl
  · rw [tyc, if_neg (by decide), if_neg (by decide), if_pos (by decide)]
    rfl
  · rw [tyc, if_neg (by decide), if_neg (by decide), if_pos (by decide)]
    rfl
theorem ty_cmp {m c : Int32} {τ : List Bool} (h : c = 3003 ∨ c = 3004 ∨ c = 3005) : tyc m [c] (false :: false :: τ) = some (true :: τ) := by
  rcases h with rfl | rfl | rfl
  · rw [tyc, if_neg (by decide), if_neg (by decide), if_neg (by decide), if_pos (by decide)]
    rfl
  · rw [tyc, if_neg (by decide), if_neg (by decide), if_neg (by decide), if_pos (by decide)]
    rfl
  · rw [tyc, if_neg (by decide), if_neg (by decide), if_neg (by decide), if_pos (by decide)]
    rfl
theorem ty_sum {m c : Int32} {τ : List Bool} (h : c = 3000 ∨ c = 3001 ∨ c = 3002) : tyc m [c] (false :: false :: τ) = some (false :: τ) := by
  rcases h with rfl | rfl | rfl
  · rw [tyc, if_neg (by decide), if_neg (by decide), if_neg (by decide), if_neg (by decide), if_pos (by decide)]
    rfl
  · rw [tyc, if_neg (by decide), if_neg (by decide), if_neg (by decide), if_neg (by decide), if_pos (by decide)]
    rfl
  · rw [tyc, if_neg (by decide), if_neg (by decide), if_neg (by decide), if_neg (by decide), if_pos (by decide)]
    rfl
theorem numC {B : Nat → Nat} {n M i : Nat} {hc hm : am_H} (tk : tkM B n M) (j : Jo B n M i hc hm) (d : kdd B n i = 2) : f_Reader_readNumber (0 : Int32) (999 : Int32) hc = some (nI (vvv B n i), am_sI hc 61 3 (nI (i + 1))) := by
  have hv := vvv_lt tk.2.1 i d
  have jc := j.2.1.1.2 i (by have := j.1; omega)
  have hiM : i < 901 := by have := j.1; have := M_le tk; omega
  unfold f_Reader_readNumber
  simp only [am_let]
  rw [cR_kind tk j, Option.bind_some, if_pos (by rw [d]; rfl), j.2.1.2.2.2, n_rd hiM (by decide), Option.bind_some, jc.2.2 d, if_neg (nI_pos (by omega)), if_pos (show nI (vvv B n i) ≤ (999 : Int32) from nI_le (b := 999) (by omega) (by decide)), nI_up]
theorem putA {B : Nat → Nat} {n M i law frm s hd : Nat} {hc hm : am_H} (hlaw : law < 2) (tk : tkM B n M) (j : Jo B n M i hc hm) (h0 : kdd B n i ≠ 0) (h1 : kdd B n i ≠ 1) (L : LC law frm s hc hm) (hs : frm + s ≤ i) (v : Nat) (hv : v < 1006 - law) (hd1 : 1 ≤ hd) : ∃ hc' hm1 hm2, f_Law_put (am_rf hc 61 7) (nI v) (am_sI hc 61 3 (nI (i + 1))) = some hc' ∧ f_Mod_codes (nI v) hm = some hm1 ∧ f_Mod_next hm1 = some hm2 ∧ fC (75 + 4 * law) hc hc' ∧ fM hm hm2 ∧ PG B n M law frm s hm [] [false] hd (i + 1) (s + 1) hc' hm2 := by
  have hM := M_le tk
  have hiM := (adv tk j h0 h1).1
  have c3 : nI v < (3000 : Int32) := nI_lt (b := 3000) (by omega) (by decide)
  have em : mpc (nI v) = nI v := by unfold mpc; rw [if_pos c3]
  obtain ⟨hc1, hm1, a1, a2, a3, a4, a5⟩ := PG.put hlaw (PG.rf (pre := []) (hd := hd) j L) (by omega) (nI v) (post := [false]) (fun τ hτ => ty_val c3 (nI_pos' (by omega)) (nI_lt hv (by omega)) (by simp; omega))
  obtain ⟨-, -, hm2, b1, b2, b3⟩ := adv tk a5.1 h0 h1
  rw [em] at a1
  have x1 : am_ex [61] hc1 (am_sI hc1 61 3 (nI (i + 1))) := am_ex.sI (by decide)
  refine ⟨am_sI hc1 61 3 (nI (i + 1)), hm1, hm2, put_cm (by rw [L.1]; omega) a1, a2, b1, a3.tr (fC.o1 (by omega) x1), a4.tr b2.fM, a5.av b3 x1 b2⟩
theorem gin_f {B : Nat → Nat} {n M i : Nat} {hc hm : am_H} (tk : tkM B n M) (j : Jo B n M i hc hm) : ∃ hc' hm', f_Reader_blame (4 : Int32) hc = some hc' ∧ f_Mod_goesIn (nI (6 - 0)) hm = some (false, hm') ∧ Jf hc' hm' ∧ am_ex [61] hc hc' ∧ nw8 hm hm' := by
  obtain ⟨hc', hm', b1, b2, b3, b4, b5⟩ := blm tk j (k := 4) (by decide) (by decide)
  have b2' : f_Mod_fails (4 : Int32) hm = some hm' := b2
  refine ⟨hc', hm', b1, ?_, b3, b4, b5⟩
  unfold f_Mod_goesIn
  rw [if_pos (by decide), b2', Option.bind_some, Option.bind_some, if_neg b3.ne, Option.bind_some, if_neg b3.ne]
theorem gin_o {B : Nat → Nat} {n M i k : Nat} {hc hm : am_H} (tk : tkM B n M) (j : Jo B n M i hc hm) (h0 : kdd B n i ≠ 0) (h1 : kdd B n i ≠ 1) (hk : 1 ≤ k) : i < M ∧ am_sI hc 61 3 (hc.2.1 61 3 + (1 : Int32)) = am_sI hc 61 3 (nI (i + 1)) ∧ ∃ hm', f_Mod_goesIn (nI (6 - k)) hm = some (true, hm') ∧ nw8 hm hm' ∧ Jo B n M (i + 1) (am_sI hc 61 3 (nI (i + 1))) hm' := by
  obtain ⟨a1, a2, hm', a3, a4, a5⟩ := adv tk j h0 h1
  refine ⟨a1, a2, hm', ?_, a4, a5⟩
  unfold f_Mod_goesIn
  rw [if_neg (show ¬ nI (6 - k) = (6 : Int32) from fun q => by have := (nI_eq (b := 6) (by omega) (by decide)).mp q; omega), Option.bind_some, if_pos j.2.2.2.1, a3, Option.bind_some, Option.bind_some, if_pos a5.2.2.2.1]
theorem lt6 {k : Nat} (hk : 1 ≤ k) : nI (6 - k) < (6 : Int32) := nI_lt (b := 6) (by omega) (by decide)
theorem nlt6 : ¬ nI (6 - 0) < (6 : Int32) := by decide
theorem rd_atom {B : Nat → Nat} {n M law frm k : Nat} {rc rm : Nat → Int32 → am_H → Option am_H} (hlaw : law < 2) (tk : tkM B n M) (R3 : 1 ≤ k → RS B n M law frm false (1 + 2 * k) (rc 3 (nI (6 - k) + (1 : Int32))) (rm 3 (nI (6 - k) + (1 : Int32)))) : RS B n M law frm false (1 + 2 * k) (b_Reader_readAtom rc (nI (6 - k))) (b_Mod_readAtom rm (nI (6 - k))) := by
  have ho : 75 ≤ 75 + 4 * law := by omega
  constructor
  · intro hc hm f L
    unfold b_Reader_readAtom b_Mod_readAtom
    rw [cF_kind f, Option.bind_some, ask_m1, Option.bind_some, if_neg (by decide), if_pos rfl, if_neg (by decide), cF_blame f, Option.bind_some, mF_is f, Option.bind_some, if_neg Bool.false_ne_true, if_neg f.ne, mF_is f, Option.bind_some, if_neg Bool.false_ne_true, mF_fails f, Option.bind_some]
    exact ⟨_, _, rfl, rfl, f, L, fC.rf, fM.rf⟩
  · intro i s hc hm j L hs
    have hM := M_le tk
    have hiM := j.1
    have hl := kdd_lt tk.2.1 i
    obtain ⟨a, e1, e2, e3⟩ := askB (i := i) hlaw tk L
    have e23 : f_Mod_is (23 : Int32) hm = some (decide (kdd B n i = 2)) := mR_is tk j (k := 2) (by decide)
    have e35 : f_Mod_is (35 : Int32) hm = some (decide (kdd B n i = 40)) := mR_is tk j (k := 40) (by decide)
    unfold b_Reader_readAtom b_Mod_readAtom
    rw [cR_kind tk j, Option.bind_some, e1, Option.bind_some, e23, Option.bind_some]
    by_cases d2 : kdd B n i = 2
    · have hv := vvv_lt tk.2.1 i d2
      obtain ⟨hc', hm1, hm2, p1, p2, p3, p4, p5, p6⟩ := putA (hd := 1 + 2 * k) hlaw tk j (by omega) (by omega) L hs (vvv B n i) (by omega) (by omega)
      rw [if_pos (by rw [d2]; rfl), numC tk j d2, Option.bind_some, if_pos (decide_eq_true d2), j.2.2.2.2.2.2.2 d2, p2, Option.bind_some, p3, Option.bind_some]
      have p1' : (f_Law_put (am_rf hc 61 7) (nI (vvv B n i), am_sI hc 61 3 (nI (i + 1))).1 (nI (vvv B n i), am_sI hc 61 3 (nI (i + 1))).2) = some hc' := p1
      rw [p1', Option.bind_some]
      exact ⟨_, _, rfl, rfl, p4, p5, .inr ⟨i + 1, s + 1, by omega, by omega, p6⟩⟩
    · rw [if_neg (show ¬ nI (kdd B n i) = (2 : Int32) from fun q => d2 ((nI_eq (b := 2) (by omega) (by decide)).mp q)), if_neg (show ¬ decide (kdd B n i = 2) = true by simpa using d2), if_pos j.2.2.2.1, j.2.2.2.2.2.2.1, e2, Option.bind_some]
      cases a with
      | some q =>
        obtain ⟨q1, q2⟩ := e3 q rfl
        obtain ⟨hc', hm1, hm2, p1, p2, p3, p4, p5, p6⟩ := putA (hd := 1 + 2 * k) hlaw tk j (by omega) (by omega) L hs (1000 + q) (by omega) (by omega)
        have e1000 : (1000 : Int32) + nI q = nI (1000 + q) := nI_add 1000 q
        rw [oI_some, if_neg (nI_nm1 (by omega)), if_neg (nI_nm1 (by omega)), Option.bind_some, e1000, p2, Option.bind_some, p3, Option.bind_some]
        simp only [am_let]
        rw [(adv tk j (by omega) (by omega)).2.1]
        have p1' : f_Law_put (am_rf (am_sI hc 61 3 (nI (i + 1))) 61 7) (nI (1000 + q)) (am_sI hc 61 3 (nI (i + 1))) = some hc' := p1
        rw [p1', Option.bind_some]
        exact ⟨_, _, rfl, rfl, p4, p5, .inr ⟨i + 1, s + 1, by omega, by omega, p6⟩⟩
      | none =>
        rw [oI_none, if_pos rfl, if_pos rfl, e35, Option.bind_some]
        by_cases d40 : kdd B n i = 40
        · rw [if_pos (by rw [d40]; rfl), if_pos (decide_eq_true d40)]
          by_cases hk : k = 0
          · subst hk
            obtain ⟨hc', hm', b1, b2, b3, b4, b5⟩ := gin_f tk j
            rw [if_neg nlt6, b1, b2, Option.bind_some, Option.bind_some, if_neg Bool.false_ne_true]
            exact ⟨_, _, rfl, rfl, fC.o1 ho b4, b5.fM, .inl ⟨b3, (L.v (by omega)).k ho b4⟩⟩
          · obtain ⟨a1, a2, hm', a3, a4, a5⟩ := gin_o (k := k) tk j (by omega) (by omega) (by omega)
            have x0 : am_ex [61] hc (am_sI hc 61 3 (nI (i + 1))) := am_ex.sI (by decide)
            rw [if_pos (lt6 (by omega)), a2, a3, Option.bind_some, if_pos rfl]
            simp only [am_let]
            obtain ⟨q5, p4, b1, b2, b3, b4, b5⟩ := (R3 (by omega)).2 (i + 1) s _ hm' a5 (L.k x0 a4) (by omega)
            have F0 := (fC.o1 ho x0).tr b3
            have G0 := a4.fM.tr b4
            rw [b1, b2, Option.bind_some, Option.bind_some]
            show ∃ hc' hm'_1, (f_Reader_expect (nI 41) q5).bind _ = some hc' ∧ eof (nI (rk 41)) p4 = some hm'_1 ∧ _
            rcases b5 with ⟨f1, f2⟩ | ⟨i', s', p1, p2, p3⟩
            · rw [cF_expect f1 (by decide), mF_eof f1, Option.bind_some]
              exact ⟨_, _, rfl, rfl, F0, G0, .inl ⟨f1, f2⟩⟩
            · obtain ⟨hcx, hmx, y1, y2, y3, y4, y5⟩ := xpc tk p3.1 (k := 41) (by decide) (by decide) (by decide)
              rw [y1, y2, Option.bind_some]
              refine ⟨_, _, rfl, rfl, F0.tr (fC.o1 ho y3), G0.tr y4.fM, ?_⟩
              rcases y5 with ⟨w1, w2, w3⟩ | w
              · exact .inr ⟨i' + 1, s', by omega, by omega, (p3.av w3 y3 y4).b0 (a4.row (by decide))⟩
              · have := p3.1.1
                exact .inl ⟨w, (p3.2.1.v (by omega)).k ho y3⟩
        · obtain ⟨hc', hm', b1, b2, b3, b4, b5⟩ := blm tk j (k := 2) (by decide) (by decide)
          have b1' : f_Reader_blame (2 : Int32) hc = some hc' := b1
          have b2' : f_Mod_fails (2 : Int32) hm = some hm' := b2
          rw [if_neg (show ¬ nI (kdd B n i) = (40 : Int32) from fun q => d40 ((nI_eq (b := 40) (by omega) (by decide)).mp q)), if_neg (show ¬ decide (kdd B n i = 40) = true by simpa using d40), b1', b2', Option.bind_some, Option.bind_some]
          exact ⟨_, _, rfl, rfl, fC.o1 ho b4, b5.fM, .inl ⟨b3, (L.v (by omega)).k ho b4⟩⟩
/-! comparing -/
def cmE (R : Int32 → am_H → Option am_H) (q5 : am_H) : Option am_H :=
      (f_Mod_is (39 : Int32) q5).bind fun q6 =>
      ((if q6 = true then
          some (3003 : Int32)
        else
          (f_Mod_is (40 : Int32) q5).bind fun q8 =>
          (if q8 = true then
            some (3004 : Int32)
          else
            some (3005 : Int32))) : Option (Int32)).bind fun m10 =>
      (f_Mod_is (39 : Int32) q5).bind fun q11 =>
      ((if q11 = true then
          (f_Mod_next  q5).bind fun q13 =>
          some q13
        else
          (f_Mod_is (40 : Int32) q5).bind fun q14 =>
          (if q14 = true then
            (f_Mod_next  q5).bind fun q16 =>
            some q16
          else
            (f_Mod_is (41 : Int32) q5).bind fun q17 =>
            (if q17 = true then
              (f_Mod_next  q5).bind fun q20 =>
              some q20
            else
              (f_Mod_fails (2 : Int32) q5).bind fun q19 =>
              some q19))) : Option (am_H)).bind fun m21 => R m10 m21
theorem cmF {hc hm : am_H} (f : Jf hc hm) (R : Int32 → am_H → Option am_H) : f_Reader_comparing hc = some (2003, hc) ∧ cmE R hm = R 3005 hm := by
  constructor
  · unfold f_Reader_comparing
    rw [cF_kind f, Option.bind_some, if_neg (by decide), if_neg (by decide), if_neg (by decide), cF_blame f, Option.bind_some]
  · unfold cmE
    simp only [mF_is f, Option.bind_some, Bool.false_eq_true, if_false, mF_fails f]
theorem cmO {B : Nat → Nat} {n M i : Nat} {hc hm : am_H} (tk : tkM B n M) (j : Jo B n M i hc hm) : ∃ c, (c = (3003 : Int32) ∨ c = 3004 ∨ c = 3005) ∧ ((∃ hm', f_Reader_comparing hc = some (mpc c, hc) ∧ (∀ R, cmE R hm = R c hm') ∧ am_sI hc 61 3 (hc.2.1 61 3 + (1 : Int32)) = am_sI hc 61 3 (nI (i + 1)) ∧ Jo B n M (i + 1) (am_sI hc 61 3 (nI (i + 1))) hm' ∧ nw8 hm hm') ∨ (∃ hc' hm', f_Reader_comparing hc = some (2003, hc') ∧ (∀ R, cmE R hm = R c hm') ∧ Jf hc' hm' ∧ am_ex [61] hc hc' ∧ nw8 hm hm')) := by
  have hl := kdd_lt tk.2.1 i
  have e39 : f_Mod_is (39 : Int32) hm = some (decide (kdd B n i = 61)) := mR_is tk j (k := 61) (by decide)
  have e40 : f_Mod_is (40 : Int32) hm = some (decide (kdd B n i = 60)) := mR_is tk j (k := 60) (by decide)
  have e41 : f_Mod_is (41 : Int32) hm = some (decide (kdd B n i = 62)) := mR_is tk j (k := 62) (by decide)
  have x60 : (nI (kdd B n i) = (60 : Int32)) = (kdd B n i = 60) := propext (nI_eq (b := 60) (by omega) (by decide))
  have x61 : (nI (kdd B n i) = (61 : Int32)) = (kdd B n i = 61) := propext (nI_eq (b := 61) (by omega) (by decide))
  have x62 : (nI (kdd B n i) = (62 : Int32)) = (kdd B n i = 62) := propext (nI_eq (b := 62) (by omega) (by decide))
  have m3 : mpc 3003 = 2003 := by decide
  have m4 : mpc 3004 = 2004 := by decide
  have m5 : mpc 3005 = 2005 := by decide
  unfold f_Reader_comparing cmE
  simp only [cR_kind tk j, Option.bind_some, e39, e40, e41, x60, x61, x62, decide_eq_true_eq]
  by_cases d61 : kdd B n i = 61
  · obtain ⟨a1, a2, hm', a3, a4, a5⟩ := adv tk j (by omega) (by omega)
    refine ⟨3003, .inl rfl, .inl ⟨hm', ?_, fun R => ?_, a2, a5, a4⟩⟩
    · rw [if_neg (by omega), if_pos d61, m3]
    · simp only [if_pos d61, Option.bind_some, a3]
  · by_cases d60 : kdd B n i = 60
    · obtain ⟨a1, a2, hm', a3, a4, a5⟩ := adv tk j (by omega) (by omega)
      refine ⟨3004, .inr (.inl rfl), .inl ⟨hm', ?_, fun R => ?_, a2, a5, a4⟩⟩
      · rw [if_pos d60, m4]
      · simp only [if_neg d61, if_pos d60, Option.bind_some, a3]
    · by_cases d62 : kdd B n i = 62
      · obtain ⟨a1, a2, hm', a3, a4, a5⟩ := adv tk j (by omega) (by omega)
        refine ⟨3005, .inr (.inr rfl), .inl ⟨hm', ?_, fun R => ?_, a2, a5, a4⟩⟩
        · rw [if_neg d60, if_neg d61, if_pos d62, m5]
        · simp only [if_neg d61, if_neg d60, if_pos d62, Option.bind_some, a3]
      · obtain ⟨hc', hm', b1, b2, b3, b4, b5⟩ := blm tk j (k := 2) (by decide) (by decide)
        have b1' : f_Reader_blame (2 : Int32) hc = some hc' := b1
        have b2' : f_Mod_fails (2 : Int32) hm = some hm' := b2
        refine ⟨3005, .inr (.inr rfl), .inr ⟨hc', hm', ?_, fun R => ?_, b3, b4, b5⟩⟩
        · rw [if_neg d60, if_neg d61, if_neg d62, b1', Option.bind_some]
        · simp only [if_neg d61, if_neg d60, if_neg d62, Option.bind_some, b2']
