-- deps: 73.eval 74.wrd 75.tok 76.next 77.cut
/-! ===== both readers, side by side ===== -/
/-- both stand at token i -/
def Jo (B : Nat → Nat) (n M i : Nat) (hc hm : am_H) : Prop := i ≤ M ∧ (tks B n M hc ∧ hc.2.1 61 1 = 0 ∧ hc.2.1 61 2 = -1 ∧ hc.2.1 61 3 = nI i) ∧ tpm B n hm ∧ hm.2.1 136 11 = 0 ∧ hm.2.1 136 6 = nI (pla B n i) ∧ hm.2.1 136 7 = nI (en B n (i + 1)) ∧ hm.2.1 136 9 = nI (rk (kdd B n i)) ∧ (kdd B n i = 2 → hm.2.1 136 10 = nI (vvv B n i))
/-- both have found one fault -/
def Jf (hc hm : am_H) : Prop := ∃ k pl, 1 ≤ k ∧ k ≤ 4 ∧ pl ≤ 900 ∧ hc.2.1 61 1 = nI k ∧ hc.2.1 61 2 = nI pl ∧ hm.2.1 136 11 = nI k ∧ hm.2.1 136 12 = nI pl
/-- only what reading may change -/
def nw8 (h h' : am_H) : Prop := am_ex [136] h h' ∧ ∀ j, j < 6 ∨ j = 8 ∨ 13 ≤ j → h'.2.1 136 j = h.2.1 136 j
theorem nw8.rf {h : am_H} : nw8 h h := ⟨am_ex.rf, fun _ _ => rfl⟩
theorem nw8.tr {h h' h'' : am_H} (a : nw8 h h') (b : nw8 h' h'') : nw8 h h'' := ⟨a.1.tr b.1 (fun _ z => z) (fun _ z => z), fun j q => (b.2 j q).trans (a.2 j q)⟩
theorem nw8.st {h : am_H} {j : Nat} {x : Int32} (hj : j = 11 ∨ j = 12) : nw8 h (am_sI h 136 j x) := ⟨am_ex.sI (by decide), fun i q => by rw [sI_row, if_pos rfl, up_n (by omega)]⟩
theorem nw6.to8 {h h' : am_H} (a : nw6 h h') : nw8 h h' := ⟨a.1, fun j q => a.2 j (by omega) (by omega) (by omega) (by omega)⟩
theorem nw8.row {h h' : am_H} (a : nw8 h h') {o : Nat} (ho : o ≠ 136) : h'.2.1 o = h.2.1 o := a.1.2.2 o (by simpa using ho)
theorem nw8.tp {B : Nat → Nat} {n : Nat} {h h' : am_H} (a : nw8 h h') (T : tpm B n h) : tpm B n h' := ⟨by rw [a.2 8 (by omega)]; exact T.1, fun i hi => by rw [a.row (by decide)]; exact T.2 i hi⟩
theorem nI0f {k : Nat} (h1 : 1 ≤ k) (h2 : k ≤ 4) : ¬ nI k = 0 := nI_ne0 (by omega) (by omega)
theorem s61 {h : am_H} {j : Nat} {x : Int32} : (am_sI h 61 j x).2.1 61 j = x := by rw [sI_row, if_pos rfl, up_s]
theorem s61n {h : am_H} {j i : Nat} {x : Int32} (e : i ≠ j) : (am_sI h 61 j x).2.1 61 i = h.2.1 61 i := by rw [sI_row, if_pos rfl, up_n e]
theorem tks.sI {B : Nat → Nat} {n M o j : Nat} {h : am_H} {x : Int32} (T : tks B n M h) (ho : o < 71 ∨ 74 < o) : tks B n M (am_sI h o j x) := by
  unfold tks rwk at T ⊢
  rw [sI_row, sI_row, sI_row, sI_row, if_neg (by omega), if_neg (by omega), if_neg (by omega), if_neg (by omega)]
  exact T
theorem tks.ex {B : Nat → Nat} {n M : Nat} {h h' : am_H} {X : List Nat} (T : tks B n M h) (x : am_ex X h h') (hX : ∀ a ∈ X, a < 71 ∨ 74 < a) : tks B n M h' := by
  have e : ∀ a, 71 ≤ a → a ≤ 74 → h'.2.1 a = h.2.1 a := fun a h1 h2 => x.2.2 a (fun q => by have := hX a q; omega)
  unfold tks rwk at T ⊢
  rw [e 71 (by omega) (by omega), e 72 (by omega) (by omega), e 73 (by omega) (by omega), e 74 (by omega) (by omega)]
  exact T
theorem M_le {B : Nat → Nat} {n M : Nat} (tk : tkM B n M) : M ≤ 900 := by
  have h1 := en_ge tk.2.1 M (fun j hj => (tk.2.2.1 j hj).1)
  have h2 := en_le tk.2.1 M
  have := tk.1
  omega
theorem rk_k {B : Nat → Nat} {n M : Nat} (tk : tkM B n M) {k i : Nat} (hk : k ∈ kds) : (nI (rk (kdd B n i)) = nI (rk k)) = (kdd B n i = k) := by
  have h1 := kdd_lt tk.2.1 i
  have h2 := rk_lt k hk
  rw [nI_eqP (by omega) (by omega)]
  exact propext ⟨fun q => rk_inj _ (kdd_in tk.2.1 i) _ hk q, fun q => by rw [q]⟩
theorem cR_kind {B : Nat → Nat} {n M i : Nat} {hc hm : am_H} (tk : tkM B n M) (j : Jo B n M i hc hm) : f_Reader_kind hc = some (nI (kdd B n i)) := by
  obtain ⟨j1, ⟨⟨⟨N, t1, t2, t3⟩, t4⟩, c1, c2, c3⟩, _⟩ := j
  unfold f_Reader_kind
  rw [if_pos c1, c3, t1, if_pos (nI_lt (by omega) (by omega)), n_rd (by omega) (by decide), Option.bind_some, (t4 i (by omega)).1]
theorem cF_kind {hc hm : am_H} (j : Jf hc hm) : f_Reader_kind hc = some (-1) := by
  obtain ⟨k, pl, j1, j2, j3, j4, j5⟩ := j
  unfold f_Reader_kind
  rw [j4, if_neg (nI0f j1 j2)]
theorem mR_is {B : Nat → Nat} {n M i : Nat} {hc hm : am_H} (tk : tkM B n M) (j : Jo B n M i hc hm) {k : Nat} (hk : k ∈ kds) : f_Mod_is (nI (rk k)) hm = some (decide (kdd B n i = k)) := by
  obtain ⟨j1, _, m1, m2, m3, m4, m5, m6⟩ := j
  unfold f_Mod_is
  rw [if_pos m2, m5]
  simp only [rk_k tk hk]
  by_cases d : kdd B n i = k
  · rw [if_pos d, decide_eq_true d]
  · rw [if_neg d, decide_eq_false d]
theorem mF_is {hc hm : am_H} (j : Jf hc hm) (x : Int32) : f_Mod_is x hm = some false := by
  obtain ⟨k, pl, j1, j2, j3, j4, j5, j6, j7⟩ := j
  unfold f_Mod_is
  rw [j6, if_neg (nI0f j1 j2)]
/-- both go on by one token -/
theorem adv {B : Nat → Nat} {n M i : Nat} {hc hm : am_H} (tk : tkM B n M) (j : Jo B n M i hc hm) (h0 : kdd B n i ≠ 0) (h1 : kdd B n i ≠ 1) : i < M ∧ am_sI hc 61 3 (hc.2.1 61 3 + (1 : Int32)) = am_sI hc 61 3 (nI (i + 1)) ∧ ∃ hm', f_Mod_next hm = some hm' ∧ nw8 hm hm' ∧ Jo B n M (i + 1) (am_sI hc 61 3 (nI (i + 1))) hm' := by
  obtain ⟨j1, ⟨c0, c1, c2, c3⟩, m1, m2, m3, m4, m5, m6⟩ := j
  have hM : i < M := by
    rcases Nat.lt_or_ge i M with q | q
    · exact q
    · have e : i = M := by omega
      subst e
      rcases tk.2.2.2 with w | w
      · exact absurd w h0
      · exact absurd w h1
  refine ⟨hM, by rw [c3, nI_up], ?_⟩
  obtain ⟨hm', a1, a2, a3, a4, a5, a6⟩ := n_next m1 tk.1 (en_le tk.2.1 (i + 1)) m4
  refine ⟨hm', a1, a2.to8, hM, ⟨c0.sI (by omega), (s61n (by decide)).trans c1, (s61n (by decide)).trans c2, s61⟩, a2.tp m1, ?_, a3, a4, a5, a6⟩
  rw [a2.2 11 (by decide) (by decide) (by decide) (by decide)]
  exact m2
/-- both blame the token -/
theorem blm {B : Nat → Nat} {n M i : Nat} {hc hm : am_H} (tk : tkM B n M) (j : Jo B n M i hc hm) {k : Nat} (hk : 1 ≤ k) (hk4 : k ≤ 4) : ∃ hc' hm', f_Reader_blame (nI k) hc = some hc' ∧ f_Mod_fails (nI k) hm = some hm' ∧ Jf hc' hm' ∧ am_ex [61] hc hc' ∧ nw8 hm hm' := by
  have r1 := rk_k tk (k := 1) (i := i) (by decide)
  have hp := pla_le tk.2.1 i
  have hn := tk.1
  obtain ⟨j1, ⟨⟨⟨N, t1, t2, t3⟩, t4⟩, c1, c2, c3⟩, m1, m2, m3, m4, m5, m6⟩ := j
  have hkl := kdd_lt tk.2.1 i
  unfold f_Reader_blame f_Mod_fails
  simp only [am_let]
  rw [if_pos c1, c3, t1, if_neg (nI_ge (by omega) (by omega)), n_rd (by omega) (by decide), Option.bind_some, (t4 i (by omega)).1, if_pos m2, m5]
  rw [s61n (by decide), c3, n_rd (by omega) (by decide), Option.bind_some]
  have e73 : ∀ x, (am_sI hc 61 1 x).2.1 73 i = nI (pla B n i) := fun x => by rw [sI_row, if_neg (by decide)]; exact (t4 i (by omega)).2.1
  rw [e73, s136n (by decide), m3]
  have e1 : (if nI (kdd B n i) = (1 : Int32) then (1 : Int32) else nI k) = nI (if kdd B n i = 1 then 1 else k) := by
    by_cases d : kdd B n i = 1
    · rw [if_pos d, d]; rfl
    · rw [if_neg d, if_neg (show ¬ nI (kdd B n i) = (1 : Int32) from fun q => d ((nI_eq (b := 1) (by omega) (by decide)).mp q))]
  have e2 : (if nI (rk (kdd B n i)) = (25 : Int32) then (1 : Int32) else nI k) = nI (if kdd B n i = 1 then 1 else k) := by
    have e3 : (nI (rk (kdd B n i)) = (25 : Int32)) = (kdd B n i = 1) := r1
    by_cases d : kdd B n i = 1
    · rw [if_pos d, if_pos (e3 ▸ d)]; rfl
    · rw [if_neg d, if_neg (e3 ▸ d)]
  rw [e1, e2]
  have hq : 1 ≤ (if kdd B n i = 1 then 1 else k) ∧ (if kdd B n i = 1 then 1 else k) ≤ 4 := by split <;> omega
  generalize (if kdd B n i = 1 then 1 else k) = q at hq
  refine ⟨_, _, rfl, rfl, ⟨q, pla B n i, hq.1, hq.2, by omega, (s61n (by decide)).trans s61, s61, (s136n (by decide)).trans s136, s136⟩, (am_ex.sI (X := [61]) (by decide)).tr (am_ex.sI (X := [61]) (by decide)) (fun _ z => z) (fun _ z => z), (nw8.st (.inl rfl)).tr (nw8.st (.inr rfl))⟩
theorem cF_blame {hc hm : am_H} (j : Jf hc hm) (x : Int32) : f_Reader_blame x hc = some hc := by
  obtain ⟨k, pl, j1, j2, j3, j4, j5⟩ := j
  unfold f_Reader_blame
  rw [j4, if_neg (nI0f j1 j2)]
theorem mF_fails {hc hm : am_H} (j : Jf hc hm) (x : Int32) : f_Mod_fails x hm = some hm := by
  obtain ⟨k, pl, j1, j2, j3, j4, j5, j6, j7⟩ := j
  unfold f_Mod_fails
  rw [j6, if_neg (nI0f j1 j2)]
theorem cF_take {hc hm : am_H} (j : Jf hc hm) {k : Nat} (hk : k < 2 ^ 31) : f_Reader_take (nI k) hc = some (false, hc) := by
  unfold f_Reader_take
  rw [cF_kind j, Option.bind_some, if_neg (m1_nI hk)]
theorem mF_eats {hc hm : am_H} (j : Jf hc hm) (x : Int32) : f_Mod_eats x hm = some (false, hm) := by
  unfold f_Mod_eats
  rw [mF_is j, Option.bind_some, if_neg (by decide)]
theorem cF_expect {hc hm : am_H} (j : Jf hc hm) {k : Nat} (hk : k < 2 ^ 31) : f_Reader_expect (nI k) hc = some hc := by
  unfold f_Reader_expect
  rw [cF_take j hk, Option.bind_some, if_neg Bool.false_ne_true, cF_blame j, Option.bind_some]
/-- a token is taken, or it isn't there -/
theorem tke {B : Nat → Nat} {n M i : Nat} {hc hm : am_H} (tk : tkM B n M) (j : Jo B n M i hc hm) {k : Nat} (hk : k ∈ kds) (h0 : k ≠ 0) (h1 : k ≠ 1) :
    (kdd B n i = k ∧ i < M ∧ ∃ hm', f_Reader_take (nI k) hc = some (true, am_sI hc 61 3 (nI (i + 1))) ∧ f_Mod_eats (nI (rk k)) hm = some (true, hm') ∧ Jo B n M (i + 1) (am_sI hc 61 3 (nI (i + 1))) hm' ∧ nw8 hm hm') ∨
    (kdd B n i ≠ k ∧ f_Reader_take (nI k) hc = some (false, hc) ∧ f_Mod_eats (nI (rk k)) hm = some (false, hm)) := by
  have hkl := kdd_lt tk.2.1 i
  have hk2 := rk_lt k hk
  unfold f_Reader_take f_Mod_eats
  simp only [am_let]
  rw [cR_kind tk j, Option.bind_some, mR_is tk j hk, Option.bind_some]
  by_cases d : kdd B n i = k
  · left
    obtain ⟨a1, a2, hm', a3, a4, a5⟩ := adv tk j (by rw [d]; exact h0) (by rw [d]; exact h1)
    refine ⟨d, a1, hm', ?_, ?_, a5, a4⟩
    · rw [if_pos (by rw [d]), a2]
    · rw [if_pos (decide_eq_true d), a3, Option.bind_some]
  · right
    refine ⟨d, ?_, ?_⟩
    · rw [if_neg (fun q => d ((nI_eq (by omega) (by omega)).mp q))]
    · rw [if_neg (by simpa using d)]
/-- eats, or fails -/
def eof (k : Int32) (h : am_H) : Option am_H := (f_Mod_eats k h).bind fun q => ((if q.1 = true then some q.2 else (f_Mod_fails (2 : Int32) q.2).bind fun q3 => some q3) : Option am_H)
theorem eof_b {β : Type} {k : Int32} {h : am_H} {f : am_H → Option β} : ((f_Mod_eats k h).bind fun q => (((if q.1 = true then some q.2 else (f_Mod_fails (2 : Int32) q.2).bind fun q3 => some q3) : Option am_H)).bind f) = (eof k h).bind f := by
  unfold eof
  rw [Option.bind_assoc]
theorem xpc {B : Nat → Nat} {n M i : Nat} {hc hm : am_H} (tk : tkM B n M) (j : Jo B n M i hc hm) {k : Nat} (hk : k ∈ kds) (h0 : k ≠ 0) (h1 : k ≠ 1) : ∃ hc' hm', f_Reader_expect (nI k) hc = some hc' ∧ eof (nI (rk k)) hm = some hm' ∧ am_ex [61] hc hc' ∧ nw8 hm hm' ∧ ((kdd B n i = k ∧ i < M ∧ Jo B n M (i + 1) hc' hm') ∨ Jf hc' hm') := by
  unfold f_Reader_expect eof
  rcases tke tk j hk h0 h1 with ⟨a1, a2, hm', a3, a4, a5, a6⟩ | ⟨a1, a2, a3⟩
  · rw [a3, a4, Option.bind_some, Option.bind_some, if_pos rfl, if_pos rfl]
    exact ⟨_, _, rfl, rfl, am_ex.sI (by decide), a6, .inl ⟨a1, a2, a5⟩⟩
  · obtain ⟨hc', hm', b1, b2, b3, b4, b5⟩ := blm tk j (k := 2) (by decide) (by decide)
    rw [a2, a3, Option.bind_some, Option.bind_some, if_neg Bool.false_ne_true, if_neg Bool.false_ne_true]
    refine ⟨hc', hm', ?_, ?_, b4, b5, .inr b3⟩
    · exact (congrArg (fun o => Option.bind o _) b1).trans rfl
    · exact (congrArg (fun o => Option.bind o _) b2).trans rfl
theorem mF_eof {hc hm : am_H} (j : Jf hc hm) (x : Int32) : eof x hm = some hm := by
  unfold eof
  rw [mF_eats j, Option.bind_some, if_neg Bool.false_ne_true, mF_fails j, Option.bind_some]
/-- a number between two bounds -/
theorem num {B : Nat → Nat} {n M i : Nat} {hc hm : am_H} (tk : tkM B n M) (j : Jo B n M i hc hm) {lo hi : Nat} (hh : hi < 2 ^ 30) (hl : lo < 2 ^ 30) : ∃ x y hc' hm', f_Reader_readNumber (nI lo) (nI hi) hc = some (x, hc') ∧ f_Mod_takes (nI lo) (nI hi) hm = some (y, hm') ∧ am_ex [61] hc hc' ∧ nw8 hm hm' ∧ ((∃ v, kdd B n i = 2 ∧ v = vvv B n i ∧ lo ≤ v ∧ v ≤ hi ∧ x = nI v ∧ y = nI v ∧ i < M ∧ Jo B n M (i + 1) hc' hm') ∨ (x = nI lo ∧ Jf hc' hm')) := by
  have hkl := kdd_lt tk.2.1 i
  unfold f_Reader_readNumber f_Mod_takes
  have e23 : f_Mod_is (23 : Int32) hm = some (decide (kdd B n i = 2)) := mR_is tk j (k := 2) (by decide)
  rw [cR_kind tk j, Option.bind_some, e23, Option.bind_some]
  by_cases d : kdd B n i = 2
  · have hv := vvv_lt tk.2.1 i d
    have jm10 := j.2.2.2.2.2.2.2 d
    have jm11 := j.2.2.2.1
    have jc := j.2.1.1.2 i (by have := j.1; omega)
    have hiM : i < 901 := by have := j.1; have := M_le tk; omega
    rw [if_pos (by rw [d]; rfl), if_pos (decide_eq_true d), j.2.1.2.2.2, n_rd hiM (by decide), Option.bind_some, jc.2.2 d, jm10, wi_t, Option.bind_some]
    simp only [Int32.toInt_toInt64, nI_toInt (show vvv B n i < 2 ^ 31 by omega), nI_toInt (show lo < 2 ^ 31 by omega), nI_toInt (show hi < 2 ^ 31 by omega)]
    by_cases c : lo ≤ vvv B n i ∧ vvv B n i ≤ hi
    · obtain ⟨a1, a2, hm', a3, a4, a5⟩ := adv tk j (by omega) (by omega)
      rw [if_neg (nI_nlt c.1 (by omega)), if_pos (nI_le c.2 (by omega)), if_pos (decide_eq_true (by omega)), Option.bind_some, if_pos jm11, a3, Option.bind_some, jm10]
      simp only [am_let]
      rw [nI_up]
      exact ⟨_, _, _, _, rfl, rfl, am_ex.sI (by decide), a4, .inl ⟨_, d, rfl, c.1, c.2, rfl, rfl, a1, a5⟩⟩
    · obtain ⟨hc', hm', b1, b2, b3, b4, b5⟩ := blm tk j (k := 3) (by decide) (by decide)
      have b1' : f_Reader_blame (3 : Int32) hc = some hc' := b1
      have b2' : f_Mod_fails (3 : Int32) hm = some hm' := b2
      have bf : ¬ hm'.2.1 136 11 = 0 := by
        obtain ⟨k, pl, q1, q2, q3, q4, q5, q6, q7⟩ := b3
        rw [q6]
        exact nI0f q1 q2
      rw [if_neg (show ¬ decide ((lo : Int) ≤ (vvv B n i : Int) ∧ (vvv B n i : Int) ≤ (hi : Int)) = true from fun q => c (by have := of_decide_eq_true q; omega)), b2', Option.bind_some, Option.bind_some, if_neg bf]
      by_cases c1 : vvv B n i < lo
      · rw [if_pos (nI_lt c1 (by omega)), b1', Option.bind_some]
        exact ⟨_, _, _, _, rfl, rfl, b4, b5, .inr ⟨rfl, b3⟩⟩
      · rw [if_neg (nI_nlt (by omega) (by omega)), if_neg (nI_ge (by omega) (by omega)), b1', Option.bind_some]
        exact ⟨_, _, _, _, rfl, rfl, b4, b5, .inr ⟨rfl, b3⟩⟩
  · obtain ⟨hc', hm', b1, b2, b3, b4, b5⟩ := blm tk j (k := 2) (by decide) (by decide)
    have b1' : f_Reader_blame (2 : Int32) hc = some hc' := b1
    have b2' : f_Mod_fails (2 : Int32) hm = some hm' := b2
    have bf : ¬ hm'.2.1 136 11 = 0 := by
      obtain ⟨k, pl, q1, q2, q3, q4, q5, q6, q7⟩ := b3
      rw [q6]
      exact nI0f q1 q2
    rw [if_neg (show ¬ nI (kdd B n i) = (2 : Int32) from fun q => d ((nI_eq (b := 2) (by omega) (by decide)).mp q)), if_neg (by simpa using d), b1', b2', Option.bind_some, Option.bind_some, Option.bind_some, if_neg bf]
    exact ⟨_, _, _, _, rfl, rfl, b4, b5, .inr ⟨rfl, b3⟩⟩
theorem cF_num {hc hm : am_H} (j : Jf hc hm) (a b : Int32) : f_Reader_readNumber a b hc = some (a, hc) := by
  unfold f_Reader_readNumber
  rw [cF_kind j, Option.bind_some, if_neg (by decide), cF_blame j, Option.bind_some]
theorem mF_num {hc hm : am_H} (j : Jf hc hm) (a b : Int32) : f_Mod_takes a b hm = some (hm.2.1 136 10, hm) := by
  have bf : ¬ hm.2.1 136 11 = 0 := by
    obtain ⟨k, pl, q1, q2, q3, q4, q5, q6, q7⟩ := j
    rw [q6]
    exact nI0f q1 q2
  unfold f_Mod_takes
  rw [mF_is j, Option.bind_some, if_neg (by decide), mF_fails j, Option.bind_some, Option.bind_some, if_neg bf]
theorem Jf.ne {hc hm : am_H} (j : Jf hc hm) : ¬ hm.2.1 136 11 = 0 := by
  obtain ⟨k, pl, q1, q2, q3, q4, q5, q6, q7⟩ := j
  rw [q6]
  exact nI0f q1 q2
theorem Jf.ne' {hc hm : am_H} (j : Jf hc hm) : ¬ hc.2.1 61 1 = 0 := by
  obtain ⟨k, pl, q1, q2, q3, q4, q5, q6, q7⟩ := j
  rw [q4]
  exact nI0f q1 q2
/-- what else changes doesn't matter -/
theorem Jf.cg {hc hm hc' hm' : am_H} (j : Jf hc hm) (a1 : hc'.2.1 61 1 = hc.2.1 61 1) (a2 : hc'.2.1 61 2 = hc.2.1 61 2) (b1 : hm'.2.1 136 11 = hm.2.1 136 11) (b2 : hm'.2.1 136 12 = hm.2.1 136 12) : Jf hc' hm' := by
  obtain ⟨k, pl, q1, q2, q3, q4, q5, q6, q7⟩ := j
  exact ⟨k, pl, q1, q2, q3, a1.trans q4, a2.trans q5, b1.trans q6, b2.trans q7⟩
theorem Jo.cg {B : Nat → Nat} {n M i : Nat} {hc hm hc' hm' : am_H} (j : Jo B n M i hc hm) (a1 : hc'.2.1 61 = hc.2.1 61) (a2 : ∀ a, 71 ≤ a → a ≤ 74 → hc'.2.1 a = hc.2.1 a) (b1 : ∀ j, j < 13 → hm'.2.1 136 j = hm.2.1 136 j) (b2 : hm'.2.1 139 = hm.2.1 139) : Jo B n M i hc' hm' := by
  unfold Jo tks rwk tpm at j ⊢
  rw [a1, a2 71 (by omega) (by omega), a2 72 (by omega) (by omega), a2 73 (by omega) (by omega), a2 74 (by omega) (by omega), b1 8 (by omega), b1 11 (by omega), b1 6 (by omega), b1 7 (by omega), b1 9 (by omega), b1 10 (by omega), b2]
  exact j
