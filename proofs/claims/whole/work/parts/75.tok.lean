-- deps: 31.law 32.nat 33.bit 34.spec 35.riv 36.let 37.mod 38.mod 39.it 40.ahead 41.rel 42.ask 43.why 44.meet 45.err 46.err 47.wk 74.wrd
/-! ===== the class cuts a text into tokens ===== -/
theorem b_sb : ∀ b, b < 256 → (sb b = 10 ↔ b = 10) ∧ (sb b = 32 ↔ b = 32) ∧ f_Tokens_isLetter (sb b) am_e = some (isL b) ∧ f_Tokens_isDigit (sb b) am_e = some (isD b) ∧ (b < 128 → sb b = nI b) := by decide +kernel
theorem isL_h (x : Int32) (h : am_H) : f_Tokens_isLetter x h = f_Tokens_isLetter x am_e := rfl
theorem isD_h (x : Int32) (h : am_H) : f_Tokens_isDigit x h = f_Tokens_isDigit x am_e := rfl
theorem isL_b : ∀ b, b < 256 → isL b = true → b < 128 ∧ ¬ nI b = 32 := by decide +kernel
theorem isD_b : ∀ b, b < 256 → isD b = true → b < 128 ∧ 48 ≤ b ∧ b ≤ 57 := by decide +kernel
def tp (B : Nat → Nat) (n : Nat) (h : am_H) : Prop := ∀ i, i < n → B i < 256 ∧ h.2.1 60 i = sb (B i)
def ru (B : Nat → Nat) (c : Nat → Bool) (n k : Nat) : Nat := sk (fun i => c (B i)) (n - k) k
theorem n_endOf {B : Nat → Nat} {n s : Nat} {h : am_H} (T : tp B n h) (hn : n ≤ 900) (hs : s ≤ n) (fl : Bool) : f_Tokens_endOf 60 900 (nI s) (nI n) (if fl then 1 else 0) h = some (nI (ru B (if fl then isD else isL) n s)) := by
  unfold f_Tokens_endOf
  have key := lq2 (fun k (a1 : Int32) (a2 : am_H) => f_Tokens_endOf_L3 60 900 (nI s) (nI n) (if fl then 1 else 0) k a1 a2)
    (fun m a1 a2 => ∃ t, m + t = n ∧ s ≤ t ∧ t ≤ n ∧ a1 = nI t ∧ a2 = h ∧ ∀ i, s ≤ i → i < t → (if fl then isD else isL) (B i) = true)
    (fun b => b = nI (ru B (if fl then isD else isL) n s))
    (fun k m a1 a2 hI => by
      obtain ⟨t, h1, h2, h3, rfl, rfl, h4⟩ := hI
      rw [f_Tokens_endOf_L3]
      by_cases c : t = n
      · left
        rw [if_pos (nI_le (by omega) (by omega))]
        refine ⟨_, rfl, ?_⟩
        unfold ru
        rw [sk_eq (e := t) h2 (by omega) h4 (fun q => by omega)]
      · rw [if_neg (nI_ge (by omega) (by omega)), if_neg (show ¬ Int32.ofNat 900 ≤ nI t from nI_ge (by omega) (by omega))]
        obtain ⟨hb, ht⟩ := T t (by omega)
        have hh := b_sb _ hb
        cases fl with
        | false =>
          simp only [Bool.false_eq_true, if_false] at h4 ⊢
          rw [if_pos trivial, n_rd (by omega) (by omega), Option.bind_some, ht, isL_h, hh.2.2.1, Option.bind_some]
          by_cases d : isL (B t) = true
          · right
            rw [if_pos d, nI_up]
            refine ⟨m - 1, _, _, by omega, rfl, t + 1, by omega, by omega, by omega, rfl, rfl, fun i hi1 hi2 => ?_⟩
            by_cases e : i = t
            · rw [e]; exact d
            · exact h4 i hi1 (by omega)
          · left
            rw [if_neg d]
            refine ⟨_, rfl, ?_⟩
            unfold ru
            rw [sk_eq (e := t) h2 (by omega) h4 (fun q => by simpa using d)]
        | true =>
          simp only [if_true] at h4 ⊢
          rw [if_neg (by decide), n_rd (by omega) (by omega), Option.bind_some, ht, isD_h, hh.2.2.2.1, Option.bind_some]
          by_cases d : isD (B t) = true
          · right
            rw [if_pos d, nI_up]
            refine ⟨m - 1, _, _, by omega, rfl, t + 1, by omega, by omega, by omega, rfl, rfl, fun i hi1 hi2 => ?_⟩
            by_cases e : i = t
            · rw [e]; exact d
            · exact h4 i hi1 (by omega)
          · left
            rw [if_neg d]
            refine ⟨_, rfl, ?_⟩
            unfold ru
            rw [sk_eq (e := t) h2 (by omega) h4 (fun q => by simpa using d)])
    am_fu (n - s) (nI s) h (by unfold am_fu; omega) ⟨s, by omega, Nat.le_refl _, hs, rfl, rfl, fun i a b => by omega⟩
  obtain ⟨b, e1, rfl⟩ := key
  have e2 : f_Tokens_endOf_L3 60 900 (nI s) (nI n) (if fl then 1 else 0) am_fu (nI s) h = _ := e1
  rw [e2, Option.bind_some]
theorem sl1 : am_sl 1 = 105 := rfl
theorem n_chr {o i : Nat} {h : am_H} (hi : i < am_sl o) (ho : am_sl o ≤ 105) : f_String_charAt o (nI i) h = some (am_sb o i) := by
  unfold f_String_charAt
  exact n_rd hi (by omega)
theorem n_isWordAt {B : Nat → Nat} {n s e a : Nat} {h : am_H} (T : tp B n h) (hn : n ≤ 900) (hs : s ≤ e) (he : e ≤ n) (hl : ∀ i, s ≤ i → i < e → isL (B i) = true) (ha : a < 105) : f_Tokens_isWordAt (nI a) 60 900 (nI s) (nI e) h = some (decide (wl B s (e - s) = wd 1 a)) := by
  have hiff := wd_iff (o := 1) (B := B) (by decide) (e - s) s a (by rw [sl1]; exact ha) (fun j hj => (isL_b _ (T (s + j) (by omega)).1 (hl _ (by omega) (by omega))).2)
  unfold f_Tokens_isWordAt f_String_length
  rw [Option.bind_some, nI_sub (by omega), nI_add]
  show (if nI (am_sl 1) ≤ nI (a + (e - s)) then _ else _) = _
  by_cases c : a + (e - s) < am_sl 1
  · rw [sl1] at c
    rw [sl1, if_neg (nI_ge c (by omega)), n_chr (by rw [sl1]; exact c) (by rw [sl1]; decide), Option.bind_some]
    by_cases d : am_sb 1 (a + (e - s)) = 32
    · rw [if_pos d]
      have key := lq3 (fun k (a1 a2 : Int32) (a3 : am_H) => f_Tokens_isWordAt_L36 (nI a) 60 900 (nI s) (nI e) k a1 a2 a3)
        (fun m a1 a2 a3 => ∃ t, m + t = e - s ∧ a1 = nI (e - s) ∧ a2 = nI t ∧ a3 = h ∧ ∀ j, j < t → am_sb 1 (a + j) = nI (B (s + j)))
        (fun b => b = decide (wl B s (e - s) = wd 1 a))
        (fun k m a1 a2 a3 hI => by
          obtain ⟨t, h1, rfl, rfl, rfl, h4⟩ := hI
          rw [f_Tokens_isWordAt_L36]
          by_cases q : t = e - s
          · left
            rw [if_pos (nI_le (by omega) (by omega))]
            refine ⟨_, rfl, (decide_eq_true (hiff.mpr ?_)).symm⟩
            exact ⟨by rw [sl1]; exact c, d, fun j hj => h4 j (by omega)⟩
          · obtain ⟨hb, ht⟩ := T (s + t) (by omega)
            have hL := hl (s + t) (by omega) (by omega)
            rw [if_neg (nI_ge (by omega) (by omega)), nI_add, nI_add, n_chr (by rw [sl1]; omega) (by rw [sl1]; decide), Option.bind_some, n_rd (by omega) (by omega), Option.bind_some, ht, (b_sb _ hb).2.2.2.2 (isL_b _ hb hL).1]
            by_cases u : am_sb 1 (a + t) = nI (B (s + t))
            · right
              rw [if_pos u, nI_up]
              refine ⟨m - 1, _, _, _, by omega, rfl, t + 1, by omega, rfl, rfl, rfl, fun j hj => ?_⟩
              by_cases w : j = t
              · rw [w]; exact u
              · exact h4 j (by omega)
            · left
              rw [if_neg u]
              refine ⟨_, rfl, (decide_eq_false (fun w => u ((hiff.mp w).2.2 t (by omega)))).symm⟩)
        am_fu (e - s) (nI (e - s)) (nI 0) h (by unfold am_fu; omega) ⟨0, by omega, rfl, rfl, rfl, fun j hj => by omega⟩
      obtain ⟨b, e1, rfl⟩ := key
      exact e1
    · rw [if_neg d]
      exact congrArg some (decide_eq_false (fun w => d (hiff.mp w).2.1)).symm
  · rw [sl1] at c ⊢
    rw [if_pos (nI_le (by omega) (by omega))]
    exact congrArg some (decide_eq_false (fun w => by
      have := (hiff.mp w).1
      rw [sl1] at this
      exact c this)).symm
theorem n_wordKind {B : Nat → Nat} {n s e : Nat} {h : am_H} (T : tp B n h) (hn : n ≤ 900) (hs : s ≤ e) (he : e ≤ n) (hl : ∀ i, s ≤ i → i < e → isL (B i) = true) : f_Tokens_wordKind 60 900 (nI s) (nI e) h = some (nI (look (wl B s (e - s)) (tbC (am_sl 1 - 1) 0 101) 3)) := by
  have key : ∀ (c i k f : Nat), i + c = 104 → c < f → f_Tokens_wordKind_L6 60 900 (nI s) (nI e) f (nI k) (nI i) h = some (nI (look (wl B s (e - s)) (tbC c i k) 3)) := by
    intro c
    induction c with
    | zero =>
      intro i k f h1 h2
      obtain ⟨f, rfl⟩ : ∃ f', f = f' + 1 := ⟨f - 1, by omega⟩
      rw [f_Tokens_wordKind_L6]
      unfold f_String_length
      rw [Option.bind_some, nI_up]
      show (if nI 105 ≤ nI (i + 1) then _ else _) = _
      rw [if_pos (nI_le (by omega) (by omega))]
      rfl
    | succ c ih =>
      intro i k f h1 h2
      obtain ⟨f, rfl⟩ : ∃ f', f = f' + 1 := ⟨f - 1, by omega⟩
      rw [f_Tokens_wordKind_L6]
      unfold f_String_length
      rw [Option.bind_some, nI_up]
      show (if nI 105 ≤ nI (i + 1) then _ else _) = _
      rw [if_neg (nI_ge (by omega) (by omega)), n_chr (by rw [sl1]; omega) (by rw [sl1]; decide), Option.bind_some, tbC]
      by_cases d : am_sb 1 i = 32
      · rw [if_pos d, if_pos d, n_isWordAt T hn hs he hl (by omega), Option.bind_some, look]
        by_cases q : wl B s (e - s) = wd 1 (i + 1)
        · rw [if_pos q, if_pos (decide_eq_true q)]
        · rw [if_neg q, if_neg (by simpa using q), nI_up, ih (i + 1) (k + 1) f (by omega) (by omega)]
      · rw [if_neg d, if_neg d, ih (i + 1) k f (by omega) (by omega)]
  unfold f_Tokens_wordKind
  exact key 104 0 101 am_fu (by omega) (by unfold am_fu; omega)
/-- a number's value, of its first three digits -/
def vl (B : Nat → Nat) (s : Nat) : Nat → Nat
  | 0 => 0
  | m + 1 => vl B s m * 10 + B (s + m) - 48
theorem vl_lt {B : Nat → Nat} {s : Nat} : ∀ (m : Nat), (∀ i, i < m → 48 ≤ B (s + i) ∧ B (s + i) ≤ 57) → vl B s m < 10 ^ m
  | 0, h => by simp [vl]
  | m + 1, h => by
    have := vl_lt m (fun i hi => h i (by omega))
    have h2 := h m (by omega)
    rw [vl, Nat.pow_succ]
    omega
theorem n_valueOf {B : Nat → Nat} {n s e : Nat} {h : am_H} (T : tp B n h) (hn : n ≤ 900) (hs : s ≤ e) (he : e ≤ n) (hl : ∀ i, s ≤ i → i < e → isD (B i) = true) : f_Tokens_valueOf 60 900 (nI s) (nI e) h = some (nI (vl B s (min 3 (e - s)))) := by
  have key := lq3 (fun k (a1 a2 : Int32) (a3 : am_H) => f_Tokens_valueOf_L5 60 900 (nI s) (nI e) k a1 a2 a3)
    (fun m a1 a2 a3 => ∃ t, m + t = min 3 (e - s) ∧ a1 = nI (vl B s t) ∧ a2 = nI (s + t) ∧ a3 = h)
    (fun b => b.1 = nI (vl B s (min 3 (e - s))))
    (fun k m a1 a2 a3 hI => by
      obtain ⟨t, h1, rfl, rfl, rfl⟩ := hI
      rw [f_Tokens_valueOf_L5]
      have e3 : nI s + (3 : Int32) = nI (s + 3) := nI_add s 3
      rw [e3]
      by_cases c : t = min 3 (e - s)
      · left
        by_cases d : e ≤ s + t
        · rw [if_pos (nI_le d (by omega))]
          exact ⟨_, rfl, by rw [c]⟩
        · rw [if_neg (nI_ge (by omega) (by omega)), if_pos (nI_le (by omega) (by omega))]
          exact ⟨_, rfl, by rw [c]⟩
      · right
        obtain ⟨hb, ht⟩ := T (s + t) (by omega)
        have hL := isD_b _ hb (hl (s + t) (by omega) (by omega))
        have e4 : nI (vl B s t) * (10 : Int32) + nI (B (s + t)) - (48 : Int32) = nI (vl B s (t + 1)) := by
          have a1 : nI (vl B s t) * (10 : Int32) = nI (vl B s t * 10) := nI_mul _ 10
          rw [a1, nI_add]
          exact nI_sub (b := 48) (by omega)
        rw [if_neg (nI_ge (by omega) (by omega)), if_neg (nI_ge (by omega) (by omega)), n_rd (by omega) (by omega), Option.bind_some, ht, (b_sb _ hb).2.2.2.2 hL.1, e4, nI_up]
        exact ⟨m - 1, _, _, _, by omega, rfl, t + 1, by omega, rfl, by rw [Nat.add_assoc], rfl⟩)
    am_fu (min 3 (e - s)) (nI 0) (nI s) h (by unfold am_fu; omega) ⟨0, by omega, rfl, rfl, rfl⟩
  unfold f_Tokens_valueOf
  obtain ⟨b, e1, e2⟩ := key
  have e3 : f_Tokens_valueOf_L5 60 900 (nI s) (nI e) am_fu 0 (nI s) h = some b := e1
  rw [e3, Option.bind_some, e2]
def pk (b : Nat) : Nat := if b ∈ [59, 58, 43, 45, 42, 40, 41, 91, 93, 61, 60, 62] then b else 1
/-- the kind of a sign -/
def sgn (x : Int32) : Option Int32 := ((if x ≤ 0 then some (0 : Int32) else (f_String_indexOf 0 (((x).toUInt32 % 65536).toInt32) am_e).bind fun q => (if q < 0 then some (0 : Int32) else some (1 : Int32))) : Option Int32)
def sgB (b : Nat) : Bool := isL b || isD b || ((decide (pk b = 1) && decide (sgn (sb b) = some 0) || decide (pk b ≠ 1) && (decide (sgn (sb b) = some 1) && decide (sb b = nI (pk b)))) && decide (pk b ∈ kds))
theorem sgB_all : ∀ b, b < 256 → sgB b = true := by decide +kernel
theorem sgn_e (b : Nat) (hb : b < 256) (h1 : isL b = false) (h2 : isD b = false) : (pk b = 1 ∧ sgn (sb b) = some 0 ∨ pk b ≠ 1 ∧ sgn (sb b) = some 1 ∧ sb b = nI (pk b)) ∧ pk b ∈ kds := by
  have := sgB_all b hb
  unfold sgB at this
  rw [h1, h2] at this
  simpa only [Bool.false_or, Bool.and_eq_true, Bool.or_eq_true, decide_eq_true_eq] using this
theorem idx_h : ∀ (n : Nat) (p1 p2 p3 v4 v5 : Int32) (h : am_H), f_StringLatin1_indexOfChar_L7 0 p1 p2 p3 n v4 v5 h = f_StringLatin1_indexOfChar_L7 0 p1 p2 p3 n v4 v5 am_e
  | 0, _, _, _, _, _, _ => rfl
  | n + 1, p1, p2, p3, v4, v5, h => by
    rw [f_StringLatin1_indexOfChar_L7, f_StringLatin1_indexOfChar_L7]
    simp only [idx_h n]
theorem idx_e (x : Int32) (h : am_H) : f_String_indexOf 0 x h = f_String_indexOf 0 x am_e := by
  unfold f_String_indexOf f_String_indexOf_III f_StringLatin1_indexOf f_StringLatin1_indexOfChar f_StringLatin1_canEncode f_String_isLatin1 f_String_length
  simp only [Option.bind_some, idx_h am_fu]
