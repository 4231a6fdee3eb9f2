-- deps: 73.eval 74.wrd 75.tok 76.next
/-! ===== the tokens of a text; the class cuts it into them ===== -/
def en (B : Nat → Nat) (n : Nat) : Nat → Nat
  | 0 => 0
  | i + 1 => (nk B n (ru B isW n (en B n i))).2.1
def pla (B : Nat → Nat) (n i : Nat) : Nat := ru B isW n (en B n i)
def kdd (B : Nat → Nat) (n i : Nat) : Nat := (nk B n (pla B n i)).1
def vvv (B : Nat → Nat) (n i : Nat) : Nat := (nk B n (pla B n i)).2.2
theorem pk_b : ∀ b, b < 256 → pk b ≠ 0 ∧ pk b ≠ 2 := by decide +kernel
theorem nk_b {B : Nat → Nat} {n a : Nat} (hB : ∀ i, i < n → B i < 256) (ha : a ≤ n) : (a ≤ (nk B n a).2.1 ∧ (nk B n a).2.1 ≤ n) ∧ (a < n → a < (nk B n a).2.1 ∧ (nk B n a).1 ≠ 0) ∧ (a = n → (nk B n a).1 = 0) ∧ (nk B n a).1 ∈ kds := by
  unfold nk
  by_cases c : n ≤ a
  · rw [if_pos c]
    exact ⟨⟨Nat.le_refl _, ha⟩, fun q => by omega, fun _ => rfl, by show 0 ∈ kds; decide⟩
  · rw [if_neg c]
    have hb := hB a (by omega)
    by_cases d : isL (B a) = true
    · rw [if_pos d]
      have h1 := ru_gt (c := isL) (show a < n by omega) d
      have h3 := look_3 (wl B a (ru B isL n a - a))
      exact ⟨⟨Nat.le_of_lt h1, ru_le ha⟩, fun _ => ⟨h1, by show look _ _ _ ≠ 0; omega⟩, fun q => by omega, (look_map _).2⟩
    · rw [if_neg d]
      by_cases d2 : isD (B a) = true
      · rw [if_pos d2]
        have h1 := ru_gt (c := isD) (show a < n by omega) d2
        refine ⟨⟨Nat.le_of_lt h1, ru_le ha⟩, fun _ => ⟨h1, ?_⟩, fun q => by omega, ?_⟩
        · show (if ru B isD n a - a ≤ 3 then 2 else 1) ≠ 0
          split <;> decide
        · show (if ru B isD n a - a ≤ 3 then 2 else 1) ∈ kds
          split <;> decide
      · rw [if_neg d2]
        exact ⟨⟨Nat.le_succ _, by show a + 1 ≤ n; omega⟩, fun _ => ⟨Nat.lt_succ_self _, (pk_b _ hb).1⟩, fun q => by omega, (sgn_e _ hb (by simpa using d) (by simpa using d2)).2⟩
theorem en_le {B : Nat → Nat} {n : Nat} (hB : ∀ i, i < n → B i < 256) : ∀ i, en B n i ≤ n
  | 0 => Nat.zero_le _
  | i + 1 => (nk_b hB (ru_le (en_le hB i))).1.2
theorem pla_le {B : Nat → Nat} {n : Nat} (hB : ∀ i, i < n → B i < 256) (i : Nat) : pla B n i ≤ n := ru_le (en_le hB i)
theorem kdd_in {B : Nat → Nat} {n : Nat} (hB : ∀ i, i < n → B i < 256) (i : Nat) : kdd B n i ∈ kds := (nk_b hB (pla_le hB i)).2.2.2
theorem kdd_lt {B : Nat → Nat} {n : Nat} (hB : ∀ i, i < n → B i < 256) (i : Nat) : kdd B n i < 123 ∧ rk (kdd B n i) < 42 := rk_lt _ (kdd_in hB i)
theorem en_ge {B : Nat → Nat} {n : Nat} (hB : ∀ i, i < n → B i < 256) : ∀ i, (∀ j, j < i → kdd B n j ≠ 0) → i ≤ en B n i
  | 0, _ => Nat.le_refl _
  | i + 1, h => by
    have h1 := en_ge hB i (fun j hj => h j (by omega))
    have h2 := h i (by omega)
    have h3 := nk_b hB (pla_le hB i)
    have h4 : en B n i ≤ pla B n i := ru_ge
    have h5 := pla_le hB i
    have h6 : pla B n i < n := by
      rcases Nat.lt_or_ge (pla B n i) n with q | q
      · exact q
      · exact absurd (h3.2.2.1 (by omega)) h2
    have h7 : pla B n i < en B n (i + 1) := (h3.2.1 h6).1
    omega
theorem vvv_lt {B : Nat → Nat} {n : Nat} (hB : ∀ i, i < n → B i < 256) (i : Nat) (h : kdd B n i = 2) : vvv B n i < 1000 := by
  unfold kdd at h
  unfold vvv
  have ha := pla_le hB i
  generalize pla B n i = a at h ha ⊢
  unfold nk at h ⊢
  by_cases c : n ≤ a
  · rw [if_pos c] at h; cases h
  · rw [if_neg c] at h ⊢
    by_cases d : isL (B a) = true
    · rw [if_pos d] at h
      have h3 := look_3 (wl B a (ru B isL n a - a))
      have h' : look (wl B a (ru B isL n a - a)) (tbC (am_sl 1 - 1) 0 101) 3 = 2 := h
      omega
    · rw [if_neg d] at h ⊢
      by_cases d2 : isD (B a) = true
      · rw [if_pos d2]
        show vl B a (min 3 (ru B isD n a - a)) < 1000
        have h1 := vl_lt (B := B) (s := a) (min 3 (ru B isD n a - a)) (fun i hi => by
          have hle := ru_le (B := B) (c := isD) ha
          exact (isD_b _ (hB (a + i) (by omega)) (ru_all (c := isD) (n := n) (k := a) (by omega) (by omega))).2)
        exact Nat.lt_of_lt_of_le h1 (Nat.pow_le_pow_right (n := 10) (by omega) (show min 3 (ru B isD n a - a) ≤ 3 by omega))
      · rw [if_neg d2] at h
        exact absurd h (pk_b _ (hB a (by omega))).2
def rwk (B : Nat → Nat) (n i : Nat) (x : am_H) : Prop := ∀ j, j < i → x.2.1 72 j = nI (kdd B n j) ∧ x.2.1 73 j = nI (pla B n j) ∧ (kdd B n j = 2 → x.2.1 74 j = nI (vvv B n j))
theorem n_add {h : am_H} {i : Nat} {k p v : Int32} (e : h.2.1 71 0 = nI i) (hi : i ≤ 900) : ∃ h', f_Tokens_add k p v h = some h' ∧ am_ex [71, 72, 73, 74] h h' ∧ h'.2.1 71 0 = nI (i + 1) ∧ h'.2.1 72 = va_up (h.2.1 72) i k ∧ h'.2.1 73 = va_up (h.2.1 73) i p ∧ h'.2.1 74 = va_up (h.2.1 74) i v := by
  unfold f_Tokens_add
  simp only [am_let]
  rw [e, if_neg (show ¬ Int32.ofNat 901 ≤ nI i from nI_ge (b := 901) (by omega) (by decide)), n_wr (by omega) (by decide), Option.bind_some]
  have e1 : (am_sI h 72 i k).2.1 71 0 = nI i := by rw [sI_row, if_neg (by decide)]; exact e
  rw [e1, n_wr (by omega) (by decide), Option.bind_some]
  have e2 : (am_sI (am_sI h 72 i k) 73 i p).2.1 71 0 = nI i := by rw [sI_row, if_neg (by decide)]; exact e1
  rw [e2, n_wr (by omega) (by decide), Option.bind_some]
  have e3 : (am_sI (am_sI (am_sI h 72 i k) 73 i p) 74 i v).2.1 71 0 = nI i := by rw [sI_row, if_neg (by decide)]; exact e2
  rw [e3, nI_up]
  refine ⟨_, rfl, ?_, ?_, ?_, ?_, ?_⟩
  · exact (((am_ex.sI (X := [71, 72, 73, 74]) (by decide)).tr (am_ex.sI (X := [71, 72, 73, 74]) (by decide)) (fun _ z => z) (fun _ z => z)).tr (am_ex.sI (X := [71, 72, 73, 74]) (by decide)) (fun _ z => z) (fun _ z => z)).tr (am_ex.sI (X := [71, 72, 73, 74]) (by decide)) (fun _ z => z) (fun _ z => z)
  · rw [sI_row, if_pos rfl, up_s]
  · simp [sI_row]
  · simp [sI_row]
  · simp [sI_row]
theorem rwk.add {B : Nat → Nat} {n i : Nat} {x x' : am_H} {k p v : Int32} (R : rwk B n i x) (e1 : x'.2.1 72 = va_up (x.2.1 72) i k) (e2 : x'.2.1 73 = va_up (x.2.1 73) i p) (e3 : x'.2.1 74 = va_up (x.2.1 74) i v) (h1 : k = nI (kdd B n i)) (h2 : p = nI (pla B n i)) (h3 : kdd B n i = 2 → v = nI (vvv B n i)) : rwk B n (i + 1) x' := by
  intro j hj
  rw [e1, e2, e3]
  by_cases c : j = i
  · subst c
    rw [up_s, up_s, up_s]
    exact ⟨h1, h2, h3⟩
  · rw [up_n c, up_n c, up_n c]
    exact R j (by omega)
theorem rwk.kp {B : Nat → Nat} {n i m : Nat} {x x' : am_H} {k p v : Int32} (R : rwk B n i x) (hm : i ≤ m) (e1 : x'.2.1 72 = va_up (x.2.1 72) m k) (e2 : x'.2.1 73 = va_up (x.2.1 73) m p) (e3 : x'.2.1 74 = va_up (x.2.1 74) m v) : rwk B n i x' := by
  intro j hj
  rw [e1, e2, e3, up_n (by omega), up_n (by omega), up_n (by omega)]
  exact R j hj
theorem tp.ex {B : Nat → Nat} {n : Nat} {h h' : am_H} (T : tp B n h) (x : am_ex [71, 72, 73, 74] h h') : tp B n h' := fun i hi => by rw [x.2.2 60 (by decide)]; exact T i hi
def cuA (B : Nat → Nat) (n : Nat) (h : am_H) (p c : Nat) (x : am_H) : Prop := ∃ i, c ≤ p ∧ p ≤ n ∧ am_ex [71, 72, 73, 74] h x ∧ x.2.1 71 0 = nI i ∧ en B n i ≤ p ∧ (∀ j, en B n i ≤ j → j < p → isW (B j) = true) ∧ rwk B n i x ∧ (∀ j, j < i → kdd B n j ≠ 0 ∧ kdd B n j ≠ 1)
def cuB (B : Nat → Nat) (n : Nat) (h : am_H) (c : Nat) (x : am_H) : Prop := ∃ i, c ≤ n ∧ i < n ∧ am_ex [71, 72, 73, 74] h x ∧ x.2.1 71 0 = nI (i + 1) ∧ kdd B n i = 1 ∧ rwk B n (i + 1) x ∧ (∀ j, j < i → kdd B n j ≠ 0 ∧ kdd B n j ≠ 1)
theorem n_cutL {B : Nat → Nat} {n : Nat} {h : am_H} (T : tp B n h) (hn : n ≤ 900) (h0 : h.2.1 71 0 = nI 0) : ∃ y, f_Tokens_cut_L10 60 900 (nI n) am_fu 0 0 h = some y ∧ ((∃ c, cuA B n h n c y.2.2) ∨ ∃ c, cuB B n h c y.2.2) := by
  have hB : ∀ i, i < n → B i < 256 := fun i hi => (T i hi).1
  have key := lq3 (fun k (a1 a2 : Int32) (x : am_H) => f_Tokens_cut_L10 60 900 (nI n) k a1 a2 x)
    (fun m a1 a2 x => (∃ p c, m + p = n + 1 ∧ a1 = nI p ∧ a2 = nI c ∧ cuA B n h p c x) ∨ (∃ c, m = 0 ∧ a1 = nI n ∧ a2 = nI c ∧ cuB B n h c x))
    (fun y => ((∃ c, cuA B n h n c y.2.2) ∨ ∃ c, cuB B n h c y.2.2))
    (fun k m a1 a2 x hI => by
      rw [f_Tokens_cut_L10]
      rcases hI with ⟨p, c, h1, rfl, rfl, hA⟩ | ⟨c, rfl, rfl, rfl, hA⟩
      · obtain ⟨i, g1, g2, g3, g4, g5, g6, g7, g8⟩ := id hA
        rw [if_neg (show ¬ (900 : Int32) < nI c from nI_nlt (a := 900) (by omega) (by omega))]
        by_cases d : p = n
        · left
          subst d
          rw [if_pos (nI_le (by omega) (by omega))]
          exact ⟨_, rfl, .inl ⟨c, hA⟩⟩
        · have hb := hB p (by omega)
          have hs := b_sb _ hb
          have T' := g3.2.2 60 (by decide)
          have Tx : tp B n x := T.ex g3
          have hi0 := en_ge hB i (fun j hj => (g8 j hj).1)
          rw [if_neg (nI_ge (by omega) (by omega)), n_rd (by omega) (by decide), Option.bind_some, (Tx p (by omega)).2, nI_up, nI_up]
          have blank : isW (B p) = true → (∃ m' b1 b2 b3, m' < m ∧ f_Tokens_cut_L10 60 900 (nI n) k (nI (p + 1)) (nI (c + 1)) x = f_Tokens_cut_L10 60 900 (nI n) k b1 b2 b3 ∧ ((∃ p c, m' + p = n + 1 ∧ b1 = nI p ∧ b2 = nI c ∧ cuA B n h p c b3) ∨ (∃ c, m' = 0 ∧ b1 = nI n ∧ b2 = nI c ∧ cuB B n h c b3))) := fun w =>
            ⟨m - 1, _, _, _, by omega, rfl, .inl ⟨p + 1, c + 1, by omega, rfl, rfl, i, by omega, by omega, g3, g4, by omega, fun j j1 j2 => by
              by_cases q : j = p
              · rw [q]; exact w
              · exact g6 j j1 (by omega), g7, g8⟩⟩
          by_cases d1 : B p = 10
          · right
            rw [if_pos (hs.1.mpr d1)]
            exact blank (by unfold isW; simp [d1])
          · rw [if_neg (fun q => d1 (hs.1.mp q))]
            by_cases d2 : B p = 32
            · right
              rw [if_pos (hs.2.1.mpr d2)]
              exact blank (by unfold isW; simp [d2])
            · rw [if_neg (fun q => d2 (hs.2.1.mp q)), isL_h, hs.2.2.1, Option.bind_some]
              have hp : pla B n i = p := ru_eq g5 g2 g6 (fun _ => by unfold isW; simp [d1, d2])
              have hnk : nk B n p = if isL (B p) then (look (wl B p (ru B isL n p - p)) (tbC (am_sl 1 - 1) 0 101) 3, ru B isL n p, 0)
                  else if isD (B p) then (if ru B isD n p - p ≤ 3 then 2 else 1, ru B isD n p, vl B p (min 3 (ru B isD n p - p)))
                  else (pk (B p), p + 1, 0) := by
                conv => lhs; unfold nk
                rw [if_neg (by omega)]
              have hnext : ∀ (e : Nat) (x' : am_H), kdd B n i ≠ 1 → en B n (i + 1) = e → p < e → e ≤ n → am_ex [71, 72, 73, 74] x x' → x'.2.1 71 0 = nI (i + 1) → rwk B n (i + 1) x' → (∃ m' b1 b2 b3, m' < m ∧ f_Tokens_cut_L10 60 900 (nI n) k (nI e) (nI (c + 1)) x' = f_Tokens_cut_L10 60 900 (nI n) k b1 b2 b3 ∧ ((∃ p c, m' + p = n + 1 ∧ b1 = nI p ∧ b2 = nI c ∧ cuA B n h p c b3) ∨ (∃ c, m' = 0 ∧ b1 = nI n ∧ b2 = nI c ∧ cuB B n h c b3))) := fun e x' z0 z1 z2 z3 z4 z5 z6 =>
                ⟨n + 1 - e, _, _, _, by omega, rfl, .inl ⟨e, c + 1, by omega, rfl, rfl, i + 1, by omega, z3, g3.tr z4 (fun _ z => z) (fun _ z => z), z5, by omega, fun j j1 j2 => by omega, z6, fun j hj => by
                  by_cases q : j = i
                  · subst q
                    exact ⟨by unfold kdd; rw [hp]; exact ((nk_b hB g2).2.1 (by omega)).2, z0⟩
                  · exact g8 j (by omega)⟩⟩
              have hbad : ∀ (x' : am_H), kdd B n i = 1 → am_ex [71, 72, 73, 74] x x' → x'.2.1 71 0 = nI (i + 1) → rwk B n (i + 1) x' → (∃ m' b1 b2 b3, m' < m ∧ f_Tokens_cut_L10 60 900 (nI n) k (nI n) (nI (c + 1)) x' = f_Tokens_cut_L10 60 900 (nI n) k b1 b2 b3 ∧ ((∃ p c, m' + p = n + 1 ∧ b1 = nI p ∧ b2 = nI c ∧ cuA B n h p c b3) ∨ (∃ c, m' = 0 ∧ b1 = nI n ∧ b2 = nI c ∧ cuB B n h c b3))) := fun x' z0 z4 z5 z6 =>
                ⟨0, _, _, _, by omega, rfl, .inr ⟨c + 1, rfl, rfl, rfl, i, by omega, by omega, g3.tr z4 (fun _ z => z) (fun _ z => z), z5, z0, z6, g8⟩⟩
              by_cases d3 : isL (B p) = true
              · right
                rw [if_pos d3] at hnk
                have hgt := ru_gt (c := isL) (show p < n by omega) d3
                have hle := ru_le (B := B) (c := isL) g2
                have hend := n_endOf (B := B) Tx hn g2 false
                simp only [Bool.false_eq_true, if_false] at hend
                rw [if_pos d3, hend, Option.bind_some, n_wordKind Tx hn (by omega) hle (fun j j1 j2 => ru_all j1 j2), Option.bind_some]
                have hk : kdd B n i = look (wl B p (ru B isL n p - p)) (tbC (am_sl 1 - 1) 0 101) 3 := by unfold kdd; rw [hp, hnk]
                have h3 := look_3 (wl B p (ru B isL n p - p))
                obtain ⟨x', z1, z2, z3, z4, z5, z6⟩ := n_add (k := nI (look (wl B p (ru B isL n p - p)) (tbC (am_sl 1 - 1) 0 101) 3)) (p := nI p) (v := 0) g4 (by omega)
                rw [z1, Option.bind_some]
                exact hnext _ x' (by omega) (by show (nk B n (pla B n i)).2.1 = _; rw [hp, hnk]) hgt hle z2 z3 (g7.add z4 z5 z6 (by rw [hk]) (by rw [hp]) (fun q => by omega))
              · rw [if_neg d3] at hnk
                rw [if_neg d3, isD_h, hs.2.2.2.1, Option.bind_some]
                by_cases d4 : isD (B p) = true
                · right
                  rw [if_pos d4] at hnk
                  have hgt := ru_gt (c := isD) (show p < n by omega) d4
                  have hle := ru_le (B := B) (c := isD) g2
                  have hend := n_endOf (B := B) Tx hn g2 true
                  simp only [if_true] at hend
                  rw [if_pos d4, hend, Option.bind_some, n_valueOf Tx hn (by omega) hle (fun j j1 j2 => ru_all j1 j2), Option.bind_some, nI_sub (by omega)]
                  have hk : kdd B n i = if ru B isD n p - p ≤ 3 then 2 else 1 := by unfold kdd; rw [hp, hnk]
                  have hv : vvv B n i = vl B p (min 3 (ru B isD n p - p)) := by unfold vvv; rw [hp, hnk]
                  by_cases q : ru B isD n p - p ≤ 3
                  · rw [if_pos q] at hk
                    have q' : nI (ru B isD n p - p) ≤ (3 : Int32) := nI_le (b := 3) q (by decide)
                    simp only [if_pos q']
                    obtain ⟨x', z1, z2, z3, z4, z5, z6⟩ := n_add (k := 2) (p := nI p) (v := nI (vl B p (min 3 (ru B isD n p - p)))) g4 (by omega)
                    rw [z1, Option.bind_some]
                    exact hnext _ x' (by omega) (by show (nk B n (pla B n i)).2.1 = _; rw [hp, hnk]) hgt hle z2 z3 (g7.add z4 z5 z6 (by rw [hk]; rfl) (by rw [hp]) (fun _ => by rw [hv]))
                  · rw [if_neg q] at hk
                    have q' : ¬ nI (ru B isD n p - p) ≤ (3 : Int32) := nI_ge (a := 3) (by omega) (by omega)
                    simp only [if_neg q']
                    obtain ⟨x', z1, z2, z3, z4, z5, z6⟩ := n_add (k := 1) (p := nI p) (v := nI (vl B p (min 3 (ru B isD n p - p)))) g4 (by omega)
                    rw [z1, Option.bind_some]
                    exact hbad x' hk z2 z3 (g7.add z4 z5 z6 (by rw [hk]; rfl) (by rw [hp]) (fun w => by omega))
                · right
                  rw [if_neg d4] at hnk
                  have hsg := (sgn_e _ hb (by simpa using d3) (by simpa using d4)).1
                  have hk : kdd B n i = pk (B p) := by unfold kdd; rw [hp, hnk]
                  have hidx : ((if sb (B p) ≤ 0 then some (0 : Int32) else (f_String_indexOf 0 (((sb (B p)).toUInt32 % 65536).toInt32) x).bind fun q => (if q < 0 then some (0 : Int32) else some (1 : Int32))) : Option Int32) = sgn (sb (B p)) := by
                    unfold sgn
                    rw [idx_e]
                  rw [if_neg d4, hidx]
                  rcases hsg with ⟨w1, w2⟩ | ⟨w1, w2, w3⟩
                  · rw [w2, Option.bind_some]
                    simp only [if_true]
                    obtain ⟨x', z1, z2, z3, z4, z5, z6⟩ := n_add (k := 1) (p := nI p) (v := 0) g4 (by omega)
                    rw [z1, Option.bind_some]
                    exact hbad x' (by rw [hk, w1]) z2 z3 (g7.add z4 z5 z6 (by rw [hk, w1]; rfl) (by rw [hp]) (fun w => by omega))
                  · rw [w2, Option.bind_some]
                    have n10 : ¬ (1 : Int32) = 0 := by decide
                    simp only [if_neg n10]
                    have n2 := (pk_b _ hb).2
                    obtain ⟨x', z1, z2, z3, z4, z5, z6⟩ := n_add (k := sb (B p)) (p := nI p) (v := 0) g4 (by omega)
                    rw [z1, Option.bind_some]
                    exact hnext _ x' (by rw [hk]; exact w1) (by show (nk B n (pla B n i)).2.1 = _; rw [hp, hnk]) (by omega) (by omega) z2 z3 (g7.add z4 z5 z6 (by rw [hk, w3]) (by rw [hp]) (fun w => by omega))
      · left
        obtain ⟨i, g1, g2⟩ := id hA
        rw [if_neg (show ¬ (900 : Int32) < nI c from nI_nlt (a := 900) (by omega) (by omega)), if_pos (nI_le (by omega) (by omega))]
        exact ⟨_, rfl, .inr ⟨c, hA⟩⟩)
    am_fu (n + 1) (nI 0) (nI 0) h (by unfold am_fu; omega) (.inl ⟨0, 0, by omega, rfl, rfl, 0, Nat.le_refl _, Nat.zero_le _, am_ex.rf, h0, Nat.le_refl _, fun j j1 j2 => by omega, fun j hj => by omega, fun j hj => by omega⟩)
  exact key
/-- the class's row of tokens: up to the last one that counts -/
def tks (B : Nat → Nat) (n M : Nat) (h : am_H) : Prop := (∃ N, h.2.1 71 0 = nI N ∧ M < N ∧ N ≤ 901) ∧ rwk B n (M + 1) h
def tkM (B : Nat → Nat) (n M : Nat) : Prop := n ≤ 900 ∧ (∀ i, i < n → B i < 256) ∧ (∀ j, j < M → kdd B n j ≠ 0 ∧ kdd B n j ≠ 1) ∧ (kdd B n M = 0 ∨ kdd B n M = 1)
theorem n_cut {B : Nat → Nat} {n : Nat} {h : am_H} (T : tp B n h) (hn : n ≤ 900) : ∃ h' M, f_Tokens_cut 60 900 (nI n) h = some h' ∧ am_ex [71, 72, 73, 74] h h' ∧ tks B n M h' ∧ tkM B n M := by
  have hB : ∀ i, i < n → B i < 256 := fun i hi => (T i hi).1
  unfold f_Tokens_cut
  simp only [am_let]
  have x0 : am_ex [71, 72, 73, 74] h (am_sI h 71 0 0) := am_ex.sI (by decide)
  obtain ⟨y, e, hy⟩ := n_cutL (T.ex x0) hn (by rw [sI_row, if_pos rfl, up_s]; rfl)
  rw [e, Option.bind_some]
  rcases hy with ⟨c, i, g1, g2, g3, g4, g5, g6, g7, g8⟩ | ⟨c, i, g1, g2, g3, g4, g5, g6, g7⟩
  · have hi0 := en_ge hB i (fun j hj => (g8 j hj).1)
    have hp : pla B n i = n := ru_eq g5 g2 g6 (fun q => by omega)
    have hk : kdd B n i = 0 := by unfold kdd; rw [hp]; exact (nk_b hB (Nat.le_refl _)).2.2.1 rfl
    obtain ⟨x', z1, z2, z3, z4, z5, z6⟩ := n_add (k := 0) (p := nI n) (v := 0) g4 (by omega)
    rw [z1, Option.bind_some]
    refine ⟨x', i, rfl, (x0.tr g3 (fun _ z => z) (fun _ z => z)).tr z2 (fun _ z => z) (fun _ z => z), ⟨⟨i + 1, z3, by omega, by omega⟩, g7.add z4 z5 z6 (by rw [hk]; rfl) (by rw [hp]) (fun w => by omega)⟩, hn, hB, g8, .inl hk⟩
  · obtain ⟨x', z1, z2, z3, z4, z5, z6⟩ := n_add (k := 0) (p := nI n) (v := 0) g4 (by omega)
    rw [z1, Option.bind_some]
    refine ⟨x', i, rfl, (x0.tr g3 (fun _ z => z) (fun _ z => z)).tr z2 (fun _ z => z) (fun _ z => z), ⟨⟨i + 2, z3, by omega, by omega⟩, g6.kp (Nat.le_refl _) z4 z5 z6⟩, hn, hB, g7, .inr g5⟩
