-- deps: 73.eval 74.wrd 75.tok
/-! ===== the reference finds the next token ===== -/
theorem sl2 : am_sl 2 = 105 := rfl
theorem sl3 : am_sl 3 = 12 := rfl
theorem n_kL97 {h : am_H} {v1 v3 : Int32} : ∀ (c v f : Nat), 105 ≤ v + c → v < 105 → c < f → f_Mod_keyAt_L97 f v1 (nI v) v3 h = some (nI (v + (wd 2 v).length)) := by
  intro c
  induction c with
  | zero => intro v f h1 h2 h3; omega
  | succ c ih =>
    intro v f h1 h2 h3
    obtain ⟨f, rfl⟩ : ∃ f', f = f' + 1 := ⟨f - 1, by omega⟩
    rw [f_Mod_keyAt_L97, n_chr (by rw [sl2]; exact h2) (by rw [sl2]; decide), Option.bind_some]
    by_cases d : am_sb 2 v = 32
    · rw [if_pos d, wd_nil (by rw [sl2]; exact h2) d]
      rfl
    · have hv : v ≠ 104 := fun q => d (by rw [q]; decide)
      rw [if_neg d, nI_up, ih (v + 1) f (by omega) (by omega) (by omega), wd_cons (by rw [sl2]; exact h2) d, List.length_cons]
      exact congrArg (fun q => some (nI q)) (by omega)
def tpm (B : Nat → Nat) (n : Nat) (h : am_H) : Prop := h.2.1 136 8 = nI n ∧ ∀ i, i < n → B i < 256 ∧ h.2.1 139 i = nI (B i)
theorem n_kL15 {B : Nat → Nat} {n s e v : Nat} {h : am_H} {v1 : Int32} (T : tpm B n h) (hn : n ≤ 900) (h6 : h.2.1 136 6 = nI s) (h7 : h.2.1 136 7 = nI e) (hs : s ≤ e) (he : e ≤ n) (hv : v < 105) :
    ∃ t, f_Mod_keyAt_L15 am_fu v1 (nI v) 0 h = some (nI t) ∧ v + t < 105 ∧ s + t ≤ e ∧ (∀ j, j < t → am_sb 2 (v + j) = nI (B (s + j))) ∧ (am_sb 2 (v + t) = 32 ∨ s + t = e ∨ ¬ am_sb 2 (v + t) = nI (B (s + t))) := by
  have key := lp (fun k (a : Int32) => f_Mod_keyAt_L15 k v1 (nI v) a h)
    (fun m a => ∃ t, m + t = 105 ∧ a = nI t ∧ v + t < 105 ∧ s + t ≤ e ∧ (∀ j, j < t → am_sb 2 (v + j) = nI (B (s + j))))
    (fun b => ∃ t, b = nI t ∧ v + t < 105 ∧ s + t ≤ e ∧ (∀ j, j < t → am_sb 2 (v + j) = nI (B (s + j))) ∧ (am_sb 2 (v + t) = 32 ∨ s + t = e ∨ ¬ am_sb 2 (v + t) = nI (B (s + t))))
    (fun k m a hI => by
      obtain ⟨t, h1, rfl, h2, h3, h4⟩ := hI
      rw [f_Mod_keyAt_L15, nI_add, n_chr (by rw [sl2]; exact h2) (by rw [sl2]; decide), Option.bind_some]
      by_cases d : am_sb 2 (v + t) = 32
      · left
        rw [if_pos d]
        exact ⟨_, rfl, t, rfl, h2, h3, h4, .inl d⟩
      · rw [if_neg d, h6, h7, nI_add]
        by_cases c : s + t = e
        · left
          rw [if_pos (nI_le (by omega) (by omega))]
          exact ⟨_, rfl, t, rfl, h2, h3, h4, .inr (.inl c)⟩
        · rw [if_neg (nI_ge (by omega) (by omega)), n_rd (by omega) (by decide), Option.bind_some, Option.bind_some, (T.2 (s + t) (by omega)).2]
          by_cases q : nI (B (s + t)) = am_sb 2 (v + t)
          · right
            rw [if_pos q, nI_up]
            have hv : v + t ≠ 104 := fun w => d (by rw [w]; decide)
            refine ⟨m - 1, _, by omega, rfl, t + 1, by omega, rfl, by omega, by omega, fun j hj => ?_⟩
            by_cases w : j = t
            · rw [w]; exact q.symm
            · exact h4 j (by omega)
          · left
            rw [if_neg q]
            exact ⟨_, rfl, t, rfl, h2, h3, h4, .inr (.inr (fun w => q w.symm))⟩)
    am_fu 105 (nI 0) (by unfold am_fu; omega) ⟨0, rfl, rfl, hv, hs, fun j hj => by omega⟩
  obtain ⟨b, e1, t, rfl, e2⟩ := key
  exact ⟨t, e1, e2⟩
def tbE : Nat → Nat → Bool
  | 0, v => decide (105 ≤ v)
  | c + 1, v => decide (105 ≤ v) || tbE c (v + (wd 2 v).length + 1)
theorem tbE30 : tbE 30 1 = true := by decide +kernel
theorem n_kL4 {B : Nat → Nat} {n s e : Nat} {h : am_H} (T : tpm B n h) (hn : n ≤ 900) (h6 : h.2.1 136 6 = nI s) (h7 : h.2.1 136 7 = nI e) (hs : s ≤ e) (he : e ≤ n) (hl : ∀ i, s ≤ i → i < e → isL (B i) = true) :
    ∀ (c v k f : Nat), v < 2 ^ 31 → tbE c v = true → c < f → f_Mod_keyAt_L4 f (nI k) (nI v) h = some (nI (look (wl B s (e - s)) (tbM c v k) 22)) := by
  have fin : ∀ (v k f : Nat), 105 ≤ v → v < 2 ^ 31 → f_Mod_keyAt_L4 (f + 1) (nI k) (nI v) h = some (nI 22) := fun v k f d d2 => by
    rw [f_Mod_keyAt_L4]
    unfold f_String_length
    rw [Option.bind_some]
    show (if nI 105 ≤ nI v then _ else _) = _
    rw [if_pos (nI_le (by omega) (by omega))]
    rfl
  have gen : ∀ (c v k f : Nat), v < 2 ^ 31 → tbE c v = true → c < f → f_Mod_keyAt_L4 f (nI k) (nI v) h = some (nI (look (wl B s (e - s)) (tbM c v k) 22)) := by
    intro c
    induction c with
    | zero =>
      intro v k f hv h1 h2
      obtain ⟨f, rfl⟩ : ∃ f', f = f' + 1 := ⟨f - 1, by omega⟩
      rw [fin v k f (by simpa [tbE] using h1) hv]
      rfl
    | succ c ih =>
      intro v k f hv h1 h2
      obtain ⟨f, rfl⟩ : ∃ f', f = f' + 1 := ⟨f - 1, by omega⟩
      by_cases d : 105 ≤ v
      · rw [fin v k f d hv, tbM, if_pos (by rw [sl2]; exact d)]
        rfl
      · have hE : tbE c (v + (wd 2 v).length + 1) = true := by
          unfold tbE at h1
          simpa [d] using h1
        obtain ⟨t, a1, a2, a3, a4, a5⟩ := n_kL15 (v1 := nI k) T hn h6 h7 hs he (show v < 105 by omega)
        have hiff := wd_iff (o := 2) (B := B) (by decide) (e - s) s v (by rw [sl2]; omega) (fun j hj => (isL_b _ (T.2 (s + j) (by omega)).1 (hl _ (by omega) (by omega))).2)
        have hlen : (wd 2 v).length < 200 := by
          have : ∀ v, v < 105 → (wd 2 v).length < 200 := by decide +kernel
          exact this v (by omega)
        have hL97 := n_kL97 (h := h) (v1 := nI k) (v3 := nI t) 105 v am_fu (by omega) (by omega) (by unfold am_fu; omega)
        rw [f_Mod_keyAt_L4]
        unfold f_String_length
        rw [Option.bind_some]
        show (if nI 105 ≤ nI v then _ else _) = _
        rw [if_neg (nI_ge (by omega) (by omega)), a1, Option.bind_some, nI_add, n_chr (by rw [sl2]; exact a2) (by rw [sl2]; decide), Option.bind_some, tbM, if_neg (show ¬ am_sl 2 ≤ v from d), look]
        by_cases q : am_sb 2 (v + t) = 32
        · rw [if_pos q, h6, h7, nI_add]
          by_cases w : s + t = e
          · rw [if_pos (by rw [w]), if_pos (hiff.mpr ⟨by rw [sl2]; omega, by rw [show v + (e - s) = v + t by omega]; exact q, fun j hj => a4 j (by omega)⟩)]
          · rw [if_neg (fun z => w ((nI_eq (by omega) (by omega)).mp z)), hL97, Option.bind_some, nI_up, nI_up, ih _ (k + 1) f (by omega) hE (by omega), if_neg]
            intro z
            have z2 := (hiff.mp z).2.2 t (by omega)
            exact (isL_b _ (T.2 (s + t) (by omega)).1 (hl _ (by omega) (by omega))).2 (z2.symm.trans q)
        · rw [if_neg q, hL97, Option.bind_some, nI_up, nI_up, ih _ (k + 1) f (by omega) hE (by omega), if_neg]
          intro z
          have z2 := hiff.mp z
          by_cases w : s + t = e
          · exact q (by rw [show v + t = v + (e - s) by omega]; exact z2.2.1)
          · rcases a5 with r | r | r
            · exact q r
            · exact w r
            · exact r (z2.2.2 t (by omega))
  exact gen
theorem n_keyAt {B : Nat → Nat} {n s e : Nat} {h : am_H} (T : tpm B n h) (hn : n ≤ 900) (h6 : h.2.1 136 6 = nI s) (h7 : h.2.1 136 7 = nI e) (hs : s ≤ e) (he : e ≤ n) (hl : ∀ i, s ≤ i → i < e → isL (B i) = true) : f_Mod_keyAt h = some (nI (rk (look (wl B s (e - s)) (tbC (am_sl 1 - 1) 0 101) 3))) := by
  unfold f_Mod_keyAt
  rw [← (look_map (wl B s (e - s))).1]
  exact n_kL4 T hn h6 h7 hs he hl 30 1 0 am_fu (by decide) tbE30 (by unfold am_fu; omega)
/-- only places, kind and number of the token changed -/
def nw6 (h h' : am_H) : Prop := am_ex [136] h h' ∧ ∀ j, j ≠ 6 → j ≠ 7 → j ≠ 9 → j ≠ 10 → h'.2.1 136 j = h.2.1 136 j
theorem nw6.rf {h : am_H} : nw6 h h := ⟨am_ex.rf, fun _ _ _ _ _ => rfl⟩
theorem nw6.tr {h h' h'' : am_H} (a : nw6 h h') (b : nw6 h' h'') : nw6 h h'' := ⟨a.1.tr b.1 (fun _ z => z) (fun _ z => z), fun j a1 a2 a3 a4 => (b.2 j a1 a2 a3 a4).trans (a.2 j a1 a2 a3 a4)⟩
theorem nw6.st {h : am_H} {j : Nat} {x : Int32} (hj : j = 6 ∨ j = 7 ∨ j = 9 ∨ j = 10) : nw6 h (am_sI h 136 j x) := ⟨am_ex.sI (by decide), fun i a1 a2 a3 a4 => by rw [sI_row, if_pos rfl, up_n (by omega)]⟩
theorem nw6.tp {B : Nat → Nat} {n : Nat} {h h' : am_H} (a : nw6 h h') (T : tpm B n h) : tpm B n h' := ⟨by rw [a.2 8 (by decide) (by decide) (by decide) (by decide)]; exact T.1, fun i hi => by rw [a.1.2.2 139 (by decide)]; exact T.2 i hi⟩
theorem s136 {h : am_H} {j : Nat} {x : Int32} : (am_sI h 136 j x).2.1 136 j = x := by rw [sI_row, if_pos rfl, up_s]
theorem s136n {h : am_H} {j i : Nat} {x : Int32} (e : i ≠ j) : (am_sI h 136 j x).2.1 136 i = h.2.1 136 i := by rw [sI_row, if_pos rfl, up_n e]
theorem n_see {B : Nat → Nat} {n k : Nat} {h : am_H} (T : tpm B n h) (hn : n ≤ 900) (hk : k < n) : f_Mod_see (nI k) h = some (nI (B k)) := by
  unfold f_Mod_see
  rw [T.1, if_neg (nI_ge hk (by omega)), n_rd (by omega) (by decide), Option.bind_some, (T.2 k hk).2]
theorem n_see0 {B : Nat → Nat} {n : Nat} {h : am_H} (T : tpm B n h) (hn : n ≤ 900) : f_Mod_see (nI n) h = some (-1) := by
  unfold f_Mod_see
  rw [T.1, if_pos (nI_le (by omega) (by omega))]
theorem b_sm : ∀ b, b < 256 → f_Mod_isSmall (nI b) am_e = some (isL b) ∧ f_Mod_isDigit (nI b) am_e = some (isD b) ∧ (nI b = 10 ↔ b = 10) ∧ (nI b = 32 ↔ b = 32) := by decide +kernel
theorem sm_h (x : Int32) (h : am_H) : f_Mod_isSmall x h = f_Mod_isSmall x am_e := rfl
theorem dg_h (x : Int32) (h : am_H) : f_Mod_isDigit x h = f_Mod_isDigit x am_e := rfl
theorem sm_1 : f_Mod_isSmall (-1) am_e = some false := by decide
theorem dg_1 : f_Mod_isDigit (-1) am_e = some false := by decide
theorem ru_ge {B : Nat → Nat} {c : Nat → Bool} {n k : Nat} : k ≤ ru B c n k := sk_ge _ _
theorem ru_le {B : Nat → Nat} {c : Nat → Bool} {n k : Nat} (h : k ≤ n) : ru B c n k ≤ n := by
  have := sk_le (c := fun i => c (B i)) (n - k) k
  unfold ru
  omega
theorem ru_all {B : Nat → Nat} {c : Nat → Bool} {n k i : Nat} (h1 : k ≤ i) (h2 : i < ru B c n k) : c (B i) = true := sk_all (c := fun i => c (B i)) _ _ i h1 h2
theorem ru_eq {B : Nat → Nat} {c : Nat → Bool} {n k e : Nat} (h1 : k ≤ e) (h2 : e ≤ n) (h3 : ∀ i, k ≤ i → i < e → c (B i) = true) (h4 : e < n → c (B e) = false) : ru B c n k = e := by
  unfold ru
  exact sk_eq h1 (by omega) h3 (fun q => h4 (by omega))
theorem ru_gt {B : Nat → Nat} {c : Nat → Bool} {n k : Nat} (h : k < n) (hc : c (B k) = true) : k < ru B c n k := by
  have := ru_ge (B := B) (c := c) (n := n) (k := k)
  rcases Nat.lt_or_ge k (ru B c n k) with d | d
  · exact d
  · have e : ru B c n k = k := by omega
    have := sk_end (c := fun i => c (B i)) (n - k) k (by unfold ru at e; omega)
    unfold ru at e
    rw [e] at this
    rw [hc] at this
    cases this
/-- what stands from a place on that is no blank: kind, end, value -/
def nk (B : Nat → Nat) (n a : Nat) : Nat × Nat × Nat :=
  if n ≤ a then (0, a, 0)
  else if isL (B a) then (look (wl B a (ru B isL n a - a)) (tbC (am_sl 1 - 1) 0 101) 3, ru B isL n a, 0)
  else if isD (B a) then (if ru B isD n a - a ≤ 3 then 2 else 1, ru B isD n a, vl B a (min 3 (ru B isD n a - a)))
  else (pk (B a), a + 1, 0)
theorem tb_ge : (tbC (am_sl 1 - 1) 0 101).all (fun q => decide (3 ≤ q.2)) = true := by decide +kernel
theorem look_3 (L : List Int32) : 3 ≤ look L (tbC (am_sl 1 - 1) 0 101) 3 := by
  rw [look_find]
  cases h : (tbC (am_sl 1 - 1) 0 101).find? (fun q => decide (q.1 = L)) with
  | none => exact Nat.le_refl 3
  | some q =>
    have := List.all_eq_true.mp tb_ge q (List.mem_of_find?_eq_some h)
    exact of_decide_eq_true this
/-- the sign's number in the reference -/
def sg (b : Nat) : Nat → Nat
  | 0 => 25
  | t + 1 => if nI b = am_sb 3 t then 30 + t else sg b t
theorem sg_rk : ∀ b, b < 256 → isL b = false → isD b = false → sg b 12 = rk (pk b) := by decide +kernel
theorem n_nL8 {B : Nat → Nat} {n e : Nat} {h : am_H} (T : tpm B n h) (hn : n ≤ 900) (he : e ≤ n) (h6 : h.2.1 136 6 = nI e) : ∃ h', f_Mod_next_L8 am_fu h = some h' ∧ nw6 h h' ∧ h'.2.1 136 6 = nI (ru B isW n e) := by
  have key := lp (fun k (x : am_H) => f_Mod_next_L8 k x)
    (fun m x => ∃ t, m + t = n ∧ e ≤ t ∧ t ≤ n ∧ nw6 h x ∧ x.2.1 136 6 = nI t ∧ ∀ i, e ≤ i → i < t → isW (B i) = true)
    (fun x => nw6 h x ∧ x.2.1 136 6 = nI (ru B isW n e))
    (fun k m x hI => by
      obtain ⟨t, h1, h2, h3, h4, h5, h7⟩ := hI
      rw [f_Mod_next_L8, h5]
      by_cases c : t = n
      · left
        subst c
        rw [n_see0 (h4.tp T) hn, Option.bind_some, if_neg (by decide), Option.bind_some, if_neg (by decide)]
        refine ⟨_, rfl, h4, ?_⟩
        rw [ru_eq h2 (Nat.le_refl _) h7 (fun q => by omega)]
        exact h5
      · have hb := (T.2 t (by omega)).1
        have hbs := b_sm _ hb
        have go : isW (B t) = true → ∃ m' a', m' < m ∧ f_Mod_next_L8 k (am_sI x 136 6 (nI (t + 1))) = f_Mod_next_L8 k a' ∧ ∃ t, m' + t = n ∧ e ≤ t ∧ t ≤ n ∧ nw6 h a' ∧ a'.2.1 136 6 = nI t ∧ ∀ i, e ≤ i → i < t → isW (B i) = true := fun w =>
          ⟨m - 1, _, by omega, rfl, t + 1, by omega, by omega, by omega, h4.tr (nw6.st (.inl rfl)), s136, fun i i1 i2 => by
            by_cases q : i = t
            · rw [q]; exact w
            · exact h7 i i1 (by omega)⟩
        rw [n_see (h4.tp T) hn (by omega), Option.bind_some]
        by_cases d : B t = 10
        · right
          rw [if_pos (hbs.2.2.1.mpr d), nI_up]
          exact go (by unfold isW; simp [d])
        · rw [if_neg (fun q => d (hbs.2.2.1.mp q)), Option.bind_some]
          by_cases d2 : B t = 32
          · right
            rw [if_pos (hbs.2.2.2.mpr d2), nI_up]
            exact go (by unfold isW; simp [d2])
          · left
            rw [if_neg (fun q => d2 (hbs.2.2.2.mp q))]
            refine ⟨_, rfl, h4, ?_⟩
            rw [ru_eq h2 h3 h7 (fun q => by unfold isW; simp [d, d2])]
            exact h5)
    am_fu (n - e) h (by unfold am_fu; omega) ⟨e, by omega, Nat.le_refl _, he, nw6.rf, h6, fun i i1 i2 => by omega⟩
  exact key
theorem n_nL89 {B : Nat → Nat} {n a : Nat} {h : am_H} (T : tpm B n h) (hn : n ≤ 900) (ha : a ≤ n) (h7 : h.2.1 136 7 = nI a) (h6 : h.2.1 136 6 = nI a) : ∃ h', f_Mod_next_L89 am_fu h = some h' ∧ nw6 h h' ∧ h'.2.1 136 6 = nI a ∧ h'.2.1 136 7 = nI (ru B isL n a) := by
  have key := lp (fun k (x : am_H) => f_Mod_next_L89 k x)
    (fun m x => ∃ t, m + t = n ∧ a ≤ t ∧ t ≤ n ∧ nw6 h x ∧ x.2.1 136 6 = nI a ∧ x.2.1 136 7 = nI t ∧ ∀ i, a ≤ i → i < t → isL (B i) = true)
    (fun x => nw6 h x ∧ x.2.1 136 6 = nI a ∧ x.2.1 136 7 = nI (ru B isL n a))
    (fun k m x hI => by
      obtain ⟨t, h1, h2, h3, h4, h5, h5', h7⟩ := hI
      rw [f_Mod_next_L89, h5']
      by_cases c : t = n
      · left
        subst c
        rw [n_see0 (h4.tp T) hn, Option.bind_some, sm_h, sm_1, Option.bind_some, if_neg (by decide)]
        refine ⟨_, rfl, h4, h5, ?_⟩
        rw [ru_eq h2 (Nat.le_refl _) h7 (fun q => by omega)]
        exact h5'
      · have hb := (T.2 t (by omega)).1
        rw [n_see (h4.tp T) hn (by omega), Option.bind_some, sm_h, (b_sm _ hb).1, Option.bind_some]
        by_cases d : isL (B t) = true
        · right
          rw [if_pos d, nI_up]
          refine ⟨m - 1, _, by omega, rfl, t + 1, by omega, by omega, by omega, h4.tr (nw6.st (.inr (.inl rfl))), (s136n (by decide)).trans h5, s136, fun i i1 i2 => ?_⟩
          by_cases q : i = t
          · rw [q]; exact d
          · exact h7 i i1 (by omega)
        · left
          rw [if_neg d]
          refine ⟨_, rfl, h4, h5, ?_⟩
          rw [ru_eq h2 h3 h7 (fun q => by simpa using d)]
          exact h5')
    am_fu (n - a) h (by unfold am_fu; omega) ⟨a, by omega, Nat.le_refl _, ha, nw6.rf, h6, h7, fun i i1 i2 => by omega⟩
  exact key
theorem n_nL146 {B : Nat → Nat} {n a : Nat} {h : am_H} (T : tpm B n h) (hn : n ≤ 900) (ha : a ≤ n) (h7 : h.2.1 136 7 = nI a) (h6 : h.2.1 136 6 = nI a) (h10 : h.2.1 136 10 = 0) : ∃ h', f_Mod_next_L146 am_fu h = some h' ∧ nw6 h h' ∧ h'.2.1 136 6 = nI a ∧ h'.2.1 136 7 = nI (ru B isD n a) ∧ h'.2.1 136 10 = nI (vl B a (min 3 (ru B isD n a - a))) := by
  have key := lp (fun k (x : am_H) => f_Mod_next_L146 k x)
    (fun m x => ∃ t, m + (a + t) = n ∧ nw6 h x ∧ x.2.1 136 6 = nI a ∧ x.2.1 136 7 = nI (a + t) ∧ x.2.1 136 10 = nI (vl B a (min 3 t)) ∧ ∀ i, a ≤ i → i < a + t → isD (B i) = true)
    (fun x => nw6 h x ∧ x.2.1 136 6 = nI a ∧ x.2.1 136 7 = nI (ru B isD n a) ∧ x.2.1 136 10 = nI (vl B a (min 3 (ru B isD n a - a))))
    (fun k m x hI => by
      obtain ⟨t, h1, h4, h5, h5', h5'', h7⟩ := hI
      rw [f_Mod_next_L146, h5']
      by_cases c : a + t = n
      · left
        rw [c, n_see0 (h4.tp T) hn, Option.bind_some, dg_h, dg_1, Option.bind_some, if_neg (by decide)]
        refine ⟨_, rfl, h4, h5, ?_⟩
        rw [ru_eq (e := a + t) (by omega) (by omega) h7 (fun q => by omega), Nat.add_sub_cancel_left]
        exact ⟨h5', h5''⟩
      · have hb := (T.2 (a + t) (by omega)).1
        rw [n_see (h4.tp T) hn (by omega), Option.bind_some, dg_h, (b_sm _ hb).2.1, Option.bind_some]
        by_cases d : isD (B (a + t)) = true
        · right
          have hd := isD_b _ hb d
          have h7' : ∀ i, a ≤ i → i < a + (t + 1) → isD (B i) = true := fun i i1 i2 => by
            by_cases q : i = a + t
            · rw [q]; exact d
            · exact h7 i i1 (by omega)
          rw [if_pos d, h5, nI_sub (by omega), Nat.add_sub_cancel_left]
          by_cases q : 3 ≤ t
          · rw [if_pos (show (3 : Int32) ≤ nI t from nI_le (a := 3) q (by omega)), Option.bind_some]
            simp only [am_let]
            rw [h5', nI_up]
            refine ⟨m - 1, _, by omega, rfl, t + 1, by omega, h4.tr (nw6.st (.inr (.inl rfl))), (s136n (by decide)).trans h5, s136.trans (by rw [Nat.add_assoc]), (s136n (by decide)).trans (by rw [h5'']; congr 2; omega), h7'⟩
          · rw [if_neg (show ¬ (3 : Int32) ≤ nI t from nI_ge (b := 3) (by omega) (by decide)), Option.bind_some, h5'']
            simp only [am_let]
            have e3 : min 3 t = t := by omega
            have e4 : (10 : Int32) * nI (vl B a (min 3 t)) + nI (B (a + t)) - (48 : Int32) = nI (vl B a (t + 1)) := by
              have a1 : (10 : Int32) * nI (vl B a (min 3 t)) = nI (10 * vl B a (min 3 t)) := nI_mul 10 _
              rw [a1, nI_add, e3, vl, Nat.mul_comm 10]
              exact nI_sub (b := 48) (by omega)
            rw [e4, Option.bind_some, s136n (by decide), h5', nI_up]
            refine ⟨m - 1, _, by omega, rfl, t + 1, by omega, (h4.tr (nw6.st (.inr (.inr (.inr rfl))))).tr (nw6.st (.inr (.inl rfl))), (s136n (by decide)).trans ((s136n (by decide)).trans h5), s136.trans (by rw [Nat.add_assoc]), (s136n (by decide)).trans (s136.trans (by rw [show min 3 (t + 1) = t + 1 by omega])), h7'⟩
        · left
          rw [if_neg d]
          refine ⟨_, rfl, h4, h5, ?_⟩
          rw [ru_eq (e := a + t) (by omega) (by omega) h7 (fun q => by simpa using d), Nat.add_sub_cancel_left]
          exact ⟨h5', h5''⟩)
    am_fu (n - a) h (by unfold am_fu; omega) ⟨0, by omega, nw6.rf, h6, h7, by rw [h10]; rfl, fun i i1 i2 => by omega⟩
  exact key
theorem n_nL254 {B : Nat → Nat} {n a : Nat} {h : am_H} (T : tpm B n h) (hn : n ≤ 900) (ha : a < n) (h6 : h.2.1 136 6 = nI a) (h7 : h.2.1 136 7 = nI (a + 1)) (h9 : h.2.1 136 9 = 25) : ∃ y, f_Mod_next_L254 am_fu 0 h = some y ∧ nw6 h y.2 ∧ y.2.2.1 136 6 = nI a ∧ y.2.2.1 136 7 = nI (a + 1) ∧ y.2.2.1 136 9 = nI (sg (B a) 12) := by
  have key := lq2 (fun k (a1 : Int32) (x : am_H) => f_Mod_next_L254 k a1 x)
    (fun m a1 x => ∃ t, m + t = 12 ∧ a1 = nI t ∧ nw6 h x ∧ x.2.1 136 6 = nI a ∧ x.2.1 136 7 = nI (a + 1) ∧ x.2.1 136 9 = nI (sg (B a) t))
    (fun y => nw6 h y.2 ∧ y.2.2.1 136 6 = nI a ∧ y.2.2.1 136 7 = nI (a + 1) ∧ y.2.2.1 136 9 = nI (sg (B a) 12))
    (fun k m a1 x hI => by
      obtain ⟨t, h1, rfl, h4, h5, h5', h5''⟩ := hI
      rw [f_Mod_next_L254]
      unfold f_String_length
      rw [Option.bind_some]
      show (∃ b, (if nI 12 ≤ nI t then _ else _) = _ ∧ _) ∨ (∃ m' b1 b2, _ ∧ (if nI 12 ≤ nI t then _ else _) = _ ∧ _)
      by_cases c : t = 12
      · left
        subst c
        rw [if_pos (nI_le (by omega) (by omega))]
        exact ⟨_, rfl, h4, h5, h5', h5''⟩
      · right
        rw [if_neg (nI_ge (by omega) (by omega)), h5, n_see (h4.tp T) hn ha, Option.bind_some, n_chr (by rw [sl3]; omega) (by rw [sl3]; decide), Option.bind_some]
        by_cases d : nI (B a) = am_sb 3 t
        · have e30 : (30 : Int32) + nI t = nI (30 + t) := nI_add 30 t
          rw [if_pos d, e30, nI_up]
          exact ⟨m - 1, _, _, by omega, rfl, t + 1, by omega, rfl, h4.tr (nw6.st (.inr (.inr (.inl rfl)))), (s136n (by decide)).trans h5, (s136n (by decide)).trans h5', s136.trans (by rw [sg, if_pos d])⟩
        · rw [if_neg d, nI_up]
          exact ⟨m - 1, _, _, by omega, rfl, t + 1, by omega, rfl, h4, h5, h5', by rw [sg, if_neg d]; exact h5''⟩)
    am_fu 12 (nI 0) h (by unfold am_fu; omega) ⟨0, rfl, rfl, nw6.rf, h6, h7, by rw [h9]; rfl⟩
  exact key
theorem n_next {B : Nat → Nat} {n e : Nat} {h : am_H} (T : tpm B n h) (hn : n ≤ 900) (he : e ≤ n) (h7 : h.2.1 136 7 = nI e) : ∃ h', f_Mod_next h = some h' ∧ nw6 h h' ∧ h'.2.1 136 6 = nI (ru B isW n e) ∧ h'.2.1 136 7 = nI (nk B n (ru B isW n e)).2.1 ∧ h'.2.1 136 9 = nI (rk (nk B n (ru B isW n e)).1) ∧ ((nk B n (ru B isW n e)).1 = 2 → h'.2.1 136 10 = nI (nk B n (ru B isW n e)).2.2) := by
  unfold f_Mod_next
  simp only [am_let]
  rw [h7]
  have w0 : nw6 h (am_sI h 136 6 (nI e)) := nw6.st (.inl rfl)
  obtain ⟨x, x1, x2, x3⟩ := n_nL8 (w0.tp T) hn he s136
  have ha := ru_le (B := B) (c := isW) he
  generalize ru B isW n e = a at x3 ha ⊢
  rw [x1, Option.bind_some, x3]
  have w1 := (w0.tr x2).tr (nw6.st (h := x) (j := 7) (x := nI a) (.inr (.inl rfl)))
  have y6 : (am_sI x 136 7 (nI a)).2.1 136 6 = nI a := (s136n (by decide)).trans x3
  have y7 : (am_sI x 136 7 (nI a)).2.1 136 7 = nI a := s136
  clear x1 x2 x3
  generalize am_sI x 136 7 (nI a) = y at w1 y6 y7 ⊢
  have Ty := w1.tp T
  rw [y6, Ty.1]
  by_cases c : n ≤ a
  · have en : nk B n a = (0, a, 0) := by unfold nk; rw [if_pos c]
    rw [if_neg (nI_nlt c (by omega)), en]
    refine ⟨_, rfl, w1.tr (nw6.st (.inr (.inr (.inl rfl)))), (s136n (by decide)).trans y6, (s136n (by decide)).trans y7, s136, fun q => by cases q⟩
  · have hb := (T.2 a (by omega)).1
    have hbs := b_sm _ hb
    rw [if_pos (nI_lt (by omega) (by omega)), n_see Ty hn (by omega), Option.bind_some, sm_h, hbs.1, Option.bind_some]
    by_cases d : isL (B a) = true
    · have en : nk B n a = (look (wl B a (ru B isL n a - a)) (tbC (am_sl 1 - 1) 0 101) 3, ru B isL n a, 0) := by unfold nk; rw [if_neg c, if_pos d]
      rw [if_pos d, en]
      obtain ⟨z, z1, z2, z3, z4⟩ := n_nL89 Ty hn ha y7 y6
      rw [z1, Option.bind_some, n_keyAt (z2.tp Ty) hn z3 z4 ru_ge (ru_le ha) (fun i i1 i2 => ru_all i1 i2), Option.bind_some]
      refine ⟨_, rfl, (w1.tr z2).tr (nw6.st (.inr (.inr (.inl rfl)))), (s136n (by decide)).trans z3, (s136n (by decide)).trans z4, s136, fun q => ?_⟩
      exfalso
      have hk := look_3 (wl B a (ru B isL n a - a))
      omega
    · rw [if_neg d, Option.bind_some, dg_h, hbs.2.1, Option.bind_some]
      by_cases d2 : isD (B a) = true
      · have en : nk B n a = (if ru B isD n a - a ≤ 3 then 2 else 1, ru B isD n a, vl B a (min 3 (ru B isD n a - a))) := by unfold nk; rw [if_neg c, if_neg d, if_pos d2]
        have w2 := nw6.st (h := y) (j := 10) (x := 0) (.inr (.inr (.inr rfl)))
        have hge := ru_ge (B := B) (c := isD) (n := n) (k := a)
        have hle := ru_le (B := B) (c := isD) ha
        obtain ⟨z, z1, z2, z3, z4, z5⟩ := n_nL146 (w2.tp Ty) hn ha ((s136n (by decide)).trans y7) ((s136n (by decide)).trans y6) s136
        rw [if_pos d2, en, z1, Option.bind_some, z3, z4, nI_sub hge]
        refine ⟨_, rfl, ((w1.tr w2).tr z2).tr (nw6.st (.inr (.inr (.inl rfl)))), (s136n (by decide)).trans z3, (s136n (by decide)).trans z4, s136.trans ?_, fun q => (s136n (by decide)).trans z5⟩
        by_cases q : ru B isD n a - a ≤ 3
        · rw [if_pos q, if_pos (show nI (ru B isD n a - a) ≤ (3 : Int32) from nI_le (b := 3) q (by decide))]
          rfl
        · rw [if_neg q, if_neg (show ¬ nI (ru B isD n a - a) ≤ (3 : Int32) from nI_ge (a := 3) (by omega) (by omega))]
          rfl
      · have en : nk B n a = (pk (B a), a + 1, 0) := by unfold nk; rw [if_neg c, if_neg d, if_neg d2]
        rw [if_neg d2, en, y7, nI_up]
        have w2 := (nw6.st (h := y) (j := 7) (x := nI (a + 1)) (.inr (.inl rfl))).tr (nw6.st (j := 9) (x := 25) (.inr (.inr (.inl rfl))))
        obtain ⟨z, z1, z2, z3, z4, z5⟩ := n_nL254 (w2.tp Ty) hn (show a < n by omega) ((s136n (by decide)).trans ((s136n (by decide)).trans y6)) ((s136n (by decide)).trans s136) s136
        rw [z1, Option.bind_some]
        refine ⟨_, rfl, (w1.tr w2).tr z2, z3, z4, ?_, fun q => ?_⟩
        · rw [z5, sg_rk _ hb (by simpa using d) (by simpa using d2)]
        · exfalso
          have : ∀ b, b < 256 → pk b ≠ 2 := by decide +kernel
          exact this _ hb q
