-- deps: 31.law 32.nat 33.bit 34.spec 35.riv 36.let 37.mod 38.mod 39.it 40.ahead 41.rel 42.ask 43.why 44.meet 45.err 46.err 47.wk 48.chg
/-! ===== shift ===== -/
def sft (r : sR) (s : sS) (k j : Nat) : Option Nat := sW s ((j + rW r - k) % rW r)
def btr (a : Option Nat) (n : Nat) : Bool := match a with
  | none => true
  | some b => decide (b < n)
def shO (r : sR) (s : sS) : Nat → Option Nat × Nat
  | 0 => (none, 0)
  | k + 1 => if btr (shO r s k).1 (inT r s (sft r s k)) then (some (inT r s (sft r s k)), k) else shO r s k
theorem shO_le {r : sR} {s : sS} (hr : vR r) : ∀ k n, (shO r s k).1 = some n → n ≤ 5
  | 0, n, h => by cases h
  | k + 1, n, h => by
    rw [shO] at h
    split at h
    · cases h; exact inT_le hr
    · exact shO_le hr k n h
theorem btr_lt {a : Option Nat} {n : Nat} (ha : ∀ k, a = some k → k ≤ 5) (hn : n ≤ 5) : (oI a < nI n) = (btr a n = true) := by
  apply propext
  cases a with
  | none =>
    constructor
    · intro _; rfl
    · intro _
      have : ∀ n, n ≤ 5 → oI none < nI n := by decide
      exact this n hn
  | some k =>
    have := ha k rfl
    unfold btr
    rw [oI_some, nI_ltI (by omega) (by omega)]
    simp
theorem btr_le {a : Option Nat} {n : Nat} (ha : ∀ k, a = some k → k ≤ 5) (hn : n ≤ 5) : (nI n ≤ oI a) = (btr a n = false) := by
  apply propext
  cases a with
  | none =>
    constructor
    · intro c
      have : ∀ n, n ≤ 5 → ¬ nI n ≤ oI none := by decide
      exact absurd c (this n hn)
    · intro c; cases c
  | some k =>
    have := ha k rfl
    unfold btr
    rw [oI_some, nI_leI (by omega) (by omega)]
    simp
theorem sft_v {r : sR} {s : sS} {k : Nat} (hr : vR r) (w : vW r (sW s)) : vW r (sft r s k) := fun j hj g hg => w _ (Nat.mod_lt _ (by omega)) g hg
theorem n_tSh20 {h : am_H} {r : sR} {s : sS} {k : Nat} {v1 v2 : Int32} (V : tV h r s) (hk : k < rW r) : ∃ y h', f_Weeks_bestShift_L20 am_fu v1 v2 (nI k) 0 h = some (y, h') ∧ am_ex [92] h h' ∧ tW h' 92 r (sft r s k) := by
  have hW := V.hW
  obtain ⟨b, e1, e2, e3⟩ := lpc2 (fun n (x1 : Int32) (x2 : am_H) => f_Weeks_bestShift_L20 n v1 v2 (nI k) x1 x2) (rW r)
    (fun t x1 x2 => x1 = nI t ∧ am_ex [92] h x2 ∧ ∀ j, j < t → x2.2.1 92 j = oI (sft r s k j))
    (fun b => am_ex [92] h b.2 ∧ ∀ j, j < rW r → b.2.2.1 92 j = oI (sft r s k j))
    (fun n t x1 x2 ht hI => by
      obtain ⟨i1, i2, i3⟩ := hI
      try simp only at i1 i2 i3
      subst i1
      have V2 := V.ex i2 (by decide)
      have hm : (t + rW r - k) % rW r < rW r := Nat.mod_lt _ (by omega)
      have ee : nI t - nI k + nI (rW r) = nI (t + rW r - k) := by
        rw [← nI_sub (by omega), ← nI_add, Int32.sub_eq_add_neg, Int32.sub_eq_add_neg, Int32.add_assoc, Int32.add_comm (-nI k), Int32.add_assoc]
      try simp only
      rw [f_Weeks_bestShift_L20, V2.w, if_neg (nI_ge ht (by omega)), ee, n_hourOfWeek V2.1 V2.2.2.1 (by omega), Option.bind_some, n_rd (by omega) (by decide), Option.bind_some, V2.wk hm, n_wr (by omega) (by decide), Option.bind_some, nI_1]
      refine ⟨_, _, rfl, rfl, i2.tr (am_ex.sI (X := [92]) (by decide)) (fun _ z => z) (fun _ z => z), fun j hj => ?_⟩
      rw [sI_row, if_pos rfl]
      by_cases c : j = t
      · subst c; rw [up_s]; rfl
      · rw [up_n c]; exact i3 j (by omega))
    (fun n x1 x2 hI => by
      obtain ⟨i1, i2, i3⟩ := hI
      try simp only at i1 i2 i3
      subst i1
      have V2 := V.ex i2 (by decide)
      try simp only
      rw [f_Weeks_bestShift_L20, V2.w, if_pos (nI_le (Nat.le_refl _) (by omega))]
      exact ⟨_, rfl, i2, i3⟩) (by unfold am_fu; omega) 0 h ⟨rfl, am_ex.rf, fun j hj => by omega⟩
  obtain ⟨b1, b2⟩ := b
  exact ⟨b1, b2, e1, e2, sft_v V.1 V.vw, e3⟩
theorem n_tShift {h : am_H} {r : sR} {s : sS} (V : tV h r s) : ∃ h', f_Weeks_bestShift h = some (nI (shO r s (rW r)).2, h') ∧ am_ex [92] h h' := by
  have hW := V.hW
  obtain ⟨b, e1, e2, e3⟩ := lpc4 (fun n (x1 : Int32) (x2 : Int32) (x3 : Int32) (x4 : am_H) => f_Weeks_bestShift_L6 n x1 x2 x3 x4) (rW r)
    (fun t x1 x2 x3 x4 => x1 = oI (shO r s t).1 ∧ x2 = nI (shO r s t).2 ∧ x3 = nI t ∧ am_ex [92] h x4)
    (fun b => b.2.1 = nI (shO r s (rW r)).2 ∧ am_ex [92] h b.2.2.2)
    (fun n t x1 x2 x3 x4 ht hI => by
      obtain ⟨i1, i2, i3, i4⟩ := hI
      try simp only at i1 i2 i3 i4
      subst i1 i2 i3
      have V2 := V.ex i4 (by decide)
      obtain ⟨y, h1, c1, c2, c3⟩ := n_tSh20 (v1 := oI (shO r s t).1) (v2 := nI (shO r s t).2) V2 ht
      have x92 := i4.tr c2 (Z := [92]) (fun _ z => z) (fun _ z => z)
      have V3 := V.ex x92 (by decide)
      obtain ⟨z, m1, m2⟩ := n_many V3 c3
      try simp only
      rw [f_Weeks_bestShift_L6, V2.w, if_neg (nI_ge ht (by omega)), c1, Option.bind_some]
      try simp only
      rw [m1, Option.bind_some, m2, Option.bind_some, nI_1]
      refine ⟨oI (shO r s (t + 1)).1, nI (shO r s (t + 1)).2, nI (t + 1), h1, ?_, rfl, rfl, rfl, x92⟩
      simp only [btr_le (shO_le V.1 t) (inT_le (s := s) (wk := sft r s t) V.1)]
      rw [shO]
      cases hc : btr (shO r s t).1 (inT r s (sft r s t)) with
      | true => rw [if_neg (by decide), if_tt]; rfl
      | false => rw [if_pos rfl, if_ff])
    (fun n x1 x2 x3 x4 hI => by
      obtain ⟨i1, i2, i3, i4⟩ := hI
      try simp only at i1 i2 i3 i4
      subst i1 i2 i3
      have V2 := V.ex i4 (by decide)
      try simp only
      rw [f_Weeks_bestShift_L6, V2.w, if_pos (nI_le (Nat.le_refl _) (by omega))]
      exact ⟨_, rfl, rfl, i4⟩) (by unfold am_fu; omega) (-1) 0 0 h ⟨rfl, rfl, rfl, am_ex.rf⟩
  have e1' : f_Weeks_bestShift_L6 am_fu (-1) 0 0 h = some b := e1
  unfold f_Weeks_bestShift
  rw [e1', Option.bind_some, e2]
  exact ⟨_, rfl, e3⟩
/-- the reference's row but for the week; the week is kept in row 151 -/
def mU6 (h h' : am_H) : Prop := am_ex [137, 144, 145, 146, 151] h h' ∧ (∀ j, j < 29 ∨ 35 ≤ j → h'.2.1 137 j = h.2.1 137 j) ∧ ∀ j, j < 6 → h'.2.1 151 j = h.2.1 137 (29 + j)
theorem n_mSh57 {h x : am_H} {r : sR} {s : sS} {k : Nat} {v1 v2 : Int32} (V : mV (h.2.1 137) r s) (U : mU6 h x) (hk : k < rW r) : ∃ y h', f_Mod_shift_L57 am_fu v1 v2 (nI k) 0 x = some (y, h') ∧ mU6 h h' ∧ ∀ j, j < rW r → h'.2.1 137 (29 + j) = oI (sft r s k j) := by
  have hW := V.hW
  obtain ⟨b, e1, e2, e3⟩ := lpc2 (fun n (x1 : Int32) (x2 : am_H) => f_Mod_shift_L57 n v1 v2 (nI k) x1 x2) (rW r)
    (fun t x1 x2 => x1 = nI t ∧ mU6 h x2 ∧ ∀ j, j < t → x2.2.1 137 (29 + j) = oI (sft r s k j))
    (fun b => mU6 h b.2 ∧ ∀ j, j < rW r → b.2.2.1 137 (29 + j) = oI (sft r s k j))
    (fun n t x1 x2 ht hI => by
      obtain ⟨i1, i2, i3⟩ := hI
      try simp only at i1 i2 i3
      subst i1
      have hm : (t + rW r - k) % rW r < rW r := Nat.mod_lt _ (by omega)
      have e2 : x2.2.1 137 2 = nI (rW r) := by rw [i2.2.1 2 (by omega)]; exact V.w
      have e29 : (29 : Int32) + nI t = nI (29 + t) := nI_add 29 t
      try simp only
      rw [f_Mod_shift_L57, rd_lit (by decide) (by decide), Option.bind_some, e2, if_neg (nI_ge ht (by omega)), Option.bind_some, Option.bind_some, nI_add, nI_sub (by omega), n_md (by omega) (by omega) (by omega), Option.bind_some, n_rd (by omega) (by decide), Option.bind_some, i2.2.2 _ (by omega), V.wk hm, e29, n_wr (by omega) (by decide), Option.bind_some, nI_1]
      refine ⟨_, _, rfl, rfl, ⟨i2.1.tr (am_ex.sI (X := [137]) (by decide)) (fun _ z => z) (by decide), fun j hj => ?_, fun j hj => ?_⟩, fun j hj => ?_⟩
      · rw [sI_row, if_pos rfl, up_n (by omega)]; exact i2.2.1 j hj
      · rw [sI_row, if_neg (by decide)]; exact i2.2.2 j hj
      · rw [sI_row, if_pos rfl]
        by_cases c : j = t
        · subst c; rw [up_s]; rfl
        · rw [up_n (by omega)]; exact i3 j (by omega))
    (fun n x1 x2 hI => by
      obtain ⟨i1, i2, i3⟩ := hI
      try simp only at i1 i2 i3
      subst i1
      have e2 : x2.2.1 137 2 = nI (rW r) := by rw [i2.2.1 2 (by omega)]; exact V.w
      try simp only
      rw [f_Mod_shift_L57, rd_lit (by decide) (by decide), Option.bind_some, e2, if_pos (nI_le (Nat.le_refl _) (by omega))]
      exact ⟨_, rfl, i2, i3⟩) (by unfold am_fu; omega) 0 x ⟨rfl, U, fun j hj => by omega⟩
  obtain ⟨b1, b2⟩ := b
  exact ⟨b1, b2, e1, e2, e3⟩
theorem n_mShift {h : am_H} {r : sR} {s : sS} (V : mV (h.2.1 137) r s) (K : mK r h) : ∃ y1 h1 y2 y3 h2 y4 h3, f_Mod_shift_L11 am_fu 0 h = some (y1, h1) ∧ f_Mod_shift_L44 am_fu 0 (-1) 0 h1 = some (nI (shO r s (rW r)).2, y2, y3, h2) ∧ f_Mod_shift_L135 am_fu (nI (shO r s (rW r)).2) y2 0 h2 = some (y4, h3) ∧ am_ex [144, 145, 146, 151] h h3 := by
  have hW := V.hW
  obtain ⟨b, e1, e2⟩ := lpc2 (fun n (x1 : Int32) (x2 : am_H) => f_Mod_shift_L11 n x1 x2) 6
    (fun t x1 x2 => x1 = nI t ∧ am_ex [151] h x2 ∧ ∀ j, j < t → x2.2.1 151 j = h.2.1 137 (29 + j))
    (fun b => mU6 h b.2)
    (fun n t x1 x2 ht hI => by
      obtain ⟨i1, i2, i3⟩ := hI
      try simp only at i1 i2 i3
      subst i1
      have e29 : (29 : Int32) + nI t = nI (29 + t) := nI_add 29 t
      try simp only
      rw [f_Mod_shift_L11, if_neg (show ¬ (6 : Int32) ≤ nI t from nI_ge (b := 6) ht (by decide)), e29, n_rd (by omega) (by decide), Option.bind_some, n_wr ht (by decide), Option.bind_some, nI_1]
      refine ⟨_, _, rfl, rfl, i2.tr (am_ex.sI (X := [151]) (by decide)) (fun _ z => z) (fun _ z => z), fun j hj => ?_⟩
      rw [sI_row, if_pos rfl]
      by_cases c : j = t
      · subst c; rw [up_s, i2.2.2 137 (by decide)]
      · rw [up_n (by omega)]; exact i3 j (by omega))
    (fun n x1 x2 hI => by
      obtain ⟨i1, i2, i3⟩ := hI
      try simp only at i1 i2 i3
      subst i1
      try simp only
      rw [f_Mod_shift_L11, if_pos (show (6 : Int32) ≤ nI 6 by decide)]
      refine ⟨_, rfl, i2.tr am_ex.rf (Y := []) (by decide) (by decide), fun j _ => by rw [i2.2.2 137 (by decide)], i3⟩) (by decide) 0 h ⟨rfl, am_ex.rf, fun j hj => by omega⟩
  obtain ⟨c, f1, f2, f3⟩ := lpc4 (fun n (x1 : Int32) (x2 : Int32) (x3 : Int32) (x4 : am_H) => f_Mod_shift_L44 n x1 x2 x3 x4) (rW r)
    (fun t x1 x2 x3 x4 => x1 = nI (shO r s t).2 ∧ x2 = oI (shO r s t).1 ∧ x3 = nI t ∧ mU6 h x4)
    (fun b => b.1 = nI (shO r s (rW r)).2 ∧ mU6 h b.2.2.2)
    (fun n t x1 x2 x3 x4 ht hI => by
      obtain ⟨i1, i2, i3, i4⟩ := hI
      try simp only at i1 i2 i3 i4
      subst i1 i2 i3
      have e2 : x4.2.1 137 2 = nI (rW r) := by rw [i4.2.1 2 (by omega)]; exact V.w
      obtain ⟨y, h1, c1, c2, c3⟩ := n_mSh57 (v1 := nI (shO r s t).2) (v2 := oI (shO r s t).1) V i4 ht
      have V3 : mV (h1.2.1 137) r (sWk s (sft r s t)) := V.wks c2.2.1 (sft_v V.1 V.vw) c3
      have K3 := K.ex c2.1 (by decide) (by decide) (by decide)
      obtain ⟨h2, d1, d2⟩ := n_inTimeMany V3 K3
      rw [inT_w] at d1
      have d1' : f_Mod_inTimeMany h1 = some (nI (inT r s (sft r s t)), h2) := d1
      try simp only
      rw [f_Mod_shift_L44, rd_lit (by decide) (by decide), Option.bind_some, e2, if_neg (nI_ge ht (by omega)), c1, Option.bind_some]
      try simp only
      rw [d1', Option.bind_some, nI_1]
      refine ⟨nI (shO r s (t + 1)).2, oI (shO r s (t + 1)).1, nI (t + 1), h2, ?_, rfl, rfl, rfl, c2.1.tr d2 (fun _ z => z) (by decide), fun j hj => by rw [d2.2.2 137 (by decide)]; exact c2.2.1 j hj, fun j hj => by rw [d2.2.2 151 (by decide)]; exact c2.2.2 j hj⟩
      simp only [btr_lt (shO_le V.1 t) (inT_le (s := s) (wk := sft r s t) V.1)]
      rw [shO]
      cases hc : btr (shO r s t).1 (inT r s (sft r s t)) with
      | true => rw [if_tt, if_tt]; rfl
      | false => rw [if_ff, if_ff])
    (fun n x1 x2 x3 x4 hI => by
      obtain ⟨i1, i2, i3, i4⟩ := hI
      try simp only at i1 i2 i3 i4
      subst i1 i2 i3
      have e2 : x4.2.1 137 2 = nI (rW r) := by rw [i4.2.1 2 (by omega)]; exact V.w
      try simp only
      rw [f_Mod_shift_L44, rd_lit (by decide) (by decide), Option.bind_some, e2, if_pos (nI_le (Nat.le_refl _) (by omega))]
      exact ⟨_, rfl, rfl, i4⟩) (by unfold am_fu; omega) 0 (-1) 0 b.2 ⟨rfl, rfl, rfl, e2⟩
  obtain ⟨c1, c2, c3, c4⟩ := c
  try simp only at f2 f3
  subst f2
  obtain ⟨d, g1, g2, g3⟩ := lpc2 (fun n (x1 : Int32) (x2 : am_H) => f_Mod_shift_L135 n (nI (shO r s (rW r)).2) c2 x1 x2) 6
    (fun t x1 x2 => x1 = nI t ∧ mU6 h x2 ∧ ∀ j, j < t → x2.2.1 137 (29 + j) = h.2.1 137 (29 + j))
    (fun b => mU6 h b.2 ∧ ∀ j, j < 6 → b.2.2.1 137 (29 + j) = h.2.1 137 (29 + j))
    (fun n t x1 x2 ht hI => by
      obtain ⟨i1, i2, i3⟩ := hI
      try simp only at i1 i2 i3
      subst i1
      have e29 : (29 : Int32) + nI t = nI (29 + t) := nI_add 29 t
      try simp only
      rw [f_Mod_shift_L135, if_neg (show ¬ (6 : Int32) ≤ nI t from nI_ge (b := 6) ht (by decide)), n_rd ht (by decide), Option.bind_some, i2.2.2 t ht, e29, n_wr (by omega) (by decide), Option.bind_some, nI_1]
      refine ⟨_, _, rfl, rfl, ⟨i2.1.tr (am_ex.sI (X := [137]) (by decide)) (fun _ z => z) (by decide), fun j hj => ?_, fun j hj => ?_⟩, fun j hj => ?_⟩
      · rw [sI_row, if_pos rfl, up_n (by omega)]; exact i2.2.1 j hj
      · rw [sI_row, if_neg (by decide)]; exact i2.2.2 j hj
      · rw [sI_row, if_pos rfl]
        by_cases c : j = t
        · subst c; rw [up_s]
        · rw [up_n (by omega)]; exact i3 j (by omega))
    (fun n x1 x2 hI => by
      obtain ⟨i1, i2, i3⟩ := hI
      try simp only at i1 i2 i3
      subst i1
      try simp only
      rw [f_Mod_shift_L135, if_pos (show (6 : Int32) ≤ nI 6 by decide)]
      exact ⟨_, rfl, i2, i3⟩) (by decide) 0 c4 ⟨rfl, f3, fun j hj => by omega⟩
  obtain ⟨b1, b2⟩ := b
  obtain ⟨d1, d2⟩ := d
  refine ⟨b1, b2, c2, c3, c4, d1, d2, e1, f1, g1, g2.1.1, g2.1.2.1, fun a ha => ?_⟩
  by_cases c : a = 137
  · subst c
    funext j
    by_cases q : j < 29 ∨ 35 ≤ j
    · exact g2.2.1 j q
    · have := g3 (j - 29) (by omega)
      rw [show 29 + (j - 29) = j by omega] at this
      exact this
  · exact g2.1.2.2 a (by simp at ha ⊢; omega)
theorem ok_shift (b : Nat) (hb : b ≤ 90000) : ok2 b f_Top_shift f_Mod_shift := by
  refine ok2_of (fun g h v T M0 => ?_)
  have TV := T.tV v (by omega)
  unfold f_Top_shift f_Mod_shift
  simp only [am_let]
  obtain ⟨h1, a1, a2⟩ := n_tShift TV
  rw [a1, Option.bind_some]
  refine ⟨_, ⟨h1, rfl, a2.keT (by unfold scr; simp)⟩, fun h' M _ => ?_⟩
  have k0 : keM h' (am_sI h' 136 0 0) := keM.s0 (by decide)
  have MV := (M.ke k0).mV v (by omega)
  obtain ⟨h2, c1, c2, c3⟩ := n_keepsLets MV
  obtain ⟨y1, h3, y2, y3, h4, y4, h5, d1, d2, d3, d4⟩ := n_mShift (MV.ex c2 (by decide)) c3
  rw [c1, Option.bind_some, d1, Option.bind_some, d2, Option.bind_some]
  try simp only
  rw [d3, Option.bind_some]
  exact ⟨_, rfl, (k0.tr (c2.keM (by decide))).tr (d4.keM (by decide))⟩
