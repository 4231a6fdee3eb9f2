-- deps: 31.law 32.nat
theorem bit_and1 {a k : Nat} : (a >>> k) &&& 1 = if a.testBit k then 1 else 0 := by
  rw [Nat.testBit, Nat.and_comm 1, Nat.and_one_is_mod]
  rcases Nat.mod_two_eq_zero_or_one (a >>> k) with c | c <;> simp [c]
theorem n_hasBit {a k : Nat} {h : am_H} (ha : a < 2 ^ 31) (hk : k < 32) : f_Top_hasBit (nI a) (nI k) h = some (a.testBit k) := by
  unfold f_Top_hasBit
  rw [if_neg (nI_pos (by omega)), if_neg (show ¬ (32 : Int32) ≤ nI k from nI_ge (b := 32) hk (by decide)), nI_msk hk, nI_shr ha hk]
  have e : nI (a >>> k) &&& (1 : Int32) = nI (a >>> k &&& 1) := nI_and (a >>> k) 1
  rw [e, bit_and1]
  by_cases c : a.testBit k
  · rw [if_pos c, if_neg (show ¬ nI 1 = 0 by decide), c]
  · rw [if_neg c, if_pos (show nI 0 = 0 from rfl)]
    simp at c
    rw [c]
theorem n_within {x l u : Int64} {h : am_H} : f_Mod_within x l u h = some (decide (l ≤ x ∧ x ≤ u)) := by
  unfold f_Mod_within
  by_cases c : x < l
  · rw [if_pos ((lg_cmp_lt _ _).mpr c)]
    congr 1
    symm
    apply decide_eq_false
    intro ⟨a, _⟩
    exact absurd c (Int64.not_lt.mpr a)
  · rw [if_neg (fun q => c ((lg_cmp_lt _ _).mp q))]
    by_cases c2 : u < x
    · rw [if_pos ((lg_cmp_gt _ _).mpr c2)]
      congr 1
      symm
      apply decide_eq_false
      intro ⟨_, a⟩
      exact absurd c2 (Int64.not_lt.mpr a)
    · rw [if_neg (fun q => c2 ((lg_cmp_gt _ _).mp q))]
      congr 1
      symm
      apply decide_eq_true
      exact ⟨Int64.not_lt.mp c, Int64.not_lt.mp c2⟩
/-- an int is a number below P, or it isn't between -/
theorem of_lt (x : Int32) {P : Nat} (hP : P < 2 ^ 31) : (∃ k, k < P ∧ x = nI k) ∨ ((x < 0 ∨ nI P ≤ x) ∧ ¬ ((0 : Int64) ≤ x.toInt64 ∧ x.toInt64 < lN P)) := by
  by_cases c : x < 0
  · right
    refine ⟨.inl c, fun q => ?_⟩
    have h1 := q.1
    rw [Int64.le_iff_toInt_le, Int32.toInt_toInt64] at h1
    rw [Int32.lt_iff_toInt_lt] at c
    have e1 : (0 : Int64).toInt = 0 := by decide
    have e2 : (0 : Int32).toInt = 0 := by decide
    omega
  · obtain ⟨j, hj, rfl⟩ := nI_of c
    by_cases c2 : j < P
    · exact .inl ⟨j, c2, rfl⟩
    · right
      refine ⟨.inr (nI_le (by omega) hj), fun q => ?_⟩
      have h1 := q.2
      rw [nI_l hj, lN_lt hj hP] at h1
      omega
theorem sub1_l {n : Nat} (h : n < 2 ^ 31) : (nI n - (1 : Int32)).toInt64 = lN n - 1 := by
  refine Int64.toInt_inj.mp ?_
  have e1 : (1 : Int32).toInt = 1 := by decide
  have e2 : (1 : Int64).toInt = 1 := by decide
  rw [Int32.toInt_toInt64, Int32.toInt_sub, Int64.toInt_sub, nI_toInt h, lN_toInt h, e1, e2, Int.bmod_eq_of_le (by omega) (by omega), Int.bmod_eq_of_le (by omega) (by omega)]
theorem le_sub1 {x : Int64} {n : Nat} (h : n < 2 ^ 31) : (x ≤ lN n - 1) ↔ x < lN n := by
  have e2 : (1 : Int64).toInt = 1 := by decide
  rw [Int64.le_iff_toInt_le, Int64.lt_iff_toInt_lt, Int64.toInt_sub, lN_toInt h, e2, Int.bmod_eq_of_le (by omega) (by omega)]
  omega
/-- within 0 .. n-1, of an int -/
theorem n_win {x : Int32} {n : Nat} {h : am_H} (hn : n < 2 ^ 31) : (∃ k, k < n ∧ x = nI k ∧ f_Mod_within x.toInt64 0 ((nI n - (1 : Int32)).toInt64) h = some true) ∨ ((x < 0 ∨ nI n ≤ x) ∧ f_Mod_within x.toInt64 0 ((nI n - (1 : Int32)).toInt64) h = some false) := by
  rw [n_within, sub1_l hn]
  rcases of_lt x hn with ⟨k, hk, rfl⟩ | ⟨h1, h2⟩
  · left
    refine ⟨k, hk, rfl, ?_⟩
    congr 1
    apply decide_eq_true
    rw [le_sub1 hn, nI_l (by omega)]
    exact ⟨(lN_le (a := 0) (by omega) (by omega)).mpr (Nat.zero_le k), (lN_lt (by omega) hn).mpr hk⟩
  · right
    refine ⟨h1, ?_⟩
    congr 1
    apply decide_eq_false
    rw [le_sub1 hn]
    exact h2
theorem n_isIn {a k : Nat} {h : am_H} (ha : a < 2 ^ 31) (hk : k < 32) : f_Mod_isIn (nI a).toInt64 (nI k) h = some (a.testBit k) := by
  unfold f_Mod_isIn
  rw [nI_l ha, nI_l (by omega)]
  have e0 : lN k &&& (63 : Int64) = lN k := by
    have : ∀ k, k < 32 → lN k &&& (63 : Int64) = lN k := by decide +kernel
    exact this k hk
  have e1 : lN a >>> lN k = lN (a >>> k) := by
    refine Int64.toBitVec_inj.mp ?_
    rw [Int64.toBitVec_shiftRight]
    have e : (lN k).toBitVec.smod 64 = BitVec.ofNat 64 k := by
      have : ∀ k, k < 32 → (lN k).toBitVec.smod 64 = BitVec.ofNat 64 k := by decide +kernel
      exact this k hk
    rw [e]
    have e2 : (BitVec.ofNat 64 k).toNat = k := by rw [BitVec.toNat_ofNat]; omega
    have e3 : (BitVec.ofNat 64 a).toNat = a := by rw [BitVec.toNat_ofNat]; omega
    show BitVec.sshiftRight (BitVec.ofNat 64 a) (BitVec.ofNat 64 k).toNat = BitVec.ofNat 64 (a >>> k)
    rw [e2, BitVec.sshiftRight_eq_of_msb_false (by rw [BitVec.msb_eq_decide, e3]; simp; omega)]
    apply BitVec.eq_of_toNat_eq
    have h3 : a >>> k ≤ a := by rw [Nat.shiftRight_eq_div_pow]; exact Nat.div_le_self _ _
    rw [BitVec.toNat_ushiftRight, e3, BitVec.toNat_ofNat, Nat.mod_eq_of_lt (Nat.lt_of_le_of_lt h3 (by omega))]
  have e4 : lN (a >>> k) &&& (1 : Int64) = lN (a >>> k &&& 1) := by
    refine Int64.toBitVec_inj.mp ?_
    show BitVec.ofNat 64 (a >>> k) &&& BitVec.ofNat 64 1 = BitVec.ofNat 64 (a >>> k &&& 1)
    exact BitVec.ofNat_and.symm
  rw [e0, e1, e4, bit_and1]
  by_cases c : a.testBit k
  · rw [if_pos c, if_pos (by decide), c]
  · rw [if_neg c, if_neg (by decide)]
    simp at c
    rw [c]
theorem and_pow {a k : Nat} : (a &&& (1 <<< k) = 0) ↔ a.testBit k = false := by
  constructor
  · intro h
    have := congrArg (fun x => x.testBit k) h
    simpa [Nat.testBit_and, Nat.testBit_shiftLeft] using this
  · intro h
    apply Nat.eq_of_testBit_eq
    intro j
    rw [Nat.testBit_and, Nat.zero_testBit]
    by_cases c : j = k
    · subst c; rw [h]; rfl
    · have : (1 <<< k).testBit j = false := by
        rw [Nat.one_shiftLeft, Nat.testBit_two_pow]
        exact decide_eq_false (fun e => c e.symm)
      rw [this, Bool.and_false]
theorem nI_and0 {a b : Nat} (ha : a < 2 ^ 31) : (nI a &&& nI b = 0) = (a &&& b = 0) := by
  rw [nI_and]
  have : a &&& b ≤ a := Nat.and_le_left
  exact propext (nI_eq (b := 0) (by omega) (by decide))
