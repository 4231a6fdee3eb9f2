-- deps: 31.law
/-! ===== numbers: ints that are naturals ===== -/
theorem lp {α β : Type} (F : Nat → α → Option β) (I : Nat → α → Prop) (Q : β → Prop)
    (hs : ∀ n m a, I m a → (∃ b, F (n + 1) a = some b ∧ Q b) ∨ (∃ m' a', m' < m ∧ F (n + 1) a = F n a' ∧ I m' a')) :
    ∀ n m a, m < n → I m a → ∃ b, F n a = some b ∧ Q b := by
  intro n
  induction n with
  | zero => intro m a h; omega
  | succ n ih =>
    intro m a hm hI
    rcases hs n m a hI with h | ⟨m', a', h1, h2, h3⟩
    · exact h
    · rw [h2]
      exact ih m' a' (by omega) h3
theorem rd_lit {α : Type} {f : Nat → α} {L n : Nat} (h : (OfNat.ofNat n : Nat) < L) (hL : L < 2 ^ 31) : am_rd f L (OfNat.ofNat n : Int32) = some (f (OfNat.ofNat n : Nat)) := n_rd h hL
theorem wr_lit {h : am_H} {o L n : Nat} {x : Int32} (hi : (OfNat.ofNat n : Nat) < L) (hL : L < 2 ^ 31) : am_wr h o L (OfNat.ofNat n : Int32) x = some (am_sI h o (OfNat.ofNat n : Nat) x) := n_wr hi hL
theorem wrJ_lit {h : am_H} {o L n : Nat} {x : Int64} (hi : (OfNat.ofNat n : Nat) < L) (hL : L < 2 ^ 31) : am_wrJ h o L (OfNat.ofNat n : Int32) x = some (am_sJ h o (OfNat.ofNat n : Nat) x) := n_wrJ hi hL
theorem nI_mul (a b : Nat) : nI a * nI b = nI (a * b) := (Int32.ofNat_mul a b).symm
theorem la_nI (n k : Nat) : (OfNat.ofNat n : Int32) + nI k = nI ((OfNat.ofNat n : Nat) + k) := nI_add n k
theorem nI_la (n k : Nat) : nI k + (OfNat.ofNat n : Int32) = nI (k + (OfNat.ofNat n : Nat)) := nI_add k n
theorem lm_nI (n k : Nat) : (OfNat.ofNat n : Int32) * nI k = nI ((OfNat.ofNat n : Nat) * k) := nI_mul n k
theorem nI_lm (n k : Nat) : nI k * (OfNat.ofNat n : Int32) = nI (k * (OfNat.ofNat n : Nat)) := nI_mul k n
theorem nI_ls {n k : Nat} (h : (OfNat.ofNat n : Nat) ≤ k) : nI k - (OfNat.ofNat n : Int32) = nI (k - (OfNat.ofNat n : Nat)) := nI_sub h
theorem nI_div {a b : Nat} (ha : a < 2 ^ 31) (hb : b < 2 ^ 31) : nI a / nI b = nI (a / b) := by
  refine Int32.toInt_inj.mp ?_
  have h1 : a / b ≤ a := Nat.div_le_self a b
  rw [Int32.toInt_div, nI_toInt ha, nI_toInt hb, nI_toInt (by omega)]
  rw [← Int.ofNat_tdiv]
  generalize a / b = q at h1 ⊢
  rw [Int.bmod_eq_of_le (by omega) (by omega)]
theorem nI_ld {n k : Nat} (hk : k < 2 ^ 31) (hn : (OfNat.ofNat n : Nat) < 2 ^ 31) : nI k / (OfNat.ofNat n : Int32) = nI (k / (OfNat.ofNat n : Nat)) := nI_div hk hn
theorem n_md {a b : Nat} (ha : a < 2 ^ 31) (hb : b < 2 ^ 31) (h0 : 0 < b) : am_md (nI a) (nI b) = some (nI (a % b)) := by
  unfold am_md
  rw [if_neg (nI_ne0 h0 hb), nI_div ha hb, nI_mul, nI_sub (Nat.div_mul_le_self a b)]
  congr 2
  have := Nat.div_add_mod a b
  have e : a / b * b = b * (a / b) := Nat.mul_comm _ _
  omega
theorem n_dv {a b : Nat} (ha : a < 2 ^ 31) (hb : b < 2 ^ 31) (h0 : 0 < b) : am_dv (nI a) (nI b) = some (nI (a / b)) := by
  unfold am_dv
  rw [if_neg (nI_ne0 h0 hb), nI_div ha hb]
theorem nI_md2 {k : Nat} (hk : k < 2 ^ 31) : nI k - nI k / (2 : Int32) * (2 : Int32) = nI (k % 2) := by
  have e : nI k / (2 : Int32) * (2 : Int32) = nI (k / 2 * 2) := (congrArg (· * (2 : Int32)) (nI_div hk (show (2 : Nat) < 2 ^ 31 by decide))).trans (nI_mul (k / 2) 2)
  rw [e, nI_sub (by omega)]
  congr 1
  omega
/-! comparisons with literals -/
theorem nI_llt {n k : Nat} (hk : k < 2 ^ 31) (hn : (OfNat.ofNat n : Nat) < 2 ^ 31) : (nI k < (OfNat.ofNat n : Int32)) = (k < (OfNat.ofNat n : Nat)) := propext (nI_ltI hk hn)
theorem l_lt {n k : Nat} (hk : k < 2 ^ 31) (hn : (OfNat.ofNat n : Nat) < 2 ^ 31) : ((OfNat.ofNat n : Int32) < nI k) = ((OfNat.ofNat n : Nat) < k) := propext (nI_ltI hn hk)
theorem nI_lle {n k : Nat} (hk : k < 2 ^ 31) (hn : (OfNat.ofNat n : Nat) < 2 ^ 31) : (nI k ≤ (OfNat.ofNat n : Int32)) = (k ≤ (OfNat.ofNat n : Nat)) := propext (nI_leI hk hn)
theorem l_le {n k : Nat} (hk : k < 2 ^ 31) (hn : (OfNat.ofNat n : Nat) < 2 ^ 31) : ((OfNat.ofNat n : Int32) ≤ nI k) = ((OfNat.ofNat n : Nat) ≤ k) := propext (nI_leI hn hk)
theorem nI_leq {n k : Nat} (hk : k < 2 ^ 31) (hn : (OfNat.ofNat n : Nat) < 2 ^ 31) : (nI k = (OfNat.ofNat n : Int32)) = (k = (OfNat.ofNat n : Nat)) := propext (nI_eq hk hn)
theorem l_eq {n k : Nat} (hk : k < 2 ^ 31) (hn : (OfNat.ofNat n : Nat) < 2 ^ 31) : ((OfNat.ofNat n : Int32) = nI k) = ((OfNat.ofNat n : Nat) = k) := propext (nI_eq hn hk)
theorem nI_ltP {a b : Nat} (ha : a < 2 ^ 31) (hb : b < 2 ^ 31) : (nI a < nI b) = (a < b) := propext (nI_ltI ha hb)
theorem nI_leP {a b : Nat} (ha : a < 2 ^ 31) (hb : b < 2 ^ 31) : (nI a ≤ nI b) = (a ≤ b) := propext (nI_leI ha hb)
theorem nI_eqP {a b : Nat} (ha : a < 2 ^ 31) (hb : b < 2 ^ 31) : (nI a = nI b) = (a = b) := propext (nI_eq ha hb)
theorem nI_m1' {k : Nat} (h : 1 ≤ k) : nI k + (-1 : Int32) = nI (k - 1) := nI_m1 h
theorem nI_nm1 {k : Nat} (hk : k < 2 ^ 31) : ¬ nI k = (-1 : Int32) := by
  intro c
  have := congrArg Int32.toInt c
  rw [nI_toInt hk] at this
  have h1 : (-1 : Int32).toInt = -1 := by decide
  omega
theorem m1_nI {k : Nat} (hk : k < 2 ^ 31) : ¬ (-1 : Int32) = nI k := fun c => nI_nm1 hk c.symm
/-- a gap or none, a spot or none -/
def oI : Option Nat → Int32
  | none => -1
  | some k => nI k
theorem oI_none : oI none = -1 := Int32.toBitVec_inj.mp rfl
theorem oI_some (k : Nat) : oI (some k) = nI k := Int32.toBitVec_inj.mp rfl
/-! ===== bits ===== -/
theorem nI_or (a b : Nat) : nI a ||| nI b = nI (a ||| b) := by
  refine Int32.toBitVec_inj.mp ?_
  show BitVec.ofNat 32 a ||| BitVec.ofNat 32 b = BitVec.ofNat 32 (a ||| b)
  exact BitVec.ofNat_or.symm
theorem nI_and (a b : Nat) : nI a &&& nI b = nI (a &&& b) := by
  refine Int32.toBitVec_inj.mp ?_
  show BitVec.ofNat 32 a &&& BitVec.ofNat 32 b = BitVec.ofNat 32 (a &&& b)
  exact BitVec.ofNat_and.symm
theorem nI_xor (a b : Nat) : nI a ^^^ nI b = nI (a ^^^ b) := by
  refine Int32.toBitVec_inj.mp ?_
  show BitVec.ofNat 32 a ^^^ BitVec.ofNat 32 b = BitVec.ofNat 32 (a ^^^ b)
  exact BitVec.ofNat_xor.symm
theorem nI_msk {k : Nat} (h : k < 32) : nI k &&& (31 : Int32) = nI k := by
  have : ∀ k, k < 32 → nI k &&& (31 : Int32) = nI k := by decide +kernel
  exact this k h
theorem nI_bv (a : Nat) : (nI a).toBitVec = BitVec.ofNat 32 a := rfl
theorem nI_shl {a k : Nat} (hk : k < 32) : nI a <<< nI k = nI (a <<< k) := by
  refine Int32.toBitVec_inj.mp ?_
  rw [Int32.toBitVec_shiftLeft]
  have e : (nI k).toBitVec.smod 32 = BitVec.ofNat 32 k := by
    have : ∀ k, k < 32 → (nI k).toBitVec.smod 32 = BitVec.ofNat 32 k := by decide +kernel
    exact this k hk
  rw [e, nI_bv, nI_bv]
  have e2 : (BitVec.ofNat 32 k).toNat = k := by rw [BitVec.toNat_ofNat]; omega
  apply BitVec.eq_of_toNat_eq
  show (BitVec.ofNat 32 a <<< (BitVec.ofNat 32 k).toNat).toNat = _
  rw [e2, BitVec.toNat_shiftLeft, BitVec.toNat_ofNat, BitVec.toNat_ofNat, Nat.shiftLeft_eq, Nat.shiftLeft_eq, Nat.mod_mul_mod]
theorem nI_shr {a k : Nat} (ha : a < 2 ^ 31) (hk : k < 32) : nI a >>> nI k = nI (a >>> k) := by
  refine Int32.toBitVec_inj.mp ?_
  rw [Int32.toBitVec_shiftRight]
  have e : (nI k).toBitVec.smod 32 = BitVec.ofNat 32 k := by
    have : ∀ k, k < 32 → (nI k).toBitVec.smod 32 = BitVec.ofNat 32 k := by decide +kernel
    exact this k hk
  rw [e, nI_bv, nI_bv]
  have e2 : (BitVec.ofNat 32 k).toNat = k := by rw [BitVec.toNat_ofNat]; omega
  have e3 : (BitVec.ofNat 32 a).toNat = a := by rw [BitVec.toNat_ofNat]; omega
  show BitVec.sshiftRight (BitVec.ofNat 32 a) (BitVec.ofNat 32 k).toNat = _
  rw [e2, BitVec.sshiftRight_eq_of_msb_false (by rw [BitVec.msb_eq_decide, e3]; simp; omega)]
  apply BitVec.eq_of_toNat_eq
  have h3 : a >>> k ≤ a := by rw [Nat.shiftRight_eq_div_pow]; exact Nat.div_le_self _ _
  rw [BitVec.toNat_ushiftRight, e3, BitVec.toNat_ofNat, Nat.mod_eq_of_lt (Nat.lt_of_le_of_lt h3 (by omega))]
/-! literals -/
theorem lit_nI (n : Nat) : (OfNat.ofNat n : Int32) = nI n := Int32.toBitVec_inj.mp rfl
theorem i_0 : (0 : Int32) = nI 0 := lit_nI 0
theorem i_1 : (1 : Int32) = nI 1 := lit_nI 1
theorem i_2 : (2 : Int32) = nI 2 := lit_nI 2
theorem i_3 : (3 : Int32) = nI 3 := lit_nI 3
theorem i_4 : (4 : Int32) = nI 4 := lit_nI 4
theorem i_5 : (5 : Int32) = nI 5 := lit_nI 5
theorem i_6 : (6 : Int32) = nI 6 := lit_nI 6
theorem i_7 : (7 : Int32) = nI 7 := lit_nI 7
theorem i_8 : (8 : Int32) = nI 8 := lit_nI 8
theorem i_9 : (9 : Int32) = nI 9 := lit_nI 9
theorem i_10 : (10 : Int32) = nI 10 := lit_nI 10
theorem i_11 : (11 : Int32) = nI 11 := lit_nI 11
theorem i_12 : (12 : Int32) = nI 12 := lit_nI 12
theorem i_13 : (13 : Int32) = nI 13 := lit_nI 13
theorem i_14 : (14 : Int32) = nI 14 := lit_nI 14
theorem i_15 : (15 : Int32) = nI 15 := lit_nI 15
theorem i_16 : (16 : Int32) = nI 16 := lit_nI 16
theorem i_17 : (17 : Int32) = nI 17 := lit_nI 17
theorem i_18 : (18 : Int32) = nI 18 := lit_nI 18
theorem i_19 : (19 : Int32) = nI 19 := lit_nI 19
theorem i_20 : (20 : Int32) = nI 20 := lit_nI 20
theorem i_21 : (21 : Int32) = nI 21 := lit_nI 21
theorem i_22 : (22 : Int32) = nI 22 := lit_nI 22
theorem i_23 : (23 : Int32) = nI 23 := lit_nI 23
theorem i_24 : (24 : Int32) = nI 24 := lit_nI 24
theorem i_25 : (25 : Int32) = nI 25 := lit_nI 25
theorem i_26 : (26 : Int32) = nI 26 := lit_nI 26
theorem i_27 : (27 : Int32) = nI 27 := lit_nI 27
theorem i_28 : (28 : Int32) = nI 28 := lit_nI 28
theorem i_29 : (29 : Int32) = nI 29 := lit_nI 29
theorem i_30 : (30 : Int32) = nI 30 := lit_nI 30
theorem i_31 : (31 : Int32) = nI 31 := lit_nI 31
theorem i_32 : (32 : Int32) = nI 32 := lit_nI 32
theorem i_33 : (33 : Int32) = nI 33 := lit_nI 33
theorem i_34 : (34 : Int32) = nI 34 := lit_nI 34
theorem i_35 : (35 : Int32) = nI 35 := lit_nI 35
theorem i_36 : (36 : Int32) = nI 36 := lit_nI 36
theorem i_37 : (37 : Int32) = nI 37 := lit_nI 37
theorem i_38 : (38 : Int32) = nI 38 := lit_nI 38
theorem i_39 : (39 : Int32) = nI 39 := lit_nI 39
theorem i_40 : (40 : Int32) = nI 40 := lit_nI 40
theorem i_41 : (41 : Int32) = nI 41 := lit_nI 41
theorem i_42 : (42 : Int32) = nI 42 := lit_nI 42
theorem i_43 : (43 : Int32) = nI 43 := lit_nI 43
theorem i_45 : (45 : Int32) = nI 45 := lit_nI 45
theorem i_46 : (46 : Int32) = nI 46 := lit_nI 46
theorem i_48 : (48 : Int32) = nI 48 := lit_nI 48
theorem i_50 : (50 : Int32) = nI 50 := lit_nI 50
theorem i_57 : (57 : Int32) = nI 57 := lit_nI 57
theorem i_58 : (58 : Int32) = nI 58 := lit_nI 58
theorem i_59 : (59 : Int32) = nI 59 := lit_nI 59
theorem i_60 : (60 : Int32) = nI 60 := lit_nI 60
theorem i_61 : (61 : Int32) = nI 61 := lit_nI 61
theorem i_62 : (62 : Int32) = nI 62 := lit_nI 62
theorem i_63 : (63 : Int32) = nI 63 := lit_nI 63
theorem i_65 : (65 : Int32) = nI 65 := lit_nI 65
theorem i_91 : (91 : Int32) = nI 91 := lit_nI 91
theorem i_93 : (93 : Int32) = nI 93 := lit_nI 93
theorem i_97 : (97 : Int32) = nI 97 := lit_nI 97
theorem i_99 : (99 : Int32) = nI 99 := lit_nI 99
theorem i_100 : (100 : Int32) = nI 100 := lit_nI 100
theorem i_101 : (101 : Int32) = nI 101 := lit_nI 101
theorem i_102 : (102 : Int32) = nI 102 := lit_nI 102
theorem i_103 : (103 : Int32) = nI 103 := lit_nI 103
theorem i_104 : (104 : Int32) = nI 104 := lit_nI 104
theorem i_105 : (105 : Int32) = nI 105 := lit_nI 105
theorem i_106 : (106 : Int32) = nI 106 := lit_nI 106
theorem i_107 : (107 : Int32) = nI 107 := lit_nI 107
theorem i_108 : (108 : Int32) = nI 108 := lit_nI 108
theorem i_109 : (109 : Int32) = nI 109 := lit_nI 109
theorem i_110 : (110 : Int32) = nI 110 := lit_nI 110
theorem i_111 : (111 : Int32) = nI 111 := lit_nI 111
theorem i_112 : (112 : Int32) = nI 112 := lit_nI 112
theorem i_113 : (113 : Int32) = nI 113 := lit_nI 113
theorem i_114 : (114 : Int32) = nI 114 := lit_nI 114
theorem i_115 : (115 : Int32) = nI 115 := lit_nI 115
theorem i_116 : (116 : Int32) = nI 116 := lit_nI 116
theorem i_117 : (117 : Int32) = nI 117 := lit_nI 117
theorem i_118 : (118 : Int32) = nI 118 := lit_nI 118
theorem i_119 : (119 : Int32) = nI 119 := lit_nI 119
theorem i_120 : (120 : Int32) = nI 120 := lit_nI 120
theorem i_121 : (121 : Int32) = nI 121 := lit_nI 121
theorem i_122 : (122 : Int32) = nI 122 := lit_nI 122
theorem i_171 : (171 : Int32) = nI 171 := lit_nI 171
theorem i_200 : (200 : Int32) = nI 200 := lit_nI 200
theorem i_236 : (236 : Int32) = nI 236 := lit_nI 236
theorem i_237 : (237 : Int32) = nI 237 := lit_nI 237
theorem i_255 : (255 : Int32) = nI 255 := lit_nI 255
theorem i_256 : (256 : Int32) = nI 256 := lit_nI 256
theorem i_900 : (900 : Int32) = nI 900 := lit_nI 900
theorem i_999 : (999 : Int32) = nI 999 := lit_nI 999
theorem i_1000 : (1000 : Int32) = nI 1000 := lit_nI 1000
theorem i_1137 : (1137 : Int32) = nI 1137 := lit_nI 1137
theorem i_2000 : (2000 : Int32) = nI 2000 := lit_nI 2000
theorem i_2001 : (2001 : Int32) = nI 2001 := lit_nI 2001
theorem i_2002 : (2002 : Int32) = nI 2002 := lit_nI 2002
theorem i_2003 : (2003 : Int32) = nI 2003 := lit_nI 2003
theorem i_2004 : (2004 : Int32) = nI 2004 := lit_nI 2004
theorem i_2005 : (2005 : Int32) = nI 2005 := lit_nI 2005
theorem i_2006 : (2006 : Int32) = nI 2006 := lit_nI 2006
theorem i_2007 : (2007 : Int32) = nI 2007 := lit_nI 2007
theorem i_2008 : (2008 : Int32) = nI 2008 := lit_nI 2008
theorem i_3000 : (3000 : Int32) = nI 3000 := lit_nI 3000
theorem i_3001 : (3001 : Int32) = nI 3001 := lit_nI 3001
theorem i_3002 : (3002 : Int32) = nI 3002 := lit_nI 3002
theorem i_3003 : (3003 : Int32) = nI 3003 := lit_nI 3003
theorem i_3004 : (3004 : Int32) = nI 3004 := lit_nI 3004
theorem i_3005 : (3005 : Int32) = nI 3005 := lit_nI 3005
theorem i_3006 : (3006 : Int32) = nI 3006 := lit_nI 3006
theorem i_3007 : (3007 : Int32) = nI 3007 := lit_nI 3007
theorem i_3008 : (3008 : Int32) = nI 3008 := lit_nI 3008
theorem nm_1 {k : Nat} (hk : k < 2 ^ 31) : (nI k = -nI 1) = False := eq_false (nI_nm1 hk)
theorem nm_2 {k : Nat} (hk : k < 2 ^ 31) : (-nI 1 = nI k) = False := eq_false (m1_nI hk)
theorem oI_n : oI none = -nI 1 := Int32.toBitVec_inj.mp rfl
theorem nI_a1 {a : Nat} (h : 1 ≤ a) : nI a + -nI 1 = nI (a - 1) := nI_m1 h
