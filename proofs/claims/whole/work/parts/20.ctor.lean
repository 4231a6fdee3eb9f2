def am_RC : List (Nat × Nat × Nat) := [(1, 6, 2), (1, 7, 3), (1, 8, 4), (1, 9, 5), (1, 10, 6), (1, 11, 7), (1, 12, 8), (1, 13, 9), (0, 0, 1), (10, 3, 11), (10, 4, 12), (10, 5, 13), (0, 1, 10), (14, 3, 15), (14, 4, 16), (14, 5, 17), (0, 2, 14), (18, 0, 19), (20, 3, 21), (20, 4, 22), (20, 5, 23), (19, 0, 20), (24, 3, 25), (24, 4, 26), (24, 5, 27), (19, 1, 24), (28, 3, 29), (28, 4, 30), (28, 5, 31), (19, 2, 28), (32, 3, 33), (32, 4, 34), (32, 5, 35), (19, 3, 32), (36, 3, 37), (36, 4, 38), (36, 5, 39), (19, 4, 36), (40, 3, 41), (40, 4, 42), (40, 5, 43), (19, 5, 40), (44, 3, 45), (44, 4, 46), (44, 5, 47), (19, 6, 44), (48, 3, 49), (48, 4, 50), (48, 5, 51), (19, 7, 48), (52, 3, 53), (52, 4, 54), (52, 5, 55), (19, 8, 52), (56, 3, 57), (56, 4, 58), (56, 5, 59), (19, 9, 56), (0, 3, 18), (0, 4, 60), (62, 6, 63), (62, 7, 64), (62, 8, 65), (62, 9, 66), (62, 10, 67), (62, 11, 68), (62, 12, 69), (62, 13, 70), (61, 0, 62), (71, 1, 72), (71, 2, 73), (71, 3, 74), (61, 4, 71), (75, 2, 76), (75, 3, 77), (75, 4, 78), (61, 5, 75), (79, 2, 80), (79, 3, 81), (79, 4, 82), (61, 6, 79), (61, 7, 75), (0, 5, 61), (0, 6, 83), (0, 7, 84), (0, 8, 85), (86, 2, 87), (86, 3, 88), (86, 4, 89), (86, 5, 90), (86, 0, 1), (86, 1, 10), (0, 9, 86), (91, 3, 92), (91, 4, 93), (91, 10, 94), (91, 14, 95), (91, 0, 1), (91, 1, 10), (91, 2, 86), (0, 10, 91), (96, 2, 97), (96, 3, 98), (96, 0, 1), (96, 1, 10), (0, 11, 96), (99, 2, 100), (99, 3, 101), (99, 0, 1), (99, 1, 10), (0, 12, 99), (102, 3, 103), (83, 0, 102), (104, 3, 105), (83, 1, 104), (106, 3, 107), (83, 2, 106), (108, 3, 109), (83, 3, 108), (110, 6, 111), (110, 7, 112), (110, 8, 113), (110, 9, 114), (110, 10, 115), (110, 11, 116), (110, 12, 117), (110, 13, 118), (84, 0, 110), (119, 3, 120), (119, 4, 121), (119, 5, 122), (85, 0, 119), (123, 6, 124), (123, 7, 125), (123, 8, 126), (123, 9, 127), (123, 10, 128), (123, 11, 129), (123, 12, 130), (123, 13, 131), (84, 1, 123), (132, 3, 133), (132, 4, 134), (132, 5, 135), (85, 1, 132), (136, 1, 137), (136, 2, 138), (136, 3, 139), (136, 4, 140), (136, 16, 141), (136, 17, 142), (136, 18, 143), (136, 21, 144), (136, 22, 145), (136, 23, 146), (136, 24, 147), (136, 25, 148), (136, 26, 149), (136, 27, 150), (136, 28, 151), (136, 29, 152), (136, 30, 153), (136, 31, 154), (136, 32, 155), (136, 36, 156), (136, 37, 157), (136, 38, 158), (136, 39, 159), (136, 40, 160)]
def am_IC : List (Nat × Nat × Int32) := [(1, 0, 2), (1, 1, 1), (1, 2, 0), (1, 3, 0), (1, 4, 0), (1, 5, 0), (10, 0, 0), (10, 1, 0), (10, 2, 0), (14, 0, 0), (14, 1, 0), (14, 2, 0), (18, 1, 0), (18, 2, 0), (20, 0, 0), (20, 1, 0), (20, 2, 0), (24, 0, 0), (24, 1, 0), (24, 2, 0), (28, 0, 0), (28, 1, 0), (28, 2, 0), (32, 0, 0), (32, 1, 0), (32, 2, 0), (36, 0, 0), (36, 1, 0), (36, 2, 0), (40, 0, 0), (40, 1, 0), (40, 2, 0), (44, 0, 0), (44, 1, 0), (44, 2, 0), (48, 0, 0), (48, 1, 0), (48, 2, 0), (52, 0, 0), (52, 1, 0), (52, 2, 0), (56, 0, 0), (56, 1, 0), (56, 2, 0), (62, 0, 2), (62, 1, 1), (62, 2, 0), (62, 3, 0), (62, 4, 0), (62, 5, 0), (61, 1, 0), (61, 2, (-1)), (61, 3, 0), (71, 0, 0), (75, 0, 0), (75, 1, 0), (75, 5, 1), (79, 0, 0), (79, 1, 0), (79, 5, 0), (91, 5, 0), (91, 6, 0), (91, 7, 0), (91, 8, 0), (91, 9, 0), (91, 11, 0), (91, 12, 0), (91, 13, 0), (96, 4, 0), (0, 13, 0), (0, 14, 0), (102, 0, 0), (102, 1, 0), (102, 2, 0), (104, 0, 0), (104, 1, 0), (104, 2, 0), (106, 0, 0), (106, 1, 0), (106, 2, 0), (108, 0, 0), (108, 1, 0), (108, 2, 0), (110, 0, 2), (110, 1, 1), (110, 2, 0), (110, 3, 0), (110, 4, 0), (110, 5, 0), (119, 0, 0), (119, 1, 0), (119, 2, 0), (123, 0, 2), (123, 1, 1), (123, 2, 0), (123, 3, 0), (123, 4, 0), (123, 5, 0), (132, 0, 0), (132, 1, 0), (132, 2, 0), (136, 14, (-1)), (158, 0, (-1)), (158, 1, (-1)), (158, 2, (-1)), (158, 3, (-1))]
def am_lk (L : List (Nat × Nat × Int32)) (o j : Nat) : Int32 := match L with
  | [] => 0
  | q :: r => if Nat.beq q.1 o && Nat.beq q.2.1 j then q.2.2 else am_lk r o j
def am_In (n k i : Nat) (h : am_H) : Prop := h.1 = am_K0.take n ∧ (∀ q ∈ am_RC.take k, h.2.2.2 q.1 q.2.1 = some q.2.2) ∧ (∀ o j, o < n → h.2.1 o j = am_lk (am_IC.take i).reverse o j) ∧ ∀ o j, o < n → h.2.2.1 o j = 0
theorem am_In.k {n k i : Nat} {h : am_H} (hI : am_In n k i h) (r : Nat) (hr : r < n) {kd : am_K} (e : am_K0[r]? = some kd) : h.1[r]? = some kd := by rw [hI.1, List.getElem?_take, if_pos hr]; exact e
theorem am_In.len {n k i : Nat} {h : am_H} (hI : am_In n k i h) {kd : am_K} (e : am_K0[n]? = some kd) : h.1.length = n := by
  rw [hI.1, List.length_take]
  have := (List.getElem?_eq_some_iff.mp e).1
  omega
theorem am_In.r {n k i : Nat} {h : am_H} (hI : am_In n k i h) (x : Nat) (hx : x < k) {q : Nat × Nat × Nat} (e : am_RC[x]? = some q) : h.2.2.2 q.1 q.2.1 = some q.2.2 := hI.2.1 q (List.mem_of_getElem? (i := x) (by rw [List.getElem?_take, if_pos hx]; exact e))
theorem am_In.new {n k i : Nat} {h : am_H} {kd : am_K} (hI : am_In n k i h) (e : am_K0[n]? = some kd) (hR : (am_RC.take k).all (fun q => Nat.blt q.1 n) = true) (hL : (am_IC.take i).all (fun q => Nat.blt q.1 n) = true) : am_In (n + 1) k i (am_new h kd) := by
  have hlen := hI.len e
  refine ⟨?_, fun q hq => ?_, fun o j ho => ?_, fun o j ho => ?_⟩
  · show h.1 ++ [kd] = _
    rw [hI.1, List.take_add_one, e]
    rfl
  · have h1 := List.all_eq_true.mp hR q hq
    have h2 : q.1 < n := Nat.lt_of_lt_of_le (Nat.lt_succ_self _) (Nat.le_of_ble_eq_true h1)
    have : q.1 ≠ h.1.length := by omega
    simp only [am_new, if_neg this]
    exact hI.2.1 q hq
  · by_cases c : o = h.1.length
    · have z : am_lk (am_IC.take i).reverse o j = 0 := by
        have hall : ∀ q ∈ (am_IC.take i).reverse, q.1 < n := fun q hq => Nat.lt_of_lt_of_le (Nat.lt_succ_self _) (Nat.le_of_ble_eq_true (List.all_eq_true.mp hL q (List.mem_reverse.mp hq)))
        have ho' : n ≤ o := by omega
        revert hall
        generalize (am_IC.take i).reverse = L
        intro hall
        induction L with
        | nil => rfl
        | cons q r ih =>
          have h1 := hall q List.mem_cons_self
          have hne : Nat.beq q.1 o = false := by
            cases hb : Nat.beq q.1 o
            · rfl
            · have := Nat.eq_of_beq_eq_true hb
              omega
          simp only [am_lk, hne, Bool.false_and, Bool.false_eq_true, if_false]
          exact ih (fun q hq => hall q (List.mem_cons_of_mem _ hq))
      rw [z]
      simp only [am_new, if_pos c]
    · simp only [am_new, if_neg c]
      exact hI.2.2.1 o j (by omega)
  · by_cases c : o = h.1.length
    · simp only [am_new, if_pos c]
    · simp only [am_new, if_neg c]
      exact hI.2.2.2 o j (by omega)
theorem am_In.putr {n k i o j q : Nat} {h : am_H} (hI : am_In n k i h) (e : am_RC[k]? = some (o, j, q)) (hR : (am_RC.take k).all (fun x => !(Nat.beq x.1 o && Nat.beq x.2.1 j)) = true) : am_In n (k + 1) i (am_sR h o j (some q)) := by
  refine ⟨hI.1, fun x hx => ?_, hI.2.2.1, hI.2.2.2⟩
  rw [List.take_add_one, e] at hx
  rcases List.mem_append.mp hx with hx | hx
  · have h1 := List.all_eq_true.mp hR x hx
    simp only [am_sR, am_rR]
    by_cases c : x.1 = o
    · have c2 : x.2.1 ≠ j := by
        intro c2
        rw [c, c2, Nat.beq_refl, Nat.beq_refl] at h1
        exact absurd h1 (by decide)
      rw [if_pos c, va_up_ne _ _ c2, ← c]
      exact hI.2.1 x hx
    · rw [if_neg c]
      exact hI.2.1 x hx
  · have hx : x = (o, j, q) := by simpa using hx
    subst hx
    simp [am_sR, am_rR, va_up]
theorem am_In.puti {n k i o j : Nat} {x : Int32} {h : am_H} (hI : am_In n k i h) (e : am_IC[i]? = some (o, j, x)) : am_In n k (i + 1) (am_sI h o j x) := by
  refine ⟨hI.1, hI.2.1, fun a b ha => ?_, hI.2.2.2⟩
  rw [List.take_add_one, e]
  show (am_sI h o j x).2.1 a b = am_lk ((am_IC.take i) ++ [(o, j, x)]).reverse a b
  rw [List.reverse_append]
  show _ = am_lk ((o, j, x) :: (am_IC.take i).reverse) a b
  simp only [am_lk, am_sI, am_rI]
  by_cases c1 : a = o
  · subst c1
    by_cases c2 : b = j
    · subst c2
      simp [va_up]
    · have hne : Nat.beq j b = false := by
        cases hb : Nat.beq j b
        · rfl
        · exact absurd (Nat.eq_of_beq_eq_true hb).symm c2
      simp only [hne, Bool.and_false, Bool.false_eq_true, if_false, if_pos, va_up_ne _ _ c2]
      exact hI.2.2.1 a b ha
  · have hne : Nat.beq o a = false := by
      cases hb : Nat.beq o a
      · rfl
      · exact absurd (Nat.eq_of_beq_eq_true hb).symm c1
    simp only [hne, Bool.false_and, Bool.false_eq_true, if_false, if_neg c1]
    exact hI.2.2.1 a b ha
theorem am_In.sh {i : Nat} {h : am_H} (hI : am_In 161 169 i h) (hk : am_lk (am_IC.take i).reverse 75 5 = 1 ∧ am_lk (am_IC.take i).reverse 79 5 = 0) : am_Sh h := by
  have hm : ∀ q ∈ am_RL0, q ∈ am_RC.take 169 := by decide +kernel
  refine ⟨hI.1.trans (by decide +kernel), fun o j q e => ?_, ⟨75, by decide, hI.2.1 (61, 7, 75) (by decide +kernel)⟩, ⟨89, by decide, hI.2.1 (86, 4, 89) (by decide +kernel)⟩, ⟨90, by decide, hI.2.1 (86, 5, 90) (by decide +kernel)⟩, ⟨100, by decide, hI.2.1 (99, 2, 100) (by decide +kernel)⟩, ⟨101, by decide, hI.2.1 (99, 3, 101) (by decide +kernel)⟩, (hI.2.2.1 75 5 (by decide)).trans hk.1, (hI.2.2.1 79 5 (by decide)).trans hk.2⟩
  unfold am_R0 at e
  obtain ⟨x, hx, e2⟩ := Option.map_eq_some_iff.mp e
  have h1 := List.find?_some hx
  have h2 := List.mem_of_find?_eq_some hx
  simp only [Bool.and_eq_true] at h1
  have h3 := hI.2.1 x (hm x h2)
  rw [Nat.eq_of_beq_eq_true h1.1, Nat.eq_of_beq_eq_true h1.2, e2] at h3
  exact h3
section CT
variable {d : Nat} {μ : am_M} {mc ms : Nat} {Q : Option Value → am_H → Prop} {pc : Nat} {ls : List (Nat × Value)} {st : List Value} {h : am_H} {kc nc n k i : Nat}
theorem c_new {c ix : Nat} (hI : am_In n k i h) (e : am_K0[n]? = some (.inl c)) (hA : (am_RC.take k).all (fun q => Nat.blt q.1 n) = true ∧ (am_IC.take i).all (fun q => Nat.blt q.1 n) = true) (hc13 : c < 13) (hw : Cond.classLink μ.1.cls ix (am_C c).1 ∈ lw_g) (hw1 : Cond.instantiable (am_C c).1 (am_C c).2.2 ∈ lw_g) (hw2 : Cond.initialized (am_C c).1 ∈ lw_g) (hft : ∀ j, j < (am_C c).2.2 → am_ft c j ≠ .float ∧ am_ft c j ≠ .double) (hd : decode μ.2.1 pc = .ok (.new ix, 3)) (hkc : kc + 1 ≤ mc) (hkn : nc + (am_C c).2.2 ≤ ms)
    (kk : ∀ h', am_In (n + 1) k i h' → am_G d μ mc ms Q (pc + 3) ls (.ref n :: st) h' (kc + 1) (nc + (am_C c).2.2)) : am_G d μ mc ms Q pc ls st h kc nc := by
  refine g_new hc13 hw hw1 hw2 hft hd hkc hkn ?_
  rw [hI.len e]
  exact kk _ (hI.new e hA.1 hA.2)
theorem c_newa {z : Int32} {N t0 : Nat} {aty : ArrayType} {ty : FieldType} (hI : am_In n k i h) (e : am_K0[n]? = some (.inr (ty, N))) (hA : (am_RC.take k).all (fun q => Nat.blt q.1 n) = true ∧ (am_IC.take i).all (fun q => Nat.blt q.1 n) = true) (hty : newarray.typeOf aty = ty) (ht : am_tl[t0]? = some ty) (hw : Cond.arrayClass ty ∈ lw_g) (hfd : ty ≠ .float ∧ ty ≠ .double) (hi : ¬ z < 0) (hN : z.toNatClampNeg = N) (hb : N * componentBytes ty ≤ 536870912) (hd : decode μ.2.1 pc = .ok (.newarray aty, 2)) (hkc : kc + 1 ≤ mc) (hkn : nc + N ≤ ms)
    (hobj : ∀ C, ty ≠ .object C) (kk : ∀ h', am_In (n + 1) k i h' → am_G d μ mc ms Q (pc + 2) ls (.ref n :: st) h' (kc + 1) (nc + N)) : am_G d μ mc ms Q pc ls (.int z :: st) h kc nc := by
  refine g_newa hty ht hw hfd hi hN hb hd hkc hkn hobj ?_
  rw [hI.len e]
  exact kk _ (hI.new e hA.1 hA.2)
theorem c_newq {z : Int32} {N t0 ix : Nat} {C : String} (hI : am_In n k i h) (e : am_K0[n]? = some (.inr (.object C, N))) (hA : (am_RC.take k).all (fun q => Nat.blt q.1 n) = true ∧ (am_IC.take i).all (fun q => Nat.blt q.1 n) = true) (ht : am_tl[t0]? = some (.object C)) (hw : Cond.classLink μ.1.cls ix C ∈ lw_g) (hC : Cond.arrayOver (.object C) ∈ lw_tbl) (hi : ¬ z < 0) (hN : z.toNatClampNeg = N) (hb : N * 4 ≤ 536870912) (hd : decode μ.2.1 pc = .ok (.anewarray ix, 3)) (hkc : kc + 1 ≤ mc) (hkn : nc + N ≤ ms)
    (kk : ∀ h', am_In (n + 1) k i h' → am_G d μ mc ms Q (pc + 3) ls (.ref n :: st) h' (kc + 1) (nc + N)) : am_G d μ mc ms Q pc ls (.int z :: st) h kc nc := by
  refine g_newq ht hw hC hi hN hb hd hkc hkn ?_
  rw [hI.len e]
  exact kk _ (hI.new e hA.1 hA.2)
theorem c_putr {o c j ix q : Nat} (hI : am_In n k i h) (ho : h.1[o]? = some (.inl c)) (hF : am_F μ.1.cls ix c j) (hd : decode μ.2.1 pc = .ok (.putfield ix, 3)) (hfin : ((am_C c).2.1 j).2.2.2 = false ∨ (((am_C c).2.1 j).2.2.2 = true ∧ μ.1.name = "<init>" ∧ ((am_C c).2.1 j).1 = μ.1.cls)) (ht : am_isR (am_ft c j) = true) (e : am_RC[k]? = some (o, j, q)) (hR : (am_RC.take k).all (fun x => !(Nat.beq x.1 o && Nat.beq x.2.1 j)) = true)
    (kk : ∀ h', am_In n (k + 1) i h' → am_G d μ mc ms Q (pc + 3) ls st h' kc nc) : am_G d μ mc ms Q pc ls (.ref q :: .ref o :: st) h kc nc := g_putr ho hF.1 hF.2 hd hfin ht (kk _ (hI.putr e hR))
theorem c_puti {o c j ix : Nat} {x : Int32} (hI : am_In n k i h) (ho : h.1[o]? = some (.inl c)) (hF : am_F μ.1.cls ix c j) (hd : decode μ.2.1 pc = .ok (.putfield ix, 3)) (hfin : ((am_C c).2.1 j).2.2.2 = false ∨ (((am_C c).2.1 j).2.2.2 = true ∧ μ.1.name = "<init>" ∧ ((am_C c).2.1 j).1 = μ.1.cls)) (ht : am_isI (am_ft c j) = true) (hn : narrow (am_ft c j) (.int x) = .int x) (hf : fits (am_ft c j) (.int x) = true) (e : am_IC[i]? = some (o, j, x))
    (kk : ∀ h', am_In n k (i + 1) h' → am_G d μ mc ms Q (pc + 3) ls st h' kc nc) : am_G d μ mc ms Q pc ls (.int x :: .ref o :: st) h kc nc := g_puti ho hF.1 hF.2 hd hfin ht hn hf (kk _ (hI.puti e))
theorem c_iast {o L : Nat} {z x : Int32} (hI : am_In n k i h) (ho : h.1[o]? = some (.inr (.int, L))) (hin : vp_in z L) (hd : decode μ.2.1 pc = .ok (.iastore, 1)) (e : am_IC[i]? = some (o, z.toNatClampNeg, x))
    (kk : ∀ h', am_In n k (i + 1) h' → am_G d μ mc ms Q (pc + 1) ls st h' kc nc) : am_G d μ mc ms Q pc ls (.int x :: .int z :: .ref o :: st) h kc nc := g_iast ho hin hd (kk _ (hI.puti e))
theorem c_aast {o L t0 q c : Nat} {z : Int32} (hI : am_In n k i h) (ho : h.1[o]? = some (.inr (.object (am_C c).1, L))) (ht : am_tl[t0]? = some (.object (am_C c).1)) (hq : h.1[q]? = some (.inl c)) (hin : vp_in z L) (hd : decode μ.2.1 pc = .ok (.aastore, 1)) (e : am_RC[k]? = some (o, z.toNatClampNeg, q)) (hR : (am_RC.take k).all (fun x => !(Nat.beq x.1 o && Nat.beq x.2.1 z.toNatClampNeg)) = true)
    (kk : ∀ h', am_In n (k + 1) i h' → am_G d μ mc ms Q (pc + 1) ls st h' kc nc) : am_G d μ mc ms Q pc ls (.ref q :: .int z :: .ref o :: st) h kc nc := g_aast ho ht hq hin hd (kk _ (hI.putr e hR))
end CT
