section GY
variable {d : Nat} {μ : am_M} {mc ms : Nat} {Q : Option Value → am_H → Prop} {pc : Nat} {ls : List (Nat × Value)} {st : List Value} {h : am_H} {k n : Nat}
theorem am_nn (z : Int32) (hz : ¬ z < 0) : z.toInt = (z.toNatClampNeg : Int) := by
  have hz0 : (0 : Int) ≤ z.toInt := by
    have := Int32.not_lt.mp hz
    simpa using Int32.le_iff_toInt_le.mp this
  show z.toInt = ((z.toInt.toNat : Nat) : Int)
  omega
/-- System.arraycopy of ints, from one row to another -/
theorem g_copyi {o0 o1 n0 n1 i : Nat} {sp dp z : Int32} (ho0 : h.1[o0]? = some (.inr (.int, n0))) (ho1 : h.1[o1]? = some (.inr (.int, n1))) (h1 : ¬ sp < 0) (h2 : ¬ dp < 0) (h3 : ¬ z < 0) (h4 : sp.toNatClampNeg + z.toNatClampNeg ≤ n0) (h5 : dp.toNatClampNeg + z.toNatClampNeg ≤ n1)
    (hw : Cond.methodLink μ.1.cls i arraycopyName ∈ lw_g) (hw1 : Cond.native arraycopyName ∈ lw_g) (hw2 : Cond.static arraycopyName ∈ lw_g) (hw3 : Cond.initialized "java/lang/System" ∈ lw_g) (hdd : 0 < d) (hcat : (st.map fun v => v.category).sum ≤ 8) (hd : decode μ.2.1 pc = .ok (.invokestatic i, 3))
    (kk : am_G d μ mc ms Q (pc + 3) ls st (am_rI h o1 (va_cpy (h.2.1 o0) (h.2.1 o1) sp.toNatClampNeg dp.toNatClampNeg z.toNatClampNeg)) k n) : am_G d μ mc ms Q pc ls (.int z :: .int dp :: .ref o1 :: .int sp :: .ref o0 :: st) h k n := by
  intro p l e R s m args below meth c H locs arr w hc hk hr hS hl
  intro T hT X
  have hf1 := hc.2.2.2.2.2.2.2.1
  have hf2 := hc.2.2.2.2.2.2.2.2.1
  have hc0 : H[am_B w + o0]? = some (arrV (w.2.1 .int) n0 (fun j => .int (h.2.1 o0 j))) := hr.2.2 o0 _ ho0
  have hc1 : H[am_B w + o1]? = some (arrV (w.2.1 .int) n1 (fun j => .int (h.2.1 o1 j))) := hr.2.2 o1 _ ho1
  obtain ⟨-, k0, hk0, cm0, hkk0⟩ := (am_arrOf hk 0 rfl).1 n0 (fun j => .int (h.2.1 o0 j))
  obtain ⟨-, k1, hk1, cm1, hkk1⟩ := (am_arrOf hk 0 rfl).1 n1 (fun j => .int (h.2.1 o1 j))
  obtain ⟨vm', X', step⟩ := X.arraycopy hc.1 hc.2.2.2.1 (hk.ts hw args) (hk.ts hw1 args) (hk.ts hw2 args) (hk.ts hw3 args) (src := am_B w + o0) (dst := am_B w + o1) (cs := arrV (w.2.1 .int) n0 (fun j => .int (h.2.1 o0 j))) (cd := arrV (w.2.1 .int) n1 (fun j => .int (h.2.1 o1 j))) (srcPos := sp) (destPos := dp) (n := z) (by rw [hT]; exact hc0) (by rw [hT]; exact hc1)
    (fun _ h => by cases h) (fun _ h => by cases h) (fun h => by cases h) (fun h => by cases h) hk0 hk1 hkk0 hkk1 (by simp [refKind]) h1 h2 h3
    (by rw [am_nn sp h1, am_nn z h3, arrV_size]; omega)
    (by rw [am_nn dp h2, am_nn z h3, arrV_size]; omega)
    (fun vm₁ _ i hi => by
      have e : (arrV (w.2.1 .int) n0 (fun j => .int (h.2.1 o0 j))).slots.getD (sp.toNatClampNeg + i) .null = .int (h.2.1 o0 (sp.toNatClampNeg + i)) := by
        rw [Array.getD_eq_getD_getElem?, arrV_read _ _ (by omega)]
        rfl
      refine ⟨?_, ?_⟩
      · rw [e]
        rfl
      · rw [e]
        exact trivial)
    (g := F0 m pc arr ((.int z :: .int dp :: .ref o1 :: .int sp :: .ref o0 :: st).map (am_cv w))) rfl (by rw [hc.2.2.1]; exact hl.1) (rest := st.map (am_cv w)) rfl (by rw [hc.2.1]; exact hd) (by omega) (by show 2 * 0 + _ + (7 + 11) ≤ _; rw [am_sum]; omega)
  have e1 : copied (arrV (w.2.1 .int) n0 (fun j => .int (h.2.1 o0 j))) (arrV (w.2.1 .int) n1 (fun j => .int (h.2.1 o1 j))) sp dp z = arrV (w.2.1 .int) n1 (fun j => .int (va_cpy (h.2.1 o0) (h.2.1 o1) sp.toNatClampNeg dp.toNatClampNeg z.toNatClampNeg j)) := va_copied (fun z => .int z) _ _ _ _ h4
  rw [e1] at X' step
  have hlz : am_B w + o1 < H.size := (Array.getElem?_eq_some_iff.mp hc1).1
  have oq : ∀ q : Nat, q ≠ am_B w + o1 → (H.setIfInBounds (am_B w + o1) (arrV (w.2.1 .int) n1 (fun j => .int (va_cpy (h.2.1 o0) (h.2.1 o1) sp.toNatClampNeg dp.toNatClampNeg z.toNatClampNeg j))))[q]? = H[q]? := fun q hq => by simp [Array.getElem?_setIfInBounds, Ne.symm hq]
  have hrel : am_rel w (am_rI h o1 (va_cpy (h.2.1 o0) (h.2.1 o1) sp.toNatClampNeg dp.toNatClampNeg z.toNatClampNeg)) (H.setIfInBounds (am_B w + o1) (arrV (w.2.1 .int) n1 (fun j => .int (va_cpy (h.2.1 o0) (h.2.1 o1) sp.toNatClampNeg dp.toNatClampNeg z.toNatClampNeg j)))) := by
    refine am_rel_set hr ho1 rfl (fun a ha => ⟨by simp [am_rI, ha], rfl, rfl⟩) ?_ (by simp) oq
    show (H.setIfInBounds (am_B w + o1) _)[am_B w + o1]? = _
    rw [Array.getElem?_setIfInBounds]
    simp only [if_pos, hlz]
    congr 2
    funext j
    simp [am_v, am_v0, am_rI, am_cv]
  obtain ⟨t, a1, b1⟩ := kk p l e R s m args below meth c _ _ arr w hc hk hrel (fun q hq => by
      rcases List.mem_append.mp hq with h | h
      · exact hS q h
      · obtain ⟨y, -, hy⟩ := List.mem_map.mp h
        rw [← hy]
        exact Nat.le_add_right _ _) hl _ (by rw [← hT]; rfl) X'
  exact ⟨t, step t a1, b1⟩
end GY
