def am_ins (i : Nat) (v : Value) : List (Nat × Value) → List (Nat × Value)
  | [] => [(i, v)]
  | q :: r => if i < q.1 then (i, v) :: q :: r else if i = q.1 then (i, v) :: r else if q.1 + 1 = i ∧ q.2.category = 2 then am_ins i v r else q :: am_ins i v r
theorem am_ins_mem {i : Nat} {v : Value} : ∀ (l : List (Nat × Value)) (q : Nat × Value), (l.map (·.1)).Pairwise (· < ·) → q ∈ am_ins i v l → q = (i, v) ∨ (q ∈ l ∧ q.1 ≠ i ∧ ¬ (q.1 + 1 = i ∧ q.2.category = 2))
  | [], q, _, h => by
    simp only [am_ins, List.mem_singleton] at h
    exact Or.inl h
  | x :: r, q, hp, h => by
    have hp1 : ∀ y ∈ r, x.1 < y.1 := fun y hy => (List.pairwise_cons.mp hp).1 _ (List.mem_map.mpr ⟨y, hy, rfl⟩)
    have hp2 := (List.pairwise_cons.mp hp).2
    unfold am_ins at h
    split at h
    · rename_i h1
      rcases List.mem_cons.mp h with h | h
      · exact Or.inl h
      · have hq : i < q.1 := by
          rcases List.mem_cons.mp h with h | h
          · rw [h]; exact h1
          · exact Nat.lt_trans h1 (hp1 q h)
        exact Or.inr ⟨h, by omega, by omega⟩
    · split at h
      · rename_i h1 h2
        rcases List.mem_cons.mp h with h | h
        · exact Or.inl h
        · have := hp1 q h
          exact Or.inr ⟨List.mem_cons_of_mem _ h, by omega, by omega⟩
      · split at h
        · rcases am_ins_mem r q hp2 h with h | ⟨h, h2, h3⟩
          · exact Or.inl h
          · exact Or.inr ⟨List.mem_cons_of_mem _ h, h2, h3⟩
        · rename_i h1 h2 h3
          rcases List.mem_cons.mp h with h | h
          · subst h
            exact Or.inr ⟨List.mem_cons_self, fun e => h2 e.symm, h3⟩
          · rcases am_ins_mem r q hp2 h with h | ⟨h, h4, h5⟩
            · exact Or.inl h
            · exact Or.inr ⟨List.mem_cons_of_mem _ h, h4, h5⟩
def am_srt : List (Nat × Value) → Bool
  | [] => true
  | [_] => true
  | x :: y :: r => Nat.blt x.1 y.1 && am_srt (y :: r)
theorem am_srt_pw : ∀ (l : List (Nat × Value)), am_srt l = true → (l.map (·.1)).Pairwise (· < ·)
  | [], _ => List.Pairwise.nil
  | [x], _ => by simp
  | x :: y :: r, h => by
    simp only [am_srt, Bool.and_eq_true] at h
    have h1 : x.1 < y.1 := Nat.lt_of_lt_of_le (Nat.lt_succ_self _) (Nat.le_of_ble_eq_true h.1)
    have h2 := am_srt_pw (y :: r) h.2
    refine List.pairwise_cons.mpr ⟨fun z hz => ?_, h2⟩
    rcases List.mem_cons.mp hz with e | e
    · rw [e]; exact h1
    · exact Nat.lt_trans h1 ((List.pairwise_cons.mp h2).1 z e)
theorem g_iadd {d : Nat} {μ : am_M} {mc ms : Nat} {Q : Option Value → am_H → Prop} {pc : Nat} {ls : List (Nat × Value)} {st : List Value} {h : am_H} {k n : Nat} {x y : Int32} (hd : decode μ.2.1 pc = .ok (.iadd, 1))  (kk : am_G d μ mc ms Q (pc + 1) ls (.int (x + y) :: st) h k n) : am_G d μ mc ms Q pc ls (.int y :: .int x :: st) h k n := by
  intro p l e R s m args below meth c H locs arr w hc hk hr hS hl
  exact lv_iadd hc.1 hc.2.1 hd  (kk _ _ _ _ _ _ _ _ _ _ _ _ _ w hc hk hr hS hl)
theorem g_isub {d : Nat} {μ : am_M} {mc ms : Nat} {Q : Option Value → am_H → Prop} {pc : Nat} {ls : List (Nat × Value)} {st : List Value} {h : am_H} {k n : Nat} {x y : Int32} (hd : decode μ.2.1 pc = .ok (.isub, 1))  (kk : am_G d μ mc ms Q (pc + 1) ls (.int (x - y) :: st) h k n) : am_G d μ mc ms Q pc ls (.int y :: .int x :: st) h k n := by
  intro p l e R s m args below meth c H locs arr w hc hk hr hS hl
  exact lv_isub hc.1 hc.2.1 hd  (kk _ _ _ _ _ _ _ _ _ _ _ _ _ w hc hk hr hS hl)
theorem g_imul {d : Nat} {μ : am_M} {mc ms : Nat} {Q : Option Value → am_H → Prop} {pc : Nat} {ls : List (Nat × Value)} {st : List Value} {h : am_H} {k n : Nat} {x y : Int32} (hd : decode μ.2.1 pc = .ok (.imul, 1))  (kk : am_G d μ mc ms Q (pc + 1) ls (.int (x * y) :: st) h k n) : am_G d μ mc ms Q pc ls (.int y :: .int x :: st) h k n := by
  intro p l e R s m args below meth c H locs arr w hc hk hr hS hl
  exact lv_imul hc.1 hc.2.1 hd  (kk _ _ _ _ _ _ _ _ _ _ _ _ _ w hc hk hr hS hl)
theorem g_iand {d : Nat} {μ : am_M} {mc ms : Nat} {Q : Option Value → am_H → Prop} {pc : Nat} {ls : List (Nat × Value)} {st : List Value} {h : am_H} {k n : Nat} {x y : Int32} (hd : decode μ.2.1 pc = .ok (.iand, 1))  (kk : am_G d μ mc ms Q (pc + 1) ls (.int (x &&& y) :: st) h k n) : am_G d μ mc ms Q pc ls (.int y :: .int x :: st) h k n := by
  intro p l e R s m args below meth c H locs arr w hc hk hr hS hl
  exact lv_iand hc.1 hc.2.1 hd  (kk _ _ _ _ _ _ _ _ _ _ _ _ _ w hc hk hr hS hl)
theorem g_ior {d : Nat} {μ : am_M} {mc ms : Nat} {Q : Option Value → am_H → Prop} {pc : Nat} {ls : List (Nat × Value)} {st : List Value} {h : am_H} {k n : Nat} {x y : Int32} (hd : decode μ.2.1 pc = .ok (.ior, 1))  (kk : am_G d μ mc ms Q (pc + 1) ls (.int (x ||| y) :: st) h k n) : am_G d μ mc ms Q pc ls (.int y :: .int x :: st) h k n := by
  intro p l e R s m args below meth c H locs arr w hc hk hr hS hl
  exact lv_ior hc.1 hc.2.1 hd  (kk _ _ _ _ _ _ _ _ _ _ _ _ _ w hc hk hr hS hl)
theorem g_ixor {d : Nat} {μ : am_M} {mc ms : Nat} {Q : Option Value → am_H → Prop} {pc : Nat} {ls : List (Nat × Value)} {st : List Value} {h : am_H} {k n : Nat} {x y : Int32} (hd : decode μ.2.1 pc = .ok (.ixor, 1))  (kk : am_G d μ mc ms Q (pc + 1) ls (.int (x ^^^ y) :: st) h k n) : am_G d μ mc ms Q pc ls (.int y :: .int x :: st) h k n := by
  intro p l e R s m args below meth c H locs arr w hc hk hr hS hl
  exact lv_ixor hc.1 hc.2.1 hd  (kk _ _ _ _ _ _ _ _ _ _ _ _ _ w hc hk hr hS hl)
theorem g_ishl {d : Nat} {μ : am_M} {mc ms : Nat} {Q : Option Value → am_H → Prop} {pc : Nat} {ls : List (Nat × Value)} {st : List Value} {h : am_H} {k n : Nat} {x y : Int32} (hd : decode μ.2.1 pc = .ok (.ishl, 1))  (kk : am_G d μ mc ms Q (pc + 1) ls (.int (x <<< (y &&& 31)) :: st) h k n) : am_G d μ mc ms Q pc ls (.int y :: .int x :: st) h k n := by
  intro p l e R s m args below meth c H locs arr w hc hk hr hS hl
  exact lv_ishl hc.1 hc.2.1 hd  (kk _ _ _ _ _ _ _ _ _ _ _ _ _ w hc hk hr hS hl)
theorem g_ishr {d : Nat} {μ : am_M} {mc ms : Nat} {Q : Option Value → am_H → Prop} {pc : Nat} {ls : List (Nat × Value)} {st : List Value} {h : am_H} {k n : Nat} {x y : Int32} (hd : decode μ.2.1 pc = .ok (.ishr, 1))  (kk : am_G d μ mc ms Q (pc + 1) ls (.int (x >>> (y &&& 31)) :: st) h k n) : am_G d μ mc ms Q pc ls (.int y :: .int x :: st) h k n := by
  intro p l e R s m args below meth c H locs arr w hc hk hr hS hl
  exact lv_ishr hc.1 hc.2.1 hd  (kk _ _ _ _ _ _ _ _ _ _ _ _ _ w hc hk hr hS hl)
theorem g_idiv {d : Nat} {μ : am_M} {mc ms : Nat} {Q : Option Value → am_H → Prop} {pc : Nat} {ls : List (Nat × Value)} {st : List Value} {h : am_H} {k n : Nat} {x y : Int32} (hd : decode μ.2.1 pc = .ok (.idiv, 1)) (hne : ¬ y = 0) (kk : am_G d μ mc ms Q (pc + 1) ls (.int (x / y) :: st) h k n) : am_G d μ mc ms Q pc ls (.int y :: .int x :: st) h k n := by
  intro p l e R s m args below meth c H locs arr w hc hk hr hS hl
  exact lv_idiv hc.1 hc.2.1 hd hne (kk _ _ _ _ _ _ _ _ _ _ _ _ _ w hc hk hr hS hl)
theorem g_irem {d : Nat} {μ : am_M} {mc ms : Nat} {Q : Option Value → am_H → Prop} {pc : Nat} {ls : List (Nat × Value)} {st : List Value} {h : am_H} {k n : Nat} {x y : Int32} (hd : decode μ.2.1 pc = .ok (.irem, 1)) (hne : ¬ y = 0) (kk : am_G d μ mc ms Q (pc + 1) ls (.int (x - x / y * y) :: st) h k n) : am_G d μ mc ms Q pc ls (.int y :: .int x :: st) h k n := by
  intro p l e R s m args below meth c H locs arr w hc hk hr hS hl
  exact lv_irem hc.1 hc.2.1 hd hne (kk _ _ _ _ _ _ _ _ _ _ _ _ _ w hc hk hr hS hl)
theorem g_ladd {d : Nat} {μ : am_M} {mc ms : Nat} {Q : Option Value → am_H → Prop} {pc : Nat} {ls : List (Nat × Value)} {st : List Value} {h : am_H} {k n : Nat} {x y : Int64} (hd : decode μ.2.1 pc = .ok (.ladd, 1))  (kk : am_G d μ mc ms Q (pc + 1) ls (.long (x + y) :: st) h k n) : am_G d μ mc ms Q pc ls (.long y :: .long x :: st) h k n := by
  intro p l e R s m args below meth c H locs arr w hc hk hr hS hl
  exact lv_ladd hc.1 hc.2.1 hd  (kk _ _ _ _ _ _ _ _ _ _ _ _ _ w hc hk hr hS hl)
theorem g_lsub {d : Nat} {μ : am_M} {mc ms : Nat} {Q : Option Value → am_H → Prop} {pc : Nat} {ls : List (Nat × Value)} {st : List Value} {h : am_H} {k n : Nat} {x y : Int64} (hd : decode μ.2.1 pc = .ok (.lsub, 1))  (kk : am_G d μ mc ms Q (pc + 1) ls (.long (x - y) :: st) h k n) : am_G d μ mc ms Q pc ls (.long y :: .long x :: st) h k n := by
  intro p l e R s m args below meth c H locs arr w hc hk hr hS hl
  exact lv_lsub hc.1 hc.2.1 hd  (kk _ _ _ _ _ _ _ _ _ _ _ _ _ w hc hk hr hS hl)
theorem g_lmul {d : Nat} {μ : am_M} {mc ms : Nat} {Q : Option Value → am_H → Prop} {pc : Nat} {ls : List (Nat × Value)} {st : List Value} {h : am_H} {k n : Nat} {x y : Int64} (hd : decode μ.2.1 pc = .ok (.lmul, 1))  (kk : am_G d μ mc ms Q (pc + 1) ls (.long (x * y) :: st) h k n) : am_G d μ mc ms Q pc ls (.long y :: .long x :: st) h k n := by
  intro p l e R s m args below meth c H locs arr w hc hk hr hS hl
  exact lv_lmul hc.1 hc.2.1 hd  (kk _ _ _ _ _ _ _ _ _ _ _ _ _ w hc hk hr hS hl)
theorem g_land {d : Nat} {μ : am_M} {mc ms : Nat} {Q : Option Value → am_H → Prop} {pc : Nat} {ls : List (Nat × Value)} {st : List Value} {h : am_H} {k n : Nat} {x y : Int64} (hd : decode μ.2.1 pc = .ok (.land, 1))  (kk : am_G d μ mc ms Q (pc + 1) ls (.long (x &&& y) :: st) h k n) : am_G d μ mc ms Q pc ls (.long y :: .long x :: st) h k n := by
  intro p l e R s m args below meth c H locs arr w hc hk hr hS hl
  exact lv_land hc.1 hc.2.1 hd  (kk _ _ _ _ _ _ _ _ _ _ _ _ _ w hc hk hr hS hl)
theorem g_lor {d : Nat} {μ : am_M} {mc ms : Nat} {Q : Option Value → am_H → Prop} {pc : Nat} {ls : List (Nat × Value)} {st : List Value} {h : am_H} {k n : Nat} {x y : Int64} (hd : decode μ.2.1 pc = .ok (.lor, 1))  (kk : am_G d μ mc ms Q (pc + 1) ls (.long (x ||| y) :: st) h k n) : am_G d μ mc ms Q pc ls (.long y :: .long x :: st) h k n := by
  intro p l e R s m args below meth c H locs arr w hc hk hr hS hl
  exact lv_lor hc.1 hc.2.1 hd  (kk _ _ _ _ _ _ _ _ _ _ _ _ _ w hc hk hr hS hl)
theorem g_ldiv {d : Nat} {μ : am_M} {mc ms : Nat} {Q : Option Value → am_H → Prop} {pc : Nat} {ls : List (Nat × Value)} {st : List Value} {h : am_H} {k n : Nat} {x y : Int64} (hd : decode μ.2.1 pc = .ok (.ldiv, 1)) (hne : ¬ y = 0) (kk : am_G d μ mc ms Q (pc + 1) ls (.long (x / y) :: st) h k n) : am_G d μ mc ms Q pc ls (.long y :: .long x :: st) h k n := by
  intro p l e R s m args below meth c H locs arr w hc hk hr hS hl
  exact lv_ldiv hc.1 hc.2.1 hd hne (kk _ _ _ _ _ _ _ _ _ _ _ _ _ w hc hk hr hS hl)
theorem g_lrem {d : Nat} {μ : am_M} {mc ms : Nat} {Q : Option Value → am_H → Prop} {pc : Nat} {ls : List (Nat × Value)} {st : List Value} {h : am_H} {k n : Nat} {x y : Int64} (hd : decode μ.2.1 pc = .ok (.lrem, 1)) (hne : ¬ y = 0) (kk : am_G d μ mc ms Q (pc + 1) ls (.long (x - x / y * y) :: st) h k n) : am_G d μ mc ms Q pc ls (.long y :: .long x :: st) h k n := by
  intro p l e R s m args below meth c H locs arr w hc hk hr hS hl
  exact lv_lrem hc.1 hc.2.1 hd hne (kk _ _ _ _ _ _ _ _ _ _ _ _ _ w hc hk hr hS hl)
theorem g_iushr {d : Nat} {μ : am_M} {mc ms : Nat} {Q : Option Value → am_H → Prop} {pc : Nat} {ls : List (Nat × Value)} {st : List Value} {h : am_H} {k n : Nat} {x y : Int32} (hd : decode μ.2.1 pc = .ok (.iushr, 1))  (kk : am_G d μ mc ms Q (pc + 1) ls (.int ((x.toUInt32 >>> (y.toUInt32 &&& Int32.toUInt32 31)).toInt32) :: st) h k n) : am_G d μ mc ms Q pc ls (.int y :: .int x :: st) h k n := by
  intro p l e R s m args below meth c H locs arr w hc hk hr hS hl
  exact lv_iushr hc.1 hc.2.1 hd rfl (kk _ _ _ _ _ _ _ _ _ _ _ _ _ w hc hk hr hS hl)
theorem g_lshl {d : Nat} {μ : am_M} {mc ms : Nat} {Q : Option Value → am_H → Prop} {pc : Nat} {ls : List (Nat × Value)} {st : List Value} {h : am_H} {k n : Nat} {x : Int64} {y : Int32} (hd : decode μ.2.1 pc = .ok (.lshl, 1))  (kk : am_G d μ mc ms Q (pc + 1) ls (.long (x <<< (y.toInt64 &&& 63)) :: st) h k n) : am_G d μ mc ms Q pc ls (.int y :: .long x :: st) h k n := by
  intro p l e R s m args below meth c H locs arr w hc hk hr hS hl
  exact lv_lshl hc.1 hc.2.1 hd rfl (kk _ _ _ _ _ _ _ _ _ _ _ _ _ w hc hk hr hS hl)
theorem g_lshr {d : Nat} {μ : am_M} {mc ms : Nat} {Q : Option Value → am_H → Prop} {pc : Nat} {ls : List (Nat × Value)} {st : List Value} {h : am_H} {k n : Nat} {x : Int64} {y : Int32} (hd : decode μ.2.1 pc = .ok (.lshr, 1))  (kk : am_G d μ mc ms Q (pc + 1) ls (.long (x >>> (y.toInt64 &&& 63)) :: st) h k n) : am_G d μ mc ms Q pc ls (.int y :: .long x :: st) h k n := by
  intro p l e R s m args below meth c H locs arr w hc hk hr hS hl
  exact lv_lshr hc.1 hc.2.1 hd rfl (kk _ _ _ _ _ _ _ _ _ _ _ _ _ w hc hk hr hS hl)
theorem g_i2l {d : Nat} {μ : am_M} {mc ms : Nat} {Q : Option Value → am_H → Prop} {pc : Nat} {ls : List (Nat × Value)} {st : List Value} {h : am_H} {k n : Nat} {x : Int32} (hd : decode μ.2.1 pc = .ok (.i2l, 1))  (kk : am_G d μ mc ms Q (pc + 1) ls (.long x.toInt64 :: st) h k n) : am_G d μ mc ms Q pc ls (.int x :: st) h k n := by
  intro p l e R s m args below meth c H locs arr w hc hk hr hS hl
  exact lv_i2l hc.1 hc.2.1 hd rfl (kk _ _ _ _ _ _ _ _ _ _ _ _ _ w hc hk hr hS hl)
theorem g_l2i {d : Nat} {μ : am_M} {mc ms : Nat} {Q : Option Value → am_H → Prop} {pc : Nat} {ls : List (Nat × Value)} {st : List Value} {h : am_H} {k n : Nat} {x : Int64} (hd : decode μ.2.1 pc = .ok (.l2i, 1))  (kk : am_G d μ mc ms Q (pc + 1) ls (.int x.toInt32 :: st) h k n) : am_G d μ mc ms Q pc ls (.long x :: st) h k n := by
  intro p l e R s m args below meth c H locs arr w hc hk hr hS hl
  exact lv_l2i hc.1 hc.2.1 hd rfl (kk _ _ _ _ _ _ _ _ _ _ _ _ _ w hc hk hr hS hl)
theorem g_i2b {d : Nat} {μ : am_M} {mc ms : Nat} {Q : Option Value → am_H → Prop} {pc : Nat} {ls : List (Nat × Value)} {st : List Value} {h : am_H} {k n : Nat} {x : Int32} (hd : decode μ.2.1 pc = .ok (.i2b, 1))  (kk : am_G d μ mc ms Q (pc + 1) ls (.int x.toInt8.toInt32 :: st) h k n) : am_G d μ mc ms Q pc ls (.int x :: st) h k n := by
  intro p l e R s m args below meth c H locs arr w hc hk hr hS hl
  exact lv_i2b hc.1 hc.2.1 hd rfl (kk _ _ _ _ _ _ _ _ _ _ _ _ _ w hc hk hr hS hl)
theorem g_i2s {d : Nat} {μ : am_M} {mc ms : Nat} {Q : Option Value → am_H → Prop} {pc : Nat} {ls : List (Nat × Value)} {st : List Value} {h : am_H} {k n : Nat} {x : Int32} (hd : decode μ.2.1 pc = .ok (.i2s, 1))  (kk : am_G d μ mc ms Q (pc + 1) ls (.int x.toInt16.toInt32 :: st) h k n) : am_G d μ mc ms Q pc ls (.int x :: st) h k n := by
  intro p l e R s m args below meth c H locs arr w hc hk hr hS hl
  exact lv_i2s hc.1 hc.2.1 hd rfl (kk _ _ _ _ _ _ _ _ _ _ _ _ _ w hc hk hr hS hl)
theorem g_i2c {d : Nat} {μ : am_M} {mc ms : Nat} {Q : Option Value → am_H → Prop} {pc : Nat} {ls : List (Nat × Value)} {st : List Value} {h : am_H} {k n : Nat} {x : Int32} (hd : decode μ.2.1 pc = .ok (.i2c, 1))  (kk : am_G d μ mc ms Q (pc + 1) ls (.int (x.toUInt32 % 65536).toInt32 :: st) h k n) : am_G d μ mc ms Q pc ls (.int x :: st) h k n := by
  intro p l e R s m args below meth c H locs arr w hc hk hr hS hl
  exact lv_i2c hc.1 hc.2.1 hd rfl (kk _ _ _ _ _ _ _ _ _ _ _ _ _ w hc hk hr hS hl)
theorem g_lcmp {d : Nat} {μ : am_M} {mc ms : Nat} {Q : Option Value → am_H → Prop} {pc : Nat} {ls : List (Nat × Value)} {st : List Value} {h : am_H} {k n : Nat} {x y : Int64} (hd : decode μ.2.1 pc = .ok (.lcmp, 1)) (kk : am_G d μ mc ms Q (pc + 1) ls (.int (lg_cmp x y) :: st) h k n) : am_G d μ mc ms Q pc ls (.long y :: .long x :: st) h k n := by
  intro p l e R s m args below meth c H locs arr w hc hk hr hS hl
  exact W.lcmp hc.1 hc.2.1 hd (kk _ _ _ _ _ _ _ _ _ _ _ _ _ w hc hk hr hS hl)
theorem g_iconst {d : Nat} {μ : am_M} {mc ms : Nat} {Q : Option Value → am_H → Prop} {pc : Nat} {ls : List (Nat × Value)} {st : List Value} {h : am_H} {k n : Nat} {z : Int} {v : Int32} (hd : decode μ.2.1 pc = .ok (.iconst z, 1)) (hv : Int32.ofInt z = v) (kk : am_G d μ mc ms Q (pc + 1) ls (.int v :: st) h k n) : am_G d μ mc ms Q pc ls st h k n := by
  intro p l e R s m args below meth c H locs arr w hc hk hr hS hl
  exact lv_iconst hc.1 hc.2.1 hd hv (kk _ _ _ _ _ _ _ _ _ _ _ _ _ w hc hk hr hS hl)
theorem g_bipush {d : Nat} {μ : am_M} {mc ms : Nat} {Q : Option Value → am_H → Prop} {pc : Nat} {ls : List (Nat × Value)} {st : List Value} {h : am_H} {k n : Nat} {z : Int} {v : Int32} (hd : decode μ.2.1 pc = .ok (.bipush z, 2)) (hv : (Int8.ofInt z).toInt32 = v) (kk : am_G d μ mc ms Q (pc + 2) ls (.int v :: st) h k n) : am_G d μ mc ms Q pc ls st h k n := by
  intro p l e R s m args below meth c H locs arr w hc hk hr hS hl
  exact lv_bipush hc.1 hc.2.1 hd hv (kk _ _ _ _ _ _ _ _ _ _ _ _ _ w hc hk hr hS hl)
theorem g_sipush {d : Nat} {μ : am_M} {mc ms : Nat} {Q : Option Value → am_H → Prop} {pc : Nat} {ls : List (Nat × Value)} {st : List Value} {h : am_H} {k n : Nat} {z : Int} {v : Int32} (hd : decode μ.2.1 pc = .ok (.sipush z, 3)) (hv : (Int16.ofInt z).toInt32 = v) (kk : am_G d μ mc ms Q (pc + 3) ls (.int v :: st) h k n) : am_G d μ mc ms Q pc ls st h k n := by
  intro p l e R s m args below meth c H locs arr w hc hk hr hS hl
  exact lv_sipush hc.1 hc.2.1 hd hv (kk _ _ _ _ _ _ _ _ _ _ _ _ _ w hc hk hr hS hl)
theorem g_lconst {d : Nat} {μ : am_M} {mc ms : Nat} {Q : Option Value → am_H → Prop} {pc : Nat} {ls : List (Nat × Value)} {st : List Value} {h : am_H} {k n : Nat} {z : Fin 2} {v : Int64} (hd : decode μ.2.1 pc = .ok (.lconst z, 1)) (hv : Int64.ofNat (z : Nat) = v) (kk : am_G d μ mc ms Q (pc + 1) ls (.long v :: st) h k n) : am_G d μ mc ms Q pc ls st h k n := by
  intro p l e R s m args below meth c H locs arr w hc hk hr hS hl
  exact lv_lconst hc.1 hc.2.1 hd hv (kk _ _ _ _ _ _ _ _ _ _ _ _ _ w hc hk hr hS hl)
theorem g_null {d : Nat} {μ : am_M} {mc ms : Nat} {Q : Option Value → am_H → Prop} {pc : Nat} {ls : List (Nat × Value)} {st : List Value} {h : am_H} {k n : Nat}  (hd : decode μ.2.1 pc = .ok (.aconst_null, 1))  (kk : am_G d μ mc ms Q (pc + 1) ls (.null :: st) h k n) : am_G d μ mc ms Q pc ls st h k n := by
  intro p l e R s m args below meth c H locs arr w hc hk hr hS hl
  exact lv_null hc.1 hc.2.1 hd  (kk _ _ _ _ _ _ _ _ _ _ _ _ _ w hc hk hr hS hl)
theorem g_dup {d : Nat} {μ : am_M} {mc ms : Nat} {Q : Option Value → am_H → Prop} {pc : Nat} {ls : List (Nat × Value)} {st : List Value} {h : am_H} {k n : Nat} {v : Value} (hd : decode μ.2.1 pc = .ok (.dup, 1)) (hv : v.category = 1) (kk : am_G d μ mc ms Q (pc + 1) ls (v :: v :: st) h k n) : am_G d μ mc ms Q pc ls (v :: st) h k n := by
  intro p l e R s m args below meth c H locs arr w hc hk hr hS hl
  exact lv_dup hc.1 hc.2.1 hd (by rw [am_cat]; exact hv) (kk _ _ _ _ _ _ _ _ _ _ _ _ _ w hc hk hr hS hl)
theorem g_pop {d : Nat} {μ : am_M} {mc ms : Nat} {Q : Option Value → am_H → Prop} {pc : Nat} {ls : List (Nat × Value)} {st : List Value} {h : am_H} {k n : Nat} {v : Value} (hd : decode μ.2.1 pc = .ok (.pop, 1)) (hv : v.category = 1) (kk : am_G d μ mc ms Q (pc + 1) ls st h k n) : am_G d μ mc ms Q pc ls (v :: st) h k n := by
  intro p l e R s m args below meth c H locs arr w hc hk hr hS hl
  exact lv_pop hc.1 hc.2.1 hd (by rw [am_cat]; exact hv) (kk _ _ _ _ _ _ _ _ _ _ _ _ _ w hc hk hr hS hl)
theorem g_dup_x1 {d : Nat} {μ : am_M} {mc ms : Nat} {Q : Option Value → am_H → Prop} {pc : Nat} {ls : List (Nat × Value)} {st : List Value} {h : am_H} {k n : Nat} {v u : Value} (hd : decode μ.2.1 pc = .ok (.dup_x1, 1)) (hv : v.category = 1) (hu : u.category = 1) (kk : am_G d μ mc ms Q (pc + 1) ls (v :: u :: v :: st) h k n) : am_G d μ mc ms Q pc ls (v :: u :: st) h k n := by
  intro p l e R s m args below meth c H locs arr w hc hk hr hS hl
  exact lv_dup_x1 hc.1 hc.2.1 hd (by rw [am_cat]; exact hv) (by rw [am_cat]; exact hu) (kk _ _ _ _ _ _ _ _ _ _ _ _ _ w hc hk hr hS hl)
theorem g_dup2_11 {d : Nat} {μ : am_M} {mc ms : Nat} {Q : Option Value → am_H → Prop} {pc : Nat} {ls : List (Nat × Value)} {st : List Value} {h : am_H} {k n : Nat} {v u : Value} (hd : decode μ.2.1 pc = .ok (.dup2, 1)) (hv : v.category = 1) (hu : u.category = 1) (kk : am_G d μ mc ms Q (pc + 1) ls (v :: u :: v :: u :: st) h k n) : am_G d μ mc ms Q pc ls (v :: u :: st) h k n := by
  intro p l e R s m args below meth c H locs arr w hc hk hr hS hl
  exact lv_dup2_11 hc.1 hc.2.1 hd (by rw [am_cat]; exact hv) (by rw [am_cat]; exact hu) (kk _ _ _ _ _ _ _ _ _ _ _ _ _ w hc hk hr hS hl)
theorem g_pop2_11 {d : Nat} {μ : am_M} {mc ms : Nat} {Q : Option Value → am_H → Prop} {pc : Nat} {ls : List (Nat × Value)} {st : List Value} {h : am_H} {k n : Nat} {v u : Value} (hd : decode μ.2.1 pc = .ok (.pop2, 1)) (hv : v.category = 1) (hu : u.category = 1) (kk : am_G d μ mc ms Q (pc + 1) ls st h k n) : am_G d μ mc ms Q pc ls (v :: u :: st) h k n := by
  intro p l e R s m args below meth c H locs arr w hc hk hr hS hl
  exact lv_pop2_11 hc.1 hc.2.1 hd (by rw [am_cat]; exact hv) (by rw [am_cat]; exact hu) (kk _ _ _ _ _ _ _ _ _ _ _ _ _ w hc hk hr hS hl)
theorem g_dup2_2 {d : Nat} {μ : am_M} {mc ms : Nat} {Q : Option Value → am_H → Prop} {pc : Nat} {ls : List (Nat × Value)} {st : List Value} {h : am_H} {k n : Nat} {v : Value} (hd : decode μ.2.1 pc = .ok (.dup2, 1)) (hv : v.category = 2) (kk : am_G d μ mc ms Q (pc + 1) ls (v :: v :: st) h k n) : am_G d μ mc ms Q pc ls (v :: st) h k n := by
  intro p l e R s m args below meth c H locs arr w hc hk hr hS hl
  exact lv_dup2_2 hc.1 hc.2.1 hd (by rw [am_cat]; exact hv) (kk _ _ _ _ _ _ _ _ _ _ _ _ _ w hc hk hr hS hl)
theorem g_pop2_2 {d : Nat} {μ : am_M} {mc ms : Nat} {Q : Option Value → am_H → Prop} {pc : Nat} {ls : List (Nat × Value)} {st : List Value} {h : am_H} {k n : Nat} {v : Value} (hd : decode μ.2.1 pc = .ok (.pop2, 1)) (hv : v.category = 2) (kk : am_G d μ mc ms Q (pc + 1) ls st h k n) : am_G d μ mc ms Q pc ls (v :: st) h k n := by
  intro p l e R s m args below meth c H locs arr w hc hk hr hS hl
  exact lv_pop2_2 hc.1 hc.2.1 hd (by rw [am_cat]; exact hv) (kk _ _ _ _ _ _ _ _ _ _ _ _ _ w hc hk hr hS hl)
theorem g_ldc {d : Nat} {μ : am_M} {mc ms : Nat} {Q : Option Value → am_H → Prop} {pc : Nat} {ls : List (Nat × Value)} {st : List Value} {h : am_H} {k n : Nat} {v : Int32} {i : Nat} (hd : decode μ.2.1 pc = .ok (.ldc i, 2)) (hw : Cond.constant μ.1.cls i v ∈ lw_g) (kk : am_G d μ mc ms Q (pc + 2) ls (.int v :: st) h k n) : am_G d μ mc ms Q pc ls st h k n := by
  intro p l e R s m args below meth c H locs arr w hc hk hr hS hl
  exact lv_ldc hc.1 hc.2.1 hc.2.2.2.1 (hk.ts hw args) hd (kk _ _ _ _ _ _ _ _ _ _ _ _ _ w hc hk hr hS hl)
theorem g_ldcw {d : Nat} {μ : am_M} {mc ms : Nat} {Q : Option Value → am_H → Prop} {pc : Nat} {ls : List (Nat × Value)} {st : List Value} {h : am_H} {k n : Nat} {v : Int32} {i : Nat} (hd : decode μ.2.1 pc = .ok (.ldc_w i, 3)) (hw : Cond.constant μ.1.cls i v ∈ lw_g) (kk : am_G d μ mc ms Q (pc + 3) ls (.int v :: st) h k n) : am_G d μ mc ms Q pc ls st h k n := by
  intro p l e R s m args below meth c H locs arr w hc hk hr hS hl
  exact lv_ldcw hc.1 hc.2.1 hc.2.2.2.1 (hk.ts hw args) hd (kk _ _ _ _ _ _ _ _ _ _ _ _ _ w hc hk hr hS hl)
theorem g_ldc2 {d : Nat} {μ : am_M} {mc ms : Nat} {Q : Option Value → am_H → Prop} {pc : Nat} {ls : List (Nat × Value)} {st : List Value} {h : am_H} {k n : Nat} {v : Int64} {i : Nat} (hd : decode μ.2.1 pc = .ok (.ldc2_w i, 3)) (hw : Cond.constantLong μ.1.cls i v ∈ lw_g) (kk : am_G d μ mc ms Q (pc + 3) ls (.long v :: st) h k n) : am_G d μ mc ms Q pc ls st h k n := by
  intro p l e R s m args below meth c H locs arr w hc hk hr hS hl
  exact lv_ldc2 hc.1 hc.2.1 hc.2.2.2.1 (hk.ts hw args) hd (kk _ _ _ _ _ _ _ _ _ _ _ _ _ w hc hk hr hS hl)
theorem am_loc {w : am_W} {arr : Array Slot} {N : Nat} {ls : List (Nat × Value)} {i : Nat} {v : Value} (hl : lv_has arr N (ls.map (fun q => (q.1, am_cv w q.2)))) (hv : List.lookup i ls = some v) : arr[i]? = some (.val (am_cv w v)) := by
  have hm : (i, v) ∈ ls := by
    clear hl
    induction ls with
    | nil => simp at hv
    | cons q r ih =>
      obtain ⟨a, b⟩ := q
      rw [List.lookup_cons] at hv
      split at hv
      · rename_i e
        have e1 : i = a := by simpa using e
        cases hv
        subst e1
        exact List.mem_cons_self
      · exact List.mem_cons_of_mem _ (ih hv)
  exact hl.2.2 (i, am_cv w v) (List.mem_map.mpr ⟨(i, v), hm, rfl⟩)
theorem g_iload {d : Nat} {μ : am_M} {mc ms : Nat} {Q : Option Value → am_H → Prop} {pc : Nat} {ls : List (Nat × Value)} {st : List Value} {h : am_H} {k n : Nat} {i : Nat} {x : Int32} (hd : decode μ.2.1 pc = .ok (.iload i, 2)) (hv : List.lookup i ls = some (.int x)) (kk : am_G d μ mc ms Q (pc + 2) ls (.int x :: st) h k n) : am_G d μ mc ms Q pc ls st h k n := by
  intro p l e R s m args below meth c H locs arr w hc hk hr hS hl
  exact lv_iload hc.1 hc.2.1 hd (am_loc hl hv) (kk _ _ _ _ _ _ _ _ _ _ _ _ _ w hc hk hr hS hl)
theorem g_iload_n {d : Nat} {μ : am_M} {mc ms : Nat} {Q : Option Value → am_H → Prop} {pc : Nat} {ls : List (Nat × Value)} {st : List Value} {h : am_H} {k n : Nat} {i : Fin 4} {x : Int32} (hd : decode μ.2.1 pc = .ok (.iload_n i, 1)) (hv : List.lookup (i : Nat) ls = some (.int x)) (kk : am_G d μ mc ms Q (pc + 1) ls (.int x :: st) h k n) : am_G d μ mc ms Q pc ls st h k n := by
  intro p l e R s m args below meth c H locs arr w hc hk hr hS hl
  exact lv_iload_n hc.1 hc.2.1 hd rfl (am_loc hl hv) (kk _ _ _ _ _ _ _ _ _ _ _ _ _ w hc hk hr hS hl)
theorem g_lload {d : Nat} {μ : am_M} {mc ms : Nat} {Q : Option Value → am_H → Prop} {pc : Nat} {ls : List (Nat × Value)} {st : List Value} {h : am_H} {k n : Nat} {i : Nat} {x : Int64} (hd : decode μ.2.1 pc = .ok (.lload i, 2)) (hv : List.lookup i ls = some (.long x)) (kk : am_G d μ mc ms Q (pc + 2) ls (.long x :: st) h k n) : am_G d μ mc ms Q pc ls st h k n := by
  intro p l e R s m args below meth c H locs arr w hc hk hr hS hl
  exact lv_lload hc.1 hc.2.1 hd (am_loc hl hv) (kk _ _ _ _ _ _ _ _ _ _ _ _ _ w hc hk hr hS hl)
theorem g_lload_n {d : Nat} {μ : am_M} {mc ms : Nat} {Q : Option Value → am_H → Prop} {pc : Nat} {ls : List (Nat × Value)} {st : List Value} {h : am_H} {k n : Nat} {i : Fin 4} {x : Int64} (hd : decode μ.2.1 pc = .ok (.lload_n i, 1)) (hv : List.lookup (i : Nat) ls = some (.long x)) (kk : am_G d μ mc ms Q (pc + 1) ls (.long x :: st) h k n) : am_G d μ mc ms Q pc ls st h k n := by
  intro p l e R s m args below meth c H locs arr w hc hk hr hS hl
  exact lv_lload_n hc.1 hc.2.1 hd rfl (am_loc hl hv) (kk _ _ _ _ _ _ _ _ _ _ _ _ _ w hc hk hr hS hl)
theorem g_aload {d : Nat} {μ : am_M} {mc ms : Nat} {Q : Option Value → am_H → Prop} {pc : Nat} {ls : List (Nat × Value)} {st : List Value} {h : am_H} {k n : Nat} {i : Nat} {x : Nat} (hd : decode μ.2.1 pc = .ok (.aload i, 2)) (hv : List.lookup i ls = some (.ref x)) (kk : am_G d μ mc ms Q (pc + 2) ls (.ref x :: st) h k n) : am_G d μ mc ms Q pc ls st h k n := by
  intro p l e R s m args below meth c H locs arr w hc hk hr hS hl
  exact lv_aload hc.1 hc.2.1 hd (am_loc hl hv) (kk _ _ _ _ _ _ _ _ _ _ _ _ _ w hc hk hr hS hl)
theorem g_aload_n {d : Nat} {μ : am_M} {mc ms : Nat} {Q : Option Value → am_H → Prop} {pc : Nat} {ls : List (Nat × Value)} {st : List Value} {h : am_H} {k n : Nat} {i : Fin 4} {x : Nat} (hd : decode μ.2.1 pc = .ok (.aload_n i, 1)) (hv : List.lookup (i : Nat) ls = some (.ref x)) (kk : am_G d μ mc ms Q (pc + 1) ls (.ref x :: st) h k n) : am_G d μ mc ms Q pc ls st h k n := by
  intro p l e R s m args below meth c H locs arr w hc hk hr hS hl
  exact lv_aload_n hc.1 hc.2.1 hd rfl (am_loc hl hv) (kk _ _ _ _ _ _ _ _ _ _ _ _ _ w hc hk hr hS hl)
theorem g_aload_s {d : Nat} {μ : am_M} {mc ms : Nat} {Q : Option Value → am_H → Prop} {pc : Nat} {ls : List (Nat × Value)} {st : List Value} {h : am_H} {k n : Nat} {i : Nat} {x : Nat} (hd : decode μ.2.1 pc = .ok (.aload i, 2)) (hv : List.lookup i ls = some (.retAddr x)) (kk : am_G d μ mc ms Q (pc + 2) ls (.retAddr x :: st) h k n) : am_G d μ mc ms Q pc ls st h k n := by
  intro p l e R s m args below meth c H locs arr w hc hk hr hS hl
  exact lv_aload hc.1 hc.2.1 hd (am_loc hl hv) (kk _ _ _ _ _ _ _ _ _ _ _ _ _ w hc hk hr hS hl)
theorem g_aload_ns {d : Nat} {μ : am_M} {mc ms : Nat} {Q : Option Value → am_H → Prop} {pc : Nat} {ls : List (Nat × Value)} {st : List Value} {h : am_H} {k n : Nat} {i : Fin 4} {x : Nat} (hd : decode μ.2.1 pc = .ok (.aload_n i, 1)) (hv : List.lookup (i : Nat) ls = some (.retAddr x)) (kk : am_G d μ mc ms Q (pc + 1) ls (.retAddr x :: st) h k n) : am_G d μ mc ms Q pc ls st h k n := by
  intro p l e R s m args below meth c H locs arr w hc hk hr hS hl
  exact lv_aload_n hc.1 hc.2.1 hd rfl (am_loc hl hv) (kk _ _ _ _ _ _ _ _ _ _ _ _ _ w hc hk hr hS hl)
theorem am_lst1 {w : am_W} {arr : Array Slot} {N i : Nat} {ls : List (Nat × Value)} {v : Value} (hs : am_srt ls = true)
    (hl : lv_has arr N ((i, am_cv w v) :: (ls.map (fun q => (q.1, am_cv w q.2))).filter (fun q => !(q.1 == i) && !(q.1 + 1 == i && q.2.category == 2)))) : lv_has arr N ((am_ins i v ls).map (fun q => (q.1, am_cv w q.2))) := by
  refine ⟨hl.1, hl.2.1, fun q hq => hl.2.2 q ?_⟩
  obtain ⟨x, hx, rfl⟩ := List.mem_map.mp hq
  rcases am_ins_mem ls x (am_srt_pw ls hs) hx with rfl | ⟨h1, h2, h3⟩
  · exact List.mem_cons_self
  · refine List.mem_cons_of_mem _ (List.mem_filter.mpr ⟨List.mem_map.mpr ⟨x, h1, rfl⟩, ?_⟩)
    simp only [am_cat]
    simp only [Bool.and_eq_true, Bool.not_eq_true', beq_eq_false_iff_ne, Bool.and_eq_false_iff]
    refine ⟨h2, ?_⟩
    by_cases h4 : x.1 + 1 = i
    · exact Or.inr (fun e => h3 ⟨h4, e⟩)
    · exact Or.inl h4
def am_ins2 (i : Nat) (v : Value) (l : List (Nat × Value)) : List (Nat × Value) := (am_ins i v l).filter (fun q => !(q.1 == i + 1))
theorem am_lst2 {w : am_W} {arr : Array Slot} {N i : Nat} {ls : List (Nat × Value)} {v : Value} (hs : am_srt ls = true)
    (hl : lv_has arr N ((i, am_cv w v) :: (ls.map (fun q => (q.1, am_cv w q.2))).filter (fun q => !(q.1 == i) && (!(q.1 == i + 1) && !(q.1 + 1 == i && q.2.category == 2))))) : lv_has arr N ((am_ins2 i v ls).map (fun q => (q.1, am_cv w q.2))) := by
  refine ⟨hl.1, hl.2.1, fun q hq => hl.2.2 q ?_⟩
  obtain ⟨x, hx, rfl⟩ := List.mem_map.mp hq
  obtain ⟨hx, hx2⟩ := List.mem_filter.mp hx
  rcases am_ins_mem ls x (am_srt_pw ls hs) hx with rfl | ⟨h1, h2, h3⟩
  · exact List.mem_cons_self
  · refine List.mem_cons_of_mem _ (List.mem_filter.mpr ⟨List.mem_map.mpr ⟨x, h1, rfl⟩, ?_⟩)
    simp only [am_cat]
    simp only [Bool.and_eq_true, Bool.not_eq_true', beq_eq_false_iff_ne, Bool.and_eq_false_iff] at hx2 ⊢
    refine ⟨h2, hx2, ?_⟩
    by_cases h4 : x.1 + 1 = i
    · exact Or.inr (fun e => h3 ⟨h4, e⟩)
    · exact Or.inl h4
theorem g_istore {d : Nat} {μ : am_M} {mc ms : Nat} {Q : Option Value → am_H → Prop} {pc : Nat} {ls : List (Nat × Value)} {st : List Value} {h : am_H} {k n : Nat} {i : Nat} {x : Int32} (hd : decode μ.2.1 pc = .ok (.istore i, 2)) (hs : am_srt ls = true) (hn : i < μ.2.2.1) {ls1 : List (Nat × Value)} (he : am_ins i (.int x) ls = ls1) (kk : am_G d μ mc ms Q (pc + 2) ls1 st h k n) : am_G d μ mc ms Q pc ls (.int x :: st) h k n := by
  intro p l e R s m args below meth c H locs arr w hc hk hr hS hl
  subst he
  exact lv_istore hc.1 hc.2.1 hd hl hn rfl (fun arr1 hl1 => kk _ _ _ _ _ _ _ _ _ _ _ _ _ w hc hk hr hS (am_lst1 (v := .int x) hs hl1))
theorem g_istore_n {d : Nat} {μ : am_M} {mc ms : Nat} {Q : Option Value → am_H → Prop} {pc : Nat} {ls : List (Nat × Value)} {st : List Value} {h : am_H} {k n : Nat} {i : Fin 4} {x : Int32} (hd : decode μ.2.1 pc = .ok (.istore_n i, 1)) (hs : am_srt ls = true) (hn : (i : Nat) < μ.2.2.1) {ls1 : List (Nat × Value)} (he : am_ins i (.int x) ls = ls1) (kk : am_G d μ mc ms Q (pc + 1) ls1 st h k n) : am_G d μ mc ms Q pc ls (.int x :: st) h k n := by
  intro p l e R s m args below meth c H locs arr w hc hk hr hS hl
  subst he
  exact lv_istore_n hc.1 hc.2.1 hd rfl hl hn rfl (fun arr1 hl1 => kk _ _ _ _ _ _ _ _ _ _ _ _ _ w hc hk hr hS (am_lst1 (v := .int x) hs hl1))
theorem g_astore {d : Nat} {μ : am_M} {mc ms : Nat} {Q : Option Value → am_H → Prop} {pc : Nat} {ls : List (Nat × Value)} {st : List Value} {h : am_H} {k n : Nat} {i : Nat} {x : Nat} (hd : decode μ.2.1 pc = .ok (.astore i, 2)) (hs : am_srt ls = true) (hn : i < μ.2.2.1) {ls1 : List (Nat × Value)} (he : am_ins i (.ref x) ls = ls1) (kk : am_G d μ mc ms Q (pc + 2) ls1 st h k n) : am_G d μ mc ms Q pc ls (.ref x :: st) h k n := by
  intro p l e R s m args below meth c H locs arr w hc hk hr hS hl
  subst he
  exact lv_astore hc.1 hc.2.1 hd hl hn rfl (fun arr1 hl1 => kk _ _ _ _ _ _ _ _ _ _ _ _ _ w hc hk hr hS (am_lst1 (v := .ref x) hs hl1))
theorem g_astore_n {d : Nat} {μ : am_M} {mc ms : Nat} {Q : Option Value → am_H → Prop} {pc : Nat} {ls : List (Nat × Value)} {st : List Value} {h : am_H} {k n : Nat} {i : Fin 4} {x : Nat} (hd : decode μ.2.1 pc = .ok (.astore_n i, 1)) (hs : am_srt ls = true) (hn : (i : Nat) < μ.2.2.1) {ls1 : List (Nat × Value)} (he : am_ins i (.ref x) ls = ls1) (kk : am_G d μ mc ms Q (pc + 1) ls1 st h k n) : am_G d μ mc ms Q pc ls (.ref x :: st) h k n := by
  intro p l e R s m args below meth c H locs arr w hc hk hr hS hl
  subst he
  exact lv_astore_n hc.1 hc.2.1 hd rfl hl hn rfl (fun arr1 hl1 => kk _ _ _ _ _ _ _ _ _ _ _ _ _ w hc hk hr hS (am_lst1 (v := .ref x) hs hl1))
theorem g_astores {d : Nat} {μ : am_M} {mc ms : Nat} {Q : Option Value → am_H → Prop} {pc : Nat} {ls : List (Nat × Value)} {st : List Value} {h : am_H} {k n : Nat} {i : Nat} {x : Nat} (hd : decode μ.2.1 pc = .ok (.astore i, 2)) (hs : am_srt ls = true) (hn : i < μ.2.2.1) {ls1 : List (Nat × Value)} (he : am_ins i (.retAddr x) ls = ls1) (kk : am_G d μ mc ms Q (pc + 2) ls1 st h k n) : am_G d μ mc ms Q pc ls (.retAddr x :: st) h k n := by
  intro p l e R s m args below meth c H locs arr w hc hk hr hS hl
  subst he
  exact lv_astore hc.1 hc.2.1 hd hl hn rfl (fun arr1 hl1 => kk _ _ _ _ _ _ _ _ _ _ _ _ _ w hc hk hr hS (am_lst1 (v := .retAddr x) hs hl1))
theorem g_astore_ns {d : Nat} {μ : am_M} {mc ms : Nat} {Q : Option Value → am_H → Prop} {pc : Nat} {ls : List (Nat × Value)} {st : List Value} {h : am_H} {k n : Nat} {i : Fin 4} {x : Nat} (hd : decode μ.2.1 pc = .ok (.astore_n i, 1)) (hs : am_srt ls = true) (hn : (i : Nat) < μ.2.2.1) {ls1 : List (Nat × Value)} (he : am_ins i (.retAddr x) ls = ls1) (kk : am_G d μ mc ms Q (pc + 1) ls1 st h k n) : am_G d μ mc ms Q pc ls (.retAddr x :: st) h k n := by
  intro p l e R s m args below meth c H locs arr w hc hk hr hS hl
  subst he
  exact lv_astore_n hc.1 hc.2.1 hd rfl hl hn rfl (fun arr1 hl1 => kk _ _ _ _ _ _ _ _ _ _ _ _ _ w hc hk hr hS (am_lst1 (v := .retAddr x) hs hl1))
theorem g_lstore {d : Nat} {μ : am_M} {mc ms : Nat} {Q : Option Value → am_H → Prop} {pc : Nat} {ls : List (Nat × Value)} {st : List Value} {h : am_H} {k n : Nat} {i : Nat} {x : Int64} (hd : decode μ.2.1 pc = .ok (.lstore i, 2)) (hs : am_srt ls = true) (hn : i + 1 < μ.2.2.1) {ls1 : List (Nat × Value)} (he : am_ins2 i (.long x) ls = ls1) (kk : am_G d μ mc ms Q (pc + 2) ls1 st h k n) : am_G d μ mc ms Q pc ls (.long x :: st) h k n := by
  intro p l e R s m args below meth c H locs arr w hc hk hr hS hl
  subst he
  exact lv_lstore hc.1 hc.2.1 hd hl hn rfl (fun arr1 hl1 => kk _ _ _ _ _ _ _ _ _ _ _ _ _ w hc hk hr hS (am_lst2 (v := .long x) hs hl1))
theorem g_lstore_n {d : Nat} {μ : am_M} {mc ms : Nat} {Q : Option Value → am_H → Prop} {pc : Nat} {ls : List (Nat × Value)} {st : List Value} {h : am_H} {k n : Nat} {i : Fin 4} {x : Int64} (hd : decode μ.2.1 pc = .ok (.lstore_n i, 1)) (hs : am_srt ls = true) (hn : (i : Nat) + 1 < μ.2.2.1) {ls1 : List (Nat × Value)} (he : am_ins2 i (.long x) ls = ls1) (kk : am_G d μ mc ms Q (pc + 1) ls1 st h k n) : am_G d μ mc ms Q pc ls (.long x :: st) h k n := by
  intro p l e R s m args below meth c H locs arr w hc hk hr hS hl
  subst he
  exact lv_lstore_n hc.1 hc.2.1 hd rfl hl hn rfl (fun arr1 hl1 => kk _ _ _ _ _ _ _ _ _ _ _ _ _ w hc hk hr hS (am_lst2 (v := .long x) hs hl1))
theorem am_lookup_pos {i : Nat} {v : Value} : ∀ (ls : List (Nat × Value)), List.lookup i ls = some v → ∃ q : Nat, ls[q]? = some (i, v)
  | [], h => by simp at h
  | (a, b) :: r, h => by
    rw [List.lookup_cons] at h
    split at h
    · rename_i e
      have e1 : i = a := by simpa using e
      cases h
      subst e1
      exact ⟨0, rfl⟩
    · obtain ⟨q, hq⟩ := am_lookup_pos r h
      exact ⟨q + 1, hq⟩
theorem g_iinc {d : Nat} {μ : am_M} {mc ms : Nat} {Q : Option Value → am_H → Prop} {pc : Nat} {ls : List (Nat × Value)} {st : List Value} {h : am_H} {k n : Nat} {i : Nat} {z : Int} {x v : Int32} (hd : decode μ.2.1 pc = .ok (.iinc i z, 3)) (hv : List.lookup i ls = some (.int x)) (hx : x + Int32.ofInt z = v) (hs : am_srt ls = true) (hn : i < μ.2.2.1) {ls1 : List (Nat × Value)} (he : am_ins i (.int v) ls = ls1) (kk : am_G d μ mc ms Q (pc + 3) ls1 st h k n) : am_G d μ mc ms Q pc ls st h k n := by
  intro p l e R s m args below meth c H locs arr w hc hk hr hS hl
  subst he
  obtain ⟨q, hq⟩ := am_lookup_pos ls hv
  exact lv_iinc (k := q) hc.1 hc.2.1 hd hl (by rw [List.getElem?_map, hq]; rfl) hx hn rfl (fun arr1 hl1 => kk _ _ _ _ _ _ _ _ _ _ _ _ _ w hc hk hr hS (am_lst1 (v := .int v) hs hl1))
theorem g_if_eq {d : Nat} {μ : am_M} {mc ms : Nat} {Q : Option Value → am_H → Prop} {pc : Nat} {ls : List (Nat × Value)} {st : List Value} {h : am_H} {k n : Nat} {x : Int32} {off : Int} {tgt : Nat} (hd : decode μ.2.1 pc = .ok (.ifCond .eq off, 3)) (ht : (pc : Int) + off = (tgt : Int)) (kt : x = 0 → am_G d μ mc ms Q tgt ls st h k n) (kf : ¬ (x = 0) → am_G d μ mc ms Q (pc + 3) ls st h k n) : am_G d μ mc ms Q pc ls (.int x :: st) h k n := by
  intro p l e R s m args below meth c H locs arr w hc hk hr hS hl
  exact lv_if_eq hc.1 hc.2.1 hd ht (fun hh => kt hh _ _ _ _ _ _ _ _ _ _ _ _ _ w hc hk hr hS hl) (fun hh => kf hh _ _ _ _ _ _ _ _ _ _ _ _ _ w hc hk hr hS hl)
theorem g_if_ne {d : Nat} {μ : am_M} {mc ms : Nat} {Q : Option Value → am_H → Prop} {pc : Nat} {ls : List (Nat × Value)} {st : List Value} {h : am_H} {k n : Nat} {x : Int32} {off : Int} {tgt : Nat} (hd : decode μ.2.1 pc = .ok (.ifCond .ne off, 3)) (ht : (pc : Int) + off = (tgt : Int)) (kt : ¬ x = 0 → am_G d μ mc ms Q tgt ls st h k n) (kf : x = 0 → am_G d μ mc ms Q (pc + 3) ls st h k n) : am_G d μ mc ms Q pc ls (.int x :: st) h k n := by
  intro p l e R s m args below meth c H locs arr w hc hk hr hS hl
  exact lv_if_ne hc.1 hc.2.1 hd ht (fun hh => kt hh _ _ _ _ _ _ _ _ _ _ _ _ _ w hc hk hr hS hl) (fun hh => kf hh _ _ _ _ _ _ _ _ _ _ _ _ _ w hc hk hr hS hl)
theorem g_if_lt {d : Nat} {μ : am_M} {mc ms : Nat} {Q : Option Value → am_H → Prop} {pc : Nat} {ls : List (Nat × Value)} {st : List Value} {h : am_H} {k n : Nat} {x : Int32} {off : Int} {tgt : Nat} (hd : decode μ.2.1 pc = .ok (.ifCond .lt off, 3)) (ht : (pc : Int) + off = (tgt : Int)) (kt : x < 0 → am_G d μ mc ms Q tgt ls st h k n) (kf : ¬ (x < 0) → am_G d μ mc ms Q (pc + 3) ls st h k n) : am_G d μ mc ms Q pc ls (.int x :: st) h k n := by
  intro p l e R s m args below meth c H locs arr w hc hk hr hS hl
  exact lv_if_lt hc.1 hc.2.1 hd ht (fun hh => kt hh _ _ _ _ _ _ _ _ _ _ _ _ _ w hc hk hr hS hl) (fun hh => kf hh _ _ _ _ _ _ _ _ _ _ _ _ _ w hc hk hr hS hl)
theorem g_if_ge {d : Nat} {μ : am_M} {mc ms : Nat} {Q : Option Value → am_H → Prop} {pc : Nat} {ls : List (Nat × Value)} {st : List Value} {h : am_H} {k n : Nat} {x : Int32} {off : Int} {tgt : Nat} (hd : decode μ.2.1 pc = .ok (.ifCond .ge off, 3)) (ht : (pc : Int) + off = (tgt : Int)) (kt : 0 ≤ x → am_G d μ mc ms Q tgt ls st h k n) (kf : ¬ (0 ≤ x) → am_G d μ mc ms Q (pc + 3) ls st h k n) : am_G d μ mc ms Q pc ls (.int x :: st) h k n := by
  intro p l e R s m args below meth c H locs arr w hc hk hr hS hl
  exact lv_if_ge hc.1 hc.2.1 hd ht (fun hh => kt hh _ _ _ _ _ _ _ _ _ _ _ _ _ w hc hk hr hS hl) (fun hh => kf hh _ _ _ _ _ _ _ _ _ _ _ _ _ w hc hk hr hS hl)
theorem g_if_gt {d : Nat} {μ : am_M} {mc ms : Nat} {Q : Option Value → am_H → Prop} {pc : Nat} {ls : List (Nat × Value)} {st : List Value} {h : am_H} {k n : Nat} {x : Int32} {off : Int} {tgt : Nat} (hd : decode μ.2.1 pc = .ok (.ifCond .gt off, 3)) (ht : (pc : Int) + off = (tgt : Int)) (kt : 0 < x → am_G d μ mc ms Q tgt ls st h k n) (kf : ¬ (0 < x) → am_G d μ mc ms Q (pc + 3) ls st h k n) : am_G d μ mc ms Q pc ls (.int x :: st) h k n := by
  intro p l e R s m args below meth c H locs arr w hc hk hr hS hl
  exact lv_if_gt hc.1 hc.2.1 hd ht (fun hh => kt hh _ _ _ _ _ _ _ _ _ _ _ _ _ w hc hk hr hS hl) (fun hh => kf hh _ _ _ _ _ _ _ _ _ _ _ _ _ w hc hk hr hS hl)
theorem g_if_le {d : Nat} {μ : am_M} {mc ms : Nat} {Q : Option Value → am_H → Prop} {pc : Nat} {ls : List (Nat × Value)} {st : List Value} {h : am_H} {k n : Nat} {x : Int32} {off : Int} {tgt : Nat} (hd : decode μ.2.1 pc = .ok (.ifCond .le off, 3)) (ht : (pc : Int) + off = (tgt : Int)) (kt : x ≤ 0 → am_G d μ mc ms Q tgt ls st h k n) (kf : ¬ (x ≤ 0) → am_G d μ mc ms Q (pc + 3) ls st h k n) : am_G d μ mc ms Q pc ls (.int x :: st) h k n := by
  intro p l e R s m args below meth c H locs arr w hc hk hr hS hl
  exact lv_if_le hc.1 hc.2.1 hd ht (fun hh => kt hh _ _ _ _ _ _ _ _ _ _ _ _ _ w hc hk hr hS hl) (fun hh => kf hh _ _ _ _ _ _ _ _ _ _ _ _ _ w hc hk hr hS hl)
theorem g_icmp_eq {d : Nat} {μ : am_M} {mc ms : Nat} {Q : Option Value → am_H → Prop} {pc : Nat} {ls : List (Nat × Value)} {st : List Value} {h : am_H} {k n : Nat} {x y : Int32} {off : Int} {tgt : Nat} (hd : decode μ.2.1 pc = .ok (.if_icmp .eq off, 3)) (ht : (pc : Int) + off = (tgt : Int)) (kt : x = y → am_G d μ mc ms Q tgt ls st h k n) (kf : ¬ (x = y) → am_G d μ mc ms Q (pc + 3) ls st h k n) : am_G d μ mc ms Q pc ls (.int y :: .int x :: st) h k n := by
  intro p l e R s m args below meth c H locs arr w hc hk hr hS hl
  exact lv_icmp_eq hc.1 hc.2.1 hd ht (fun hh => kt hh _ _ _ _ _ _ _ _ _ _ _ _ _ w hc hk hr hS hl) (fun hh => kf hh _ _ _ _ _ _ _ _ _ _ _ _ _ w hc hk hr hS hl)
theorem g_icmp_ne {d : Nat} {μ : am_M} {mc ms : Nat} {Q : Option Value → am_H → Prop} {pc : Nat} {ls : List (Nat × Value)} {st : List Value} {h : am_H} {k n : Nat} {x y : Int32} {off : Int} {tgt : Nat} (hd : decode μ.2.1 pc = .ok (.if_icmp .ne off, 3)) (ht : (pc : Int) + off = (tgt : Int)) (kt : ¬ x = y → am_G d μ mc ms Q tgt ls st h k n) (kf : x = y → am_G d μ mc ms Q (pc + 3) ls st h k n) : am_G d μ mc ms Q pc ls (.int y :: .int x :: st) h k n := by
  intro p l e R s m args below meth c H locs arr w hc hk hr hS hl
  exact lv_icmp_ne hc.1 hc.2.1 hd ht (fun hh => kt hh _ _ _ _ _ _ _ _ _ _ _ _ _ w hc hk hr hS hl) (fun hh => kf hh _ _ _ _ _ _ _ _ _ _ _ _ _ w hc hk hr hS hl)
theorem g_icmp_lt {d : Nat} {μ : am_M} {mc ms : Nat} {Q : Option Value → am_H → Prop} {pc : Nat} {ls : List (Nat × Value)} {st : List Value} {h : am_H} {k n : Nat} {x y : Int32} {off : Int} {tgt : Nat} (hd : decode μ.2.1 pc = .ok (.if_icmp .lt off, 3)) (ht : (pc : Int) + off = (tgt : Int)) (kt : x < y → am_G d μ mc ms Q tgt ls st h k n) (kf : ¬ (x < y) → am_G d μ mc ms Q (pc + 3) ls st h k n) : am_G d μ mc ms Q pc ls (.int y :: .int x :: st) h k n := by
  intro p l e R s m args below meth c H locs arr w hc hk hr hS hl
  exact lv_icmp_lt hc.1 hc.2.1 hd ht (fun hh => kt hh _ _ _ _ _ _ _ _ _ _ _ _ _ w hc hk hr hS hl) (fun hh => kf hh _ _ _ _ _ _ _ _ _ _ _ _ _ w hc hk hr hS hl)
theorem g_icmp_ge {d : Nat} {μ : am_M} {mc ms : Nat} {Q : Option Value → am_H → Prop} {pc : Nat} {ls : List (Nat × Value)} {st : List Value} {h : am_H} {k n : Nat} {x y : Int32} {off : Int} {tgt : Nat} (hd : decode μ.2.1 pc = .ok (.if_icmp .ge off, 3)) (ht : (pc : Int) + off = (tgt : Int)) (kt : y ≤ x → am_G d μ mc ms Q tgt ls st h k n) (kf : ¬ (y ≤ x) → am_G d μ mc ms Q (pc + 3) ls st h k n) : am_G d μ mc ms Q pc ls (.int y :: .int x :: st) h k n := by
  intro p l e R s m args below meth c H locs arr w hc hk hr hS hl
  exact lv_icmp_ge hc.1 hc.2.1 hd ht (fun hh => kt hh _ _ _ _ _ _ _ _ _ _ _ _ _ w hc hk hr hS hl) (fun hh => kf hh _ _ _ _ _ _ _ _ _ _ _ _ _ w hc hk hr hS hl)
theorem g_icmp_gt {d : Nat} {μ : am_M} {mc ms : Nat} {Q : Option Value → am_H → Prop} {pc : Nat} {ls : List (Nat × Value)} {st : List Value} {h : am_H} {k n : Nat} {x y : Int32} {off : Int} {tgt : Nat} (hd : decode μ.2.1 pc = .ok (.if_icmp .gt off, 3)) (ht : (pc : Int) + off = (tgt : Int)) (kt : y < x → am_G d μ mc ms Q tgt ls st h k n) (kf : ¬ (y < x) → am_G d μ mc ms Q (pc + 3) ls st h k n) : am_G d μ mc ms Q pc ls (.int y :: .int x :: st) h k n := by
  intro p l e R s m args below meth c H locs arr w hc hk hr hS hl
  exact lv_icmp_gt hc.1 hc.2.1 hd ht (fun hh => kt hh _ _ _ _ _ _ _ _ _ _ _ _ _ w hc hk hr hS hl) (fun hh => kf hh _ _ _ _ _ _ _ _ _ _ _ _ _ w hc hk hr hS hl)
theorem g_icmp_le {d : Nat} {μ : am_M} {mc ms : Nat} {Q : Option Value → am_H → Prop} {pc : Nat} {ls : List (Nat × Value)} {st : List Value} {h : am_H} {k n : Nat} {x y : Int32} {off : Int} {tgt : Nat} (hd : decode μ.2.1 pc = .ok (.if_icmp .le off, 3)) (ht : (pc : Int) + off = (tgt : Int)) (kt : x ≤ y → am_G d μ mc ms Q tgt ls st h k n) (kf : ¬ (x ≤ y) → am_G d μ mc ms Q (pc + 3) ls st h k n) : am_G d μ mc ms Q pc ls (.int y :: .int x :: st) h k n := by
  intro p l e R s m args below meth c H locs arr w hc hk hr hS hl
  exact lv_icmp_le hc.1 hc.2.1 hd ht (fun hh => kt hh _ _ _ _ _ _ _ _ _ _ _ _ _ w hc hk hr hS hl) (fun hh => kf hh _ _ _ _ _ _ _ _ _ _ _ _ _ w hc hk hr hS hl)
theorem g_goto {d : Nat} {μ : am_M} {mc ms : Nat} {Q : Option Value → am_H → Prop} {pc : Nat} {ls : List (Nat × Value)} {st : List Value} {h : am_H} {k n : Nat} {off : Int} {tgt : Nat} (hd : decode μ.2.1 pc = .ok (.goto off, 3)) (ht : (pc : Int) + off = (tgt : Int)) (kk : am_G d μ mc ms Q tgt ls st h k n) : am_G d μ mc ms Q pc ls st h k n := by
  intro p l e R s m args below meth c H locs arr w hc hk hr hS hl
  exact lv_goto hc.1 hc.2.1 hd ht (kk _ _ _ _ _ _ _ _ _ _ _ _ _ w hc hk hr hS hl)
theorem g_acmp_eq {d : Nat} {μ : am_M} {mc ms : Nat} {Q : Option Value → am_H → Prop} {pc : Nat} {ls : List (Nat × Value)} {st : List Value} {h : am_H} {k n : Nat} {x y : Nat} {off : Int} {tgt : Nat} (hd : decode μ.2.1 pc = .ok (.if_acmp .eq off, 3)) (ht : (pc : Int) + off = (tgt : Int)) (kt : x = y → am_G d μ mc ms Q tgt ls st h k n) (kf : ¬ x = y → am_G d μ mc ms Q (pc + 3) ls st h k n) : am_G d μ mc ms Q pc ls (.ref y :: .ref x :: st) h k n := by
  intro p l e R s m args below meth c H locs arr w hc hk hr hS hl
  exact lv_acmp_eq (rx := some (am_B w + x)) (ry := some (am_B w + y)) hc.1 hc.2.1 hd ht (fun hh => kt (by have := hh; simp only [Option.some.injEq] at this; omega) _ _ _ _ _ _ _ _ _ _ _ _ _ w hc hk hr hS hl) (fun hh => kf (by have := hh; simp only [Option.some.injEq] at this; omega) _ _ _ _ _ _ _ _ _ _ _ _ _ w hc hk hr hS hl)
theorem g_acmp_ne {d : Nat} {μ : am_M} {mc ms : Nat} {Q : Option Value → am_H → Prop} {pc : Nat} {ls : List (Nat × Value)} {st : List Value} {h : am_H} {k n : Nat} {x y : Nat} {off : Int} {tgt : Nat} (hd : decode μ.2.1 pc = .ok (.if_acmp .ne off, 3)) (ht : (pc : Int) + off = (tgt : Int)) (kt : ¬ x = y → am_G d μ mc ms Q tgt ls st h k n) (kf : x = y → am_G d μ mc ms Q (pc + 3) ls st h k n) : am_G d μ mc ms Q pc ls (.ref y :: .ref x :: st) h k n := by
  intro p l e R s m args below meth c H locs arr w hc hk hr hS hl
  exact lv_acmp_ne (rx := some (am_B w + x)) (ry := some (am_B w + y)) hc.1 hc.2.1 hd ht (fun hh => kt (by have := hh; simp only [Option.some.injEq] at this; omega) _ _ _ _ _ _ _ _ _ _ _ _ _ w hc hk hr hS hl) (fun hh => kf (by have := hh; simp only [Option.some.injEq] at this; omega) _ _ _ _ _ _ _ _ _ _ _ _ _ w hc hk hr hS hl)
theorem g_table {d : Nat} {μ : am_M} {mc ms : Nat} {Q : Option Value → am_H → Prop} {pc : Nat} {ls : List (Nat × Value)} {st : List Value} {h : am_H} {k n : Nat} {dflt lo hi : Int} {offs : Array Int} {len : Nat} {x : Int32} (hd : decode μ.2.1 pc = .ok (.tableswitch dflt lo hi offs, len)) (kt : ∀ (off : Int) (tgt : Nat), ¬ x.toInt < lo → ¬ hi < x.toInt → offs[(x.toInt - lo).toNat]? = some off → (pc : Int) + off = (tgt : Int) → am_G d μ mc ms Q tgt ls st h k n) (kf : ∀ tgt : Nat, (x.toInt < lo ∨ hi < x.toInt) → (pc : Int) + dflt = (tgt : Int) → am_G d μ mc ms Q tgt ls st h k n) (hsz : (offs.size : Int) = hi - lo + 1) (hpos : ∀ (i : Nat) (off : Int), offs[i]? = some off → ∃ tgt : Nat, (pc : Int) + off = (tgt : Int)) (hpd : ∃ tgt : Nat, (pc : Int) + dflt = (tgt : Int)) : am_G d μ mc ms Q pc ls (.int x :: st) h k n := by
  intro p l e R s m args below meth c H locs arr w hc hk hr hS hl
  by_cases h1 : x.toInt < lo
  · obtain ⟨tgt, ht⟩ := hpd
    exact lv_tableOut hc.1 hc.2.1 hd (Or.inl h1) ht (kf tgt (Or.inl h1) ht _ _ _ _ _ _ _ _ _ _ _ _ _ w hc hk hr hS hl)
  · by_cases h2 : hi < x.toInt
    · obtain ⟨tgt, ht⟩ := hpd
      exact lv_tableOut hc.1 hc.2.1 hd (Or.inr h2) ht (kf tgt (Or.inr h2) ht _ _ _ _ _ _ _ _ _ _ _ _ _ w hc hk hr hS hl)
    · have h3 : (x.toInt - lo).toNat < offs.size := by omega
      obtain ⟨tgt, ht⟩ := hpos _ _ (Array.getElem?_eq_getElem h3)
      exact lv_tableIn hc.1 hc.2.1 hd h1 h2 (Array.getElem?_eq_getElem h3) ht (kt _ tgt h1 h2 (Array.getElem?_eq_getElem h3) ht _ _ _ _ _ _ _ _ _ _ _ _ _ w hc hk hr hS hl)
theorem g_iret {d : Nat} {μ : am_M} {mc ms : Nat} {Q : Option Value → am_H → Prop} {pc : Nat} {ls : List (Nat × Value)} {st : List Value} {h : am_H} {k n : Nat} {v : Int32} (hd : decode μ.2.1 pc = .ok (.ireturn, 1)) (hr0 : μ.2.2.2.1 = some .int) (hkc : k ≤ mc) (hkn : n ≤ ms) (hq : Q (some (.int v)) h) : am_G d μ mc ms Q pc ls [.int v] h k n := by
  intro p l e R s m args below meth c H locs arr w hc hk hr hS hl
  have hlocks : meth.locks = false := hc.2.2.2.2.2.1
  exact W.widen hkc hkn (W.iret (Qc := am_Qc w Q) hc.1 hc.2.1 (hc.2.2.2.2.1.trans hr0) (fun t ht hW => ⟨some (.int v), h, rfl, hq, by rw [ht]; exact hr⟩) hS hd hlocks)
theorem g_lret {d : Nat} {μ : am_M} {mc ms : Nat} {Q : Option Value → am_H → Prop} {pc : Nat} {ls : List (Nat × Value)} {st : List Value} {h : am_H} {k n : Nat} {v : Int64} (hd : decode μ.2.1 pc = .ok (.lreturn, 1)) (hr0 : μ.2.2.2.1 = some .long) (hkc : k ≤ mc) (hkn : n ≤ ms) (hq : Q (some (.long v)) h) : am_G d μ mc ms Q pc ls [.long v] h k n := by
  intro p l e R s m args below meth c H locs arr w hc hk hr hS hl
  have hlocks : meth.locks = false := hc.2.2.2.2.2.1
  exact W.widen hkc hkn (W.lret (Qc := am_Qc w Q) hc.1 hc.2.1 (hc.2.2.2.2.1.trans hr0) (fun t ht hW => ⟨some (.long v), h, rfl, hq, by rw [ht]; exact hr⟩) hS hd hlocks)
theorem g_zret {d : Nat} {μ : am_M} {mc ms : Nat} {Q : Option Value → am_H → Prop} {pc : Nat} {ls : List (Nat × Value)} {st : List Value} {h : am_H} {k n : Nat} {v : Int32} {ty : FieldType} (hd : decode μ.2.1 pc = .ok (.ireturn, 1)) (hr0 : μ.2.2.2.1 = some ty) (hnw : narrow ty (.int v) = .int v) (hkc : k ≤ mc) (hkn : n ≤ ms) (hq : Q (some (.int v)) h) : am_G d μ mc ms Q pc ls [.int v] h k n := by
  intro p l e R s m args below meth c H locs arr w hc hk hr hS hl
  have hlocks : meth.locks = false := hc.2.2.2.2.2.1
  exact W.widen hkc hkn (W.zret (Qc := am_Qc w Q) hc.1 hc.2.1 (hc.2.2.2.2.1.trans hr0) hnw (fun t ht hW => ⟨some (.int v), h, rfl, hq, by rw [ht]; exact hr⟩) hS hd hlocks)
theorem g_aret {d : Nat} {μ : am_M} {mc ms : Nat} {Q : Option Value → am_H → Prop} {pc : Nat} {ls : List (Nat × Value)} {st : List Value} {h : am_H} {k n : Nat} {v : Nat} {ty : FieldType} (hd : decode μ.2.1 pc = .ok (.areturn, 1)) (hr0 : μ.2.2.2.1 = some ty) (hrt : (∃ n, ty = .object n) ∨ ∃ t, ty = .array t) (hkc : k ≤ mc) (hkn : n ≤ ms) (hq : Q (some (.ref v)) h) : am_G d μ mc ms Q pc ls [.ref v] h k n := by
  intro p l e R s m args below meth c H locs arr w hc hk hr hS hl
  have hlocks : meth.locks = false := hc.2.2.2.2.2.1
  exact W.widen hkc hkn (W.aret (Qc := am_Qc w Q) hc.1 hc.2.1 (hc.2.2.2.2.1.trans hr0) hrt (Or.inr ⟨_, rfl⟩) (fun t ht hW => ⟨some (.ref v), h, rfl, hq, by rw [ht]; exact hr⟩) hS hd hlocks)
theorem g_vret {d : Nat} {μ : am_M} {mc ms : Nat} {Q : Option Value → am_H → Prop} {pc : Nat} {ls : List (Nat × Value)} {st : List Value} {h : am_H} {k n : Nat} (hd : decode μ.2.1 pc = .ok (.return_, 1)) (hr0 : μ.2.2.2.1 = none) (hkc : k ≤ mc) (hkn : n ≤ ms) (hq : Q none h) : am_G d μ mc ms Q pc ls [] h k n := by
  intro p l e R s m args below meth c H locs arr w hc hk hr hS hl
  have hlocks : meth.locks = false := hc.2.2.2.2.2.1
  exact W.widen hkc hkn (W.vret (Qc := am_Qc w Q) hc.1 hc.2.1 (hc.2.2.2.2.1.trans hr0) (fun t ht hW => ⟨none, h, rfl, hq, by rw [ht]; exact hr⟩) hS hd hlocks)
