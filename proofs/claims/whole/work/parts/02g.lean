/-! ===== what lies outside: the texts of the classes, and two statics ===== -/
theorem am_known.str {w : am_W} {s : State} (h : am_known w s) {q : String × Nat × String × Nat} (hq : q ∈ am_strs) : vk_R q.1 q.2.1 q.2.2.1 (w.2.2.2.1 q.2.2.2) s := by
  obtain ⟨s0, a0, -, hW, -, -, -, -, -, -, hR, -⟩ := h
  exact vk_R.warm hW (hR q hq)
theorem am_known.so {w : am_W} {s : State} (h : am_known w s) {n : Nat} (hn : n < 4) : am_so w s n := by
  obtain ⟨s0, a0, -, hW, -, -, -, -, -, -, -, hS, -⟩ := h
  obtain ⟨h1, h2, h3, h4⟩ := hS n hn
  exact ⟨va_O.moved hW.alike h1, va_OF.moved hW.alike h2, va_OF.moved hW.alike h3, va_T.moved hW.alike h4⟩
theorem am_known.cs {w : am_W} {s : State} (h : am_known w s) : va_Z "java/lang/String" "COMPACT_STRINGS" "Z" (.int 1) (fun q => am_B w ≤ q) s w.2.2.1 := by
  obtain ⟨s0, a0, -, hW, -, -, -, -, -, -, -, -, hC, -⟩ := h
  exact va_Z.moved hW.alike hC
theorem am_known.fm {w : am_W} {s : State} (h : am_known w s) : am_fmt w s .null ∨ am_fmt w s (.ref (w.2.2.2.1 200)) := by
  obtain ⟨s0, a0, -, hW, -, -, -, -, -, -, -, -, -, hF⟩ := h
  rcases hF with hF | hF
  · exact Or.inl (va_Z.moved hW.alike hF)
  · exact Or.inr (va_Z.moved hW.alike hF)
section GO
variable {d : Nat} {μ : am_M} {mc ms : Nat} {Q : Option Value → am_H → Prop} {pc : Nat} {ls : List (Nat × Value)} {st : List Value} {h : am_H} {k n : Nat}
theorem g_ldcS {i o : Nat} {tx : String} (hq : (μ.1.cls, i, tx, o) ∈ am_strs) (hd : decode μ.2.1 pc = .ok (.ldc i, 2)) (kk : am_G d μ mc ms Q (pc + 2) ls (.retAddr o :: st) h k n) : am_G d μ mc ms Q pc ls st h k n := by
  intro p l e R s m args below meth c H locs arr w hc hk hr hS hl
  exact va_ldcS hc.1 hc.2.1 hc.2.2.2.1 (hk.str hq) hd (kk _ _ _ _ _ _ _ _ _ _ _ _ _ w hc hk hr hS hl)
theorem g_sgetV {i o : Nat} (ho : o < 4) (hw : Cond.fieldLink μ.1.cls i "java/lang/String" "value" "[B" ∈ lw_g) (hd : decode μ.2.1 pc = .ok (.getfield i, 3)) (kk : am_G d μ mc ms Q (pc + 3) ls (.retAddr (10 + o) :: st) h k n) : am_G d μ mc ms Q pc ls (.retAddr o :: st) h k n := by
  intro p l e R s m args below meth c H locs arr w hc hk hr hS hl
  obtain ⟨cf, kf, fi, f, cell, h1, h2, h3, h4, h5, h6⟩ := (hk.so ho).2.2.1
  exact W.getf hc.1 hc.2.1 hc.2.2.2.1 (hk.ts hw args) h1 h2 ((hr.2.1 _ (Nat.not_le.mp h6)).trans h3) h4 (v := .ref (w.2.2.2.1 (10 + o))) h5 rfl rfl hd (kk _ _ _ _ _ _ _ _ _ _ _ _ _ w hc hk hr hS hl)
theorem g_sgetC {i o : Nat} (ho : o < 4) (hw : Cond.fieldLink μ.1.cls i "java/lang/String" "coder" "B" ∈ lw_g) (hd : decode μ.2.1 pc = .ok (.getfield i, 3)) (kk : am_G d μ mc ms Q (pc + 3) ls (.int 0 :: st) h k n) : am_G d μ mc ms Q pc ls (.retAddr o :: st) h k n := by
  intro p l e R s m args below meth c H locs arr w hc hk hr hS hl
  obtain ⟨cf, kf, fi, f, cell, h1, h2, h3, h4, h5, h6⟩ := (hk.so ho).2.1
  exact W.getf hc.1 hc.2.1 hc.2.2.2.1 (hk.ts hw args) h1 h2 ((hr.2.1 _ (Nat.not_le.mp h6)).trans h3) h4 (v := .int 0) h5 rfl rfl hd (kk _ _ _ _ _ _ _ _ _ _ _ _ _ w hc hk hr hS hl)
theorem g_solen {o : Nat} (ho : o < 4) (hd : decode μ.2.1 pc = .ok (.arraylength, 1)) (kk : am_G d μ mc ms Q (pc + 1) ls (.int (Int32.ofNat (am_sl o)) :: st) h k n) : am_G d μ mc ms Q pc ls (.retAddr (10 + o) :: st) h k n := by
  intro p l e R s m args below meth c H locs arr w hc hk hr hS hl
  obtain ⟨cell, h1, h2, h3, h4, h5, h6, h7⟩ := (hk.so ho).2.2.2
  exact W.alen (n := Int32.ofNat (am_sl o)) hc.1 hc.2.1 ((hr.2.1 _ (Nat.not_le.mp h7)).trans h1) h2 h5 rfl rfl hd (kk _ _ _ _ _ _ _ _ _ _ _ _ _ w hc hk hr hS hl)
theorem am_sl_lt (o : Nat) : am_sl o < 2 ^ 31 := by
  unfold am_sl
  split <;> decide
theorem g_sbald {o : Nat} {i : Int32} (ho : o < 4) (hin : vp_in i (am_sl o)) (hd : decode μ.2.1 pc = .ok (.baload, 1)) (kk : am_G d μ mc ms Q (pc + 1) ls (.int (am_sb o i.toNatClampNeg) :: st) h k n) : am_G d μ mc ms Q pc ls (.int i :: .retAddr (10 + o) :: st) h k n := by
  intro p l e R s m args below meth c H locs arr w hc hk hr hS hl
  obtain ⟨cell, h1, h2, h3, h4, h5, h6, h7⟩ := (hk.so ho).2.2.2
  have hlt : i.toNatClampNeg < am_sl o := Nat.not_le.mp fun q => hin (Or.inr q)
  exact W.bald (v := .int (am_sb o i.toNatClampNeg)) hc.1 hc.2.1 ((hr.2.1 _ (Nat.not_le.mp h7)).trans h1) h2 h3 (fun c => c.elim (fun c => hin (Or.inl c)) (fun c => absurd c (by omega))) (h6 _ hlt) rfl rfl hd (kk _ _ _ _ _ _ _ _ _ _ _ _ _ w hc hk hr hS hl)
theorem g_getsC {i : Nat} (hw : Cond.fieldLink μ.1.cls i "java/lang/String" "COMPACT_STRINGS" "Z" ∈ lw_g) (hd : decode μ.2.1 pc = .ok (.getstatic i, 3)) (kk : am_G d μ mc ms Q (pc + 3) ls (.int 1 :: st) h k n) : am_G d μ mc ms Q pc ls st h k n := by
  intro p l e R s m args below meth c H locs arr w hc hk hr hS hl
  obtain ⟨cf, kf, fi, f, a, cell, h1, h2, h3, h4, h5, h6, h7, h8⟩ := hk.cs
  exact W.gets hc.1 hc.2.1 hc.2.2.2.1 (hk.ts hw args) h1 h2 h3 h4 ((hr.2.1 _ (Nat.not_le.mp h8)).trans h5) (fun e => by rw [e] at h6; cases h6) h7 rfl hd (kk _ _ _ _ _ _ _ _ _ _ _ _ _ w hc hk hr hS hl)
theorem g_getsF {i : Nat} (hw : Cond.fieldLink μ.1.cls i "jdk/internal/util/Preconditions" "SIOOBE_FORMATTER" "Ljava/util/function/BiFunction;" ∈ lw_g) (hd : decode μ.2.1 pc = .ok (.getstatic i, 3)) (kk : ∀ v : Value, (v = .null ∨ v = .retAddr 200) → am_G d μ mc ms Q (pc + 3) ls (v :: st) h k n) : am_G d μ mc ms Q pc ls st h k n := by
  intro p l e R s m args below meth c H locs arr w hc hk hr hS hl
  rcases hk.fm with hF | hF
  · obtain ⟨cf, kf, fi, f, a, cell, h1, h2, h3, h4, h5, h6, h7, h8⟩ := hF
    exact W.gets hc.1 hc.2.1 hc.2.2.2.1 (hk.ts hw args) h1 h2 h3 h4 ((hr.2.1 _ (Nat.not_le.mp h8)).trans h5) (fun e => by rw [e] at h6; cases h6) h7 rfl hd (kk .null (Or.inl rfl) _ _ _ _ _ _ _ _ _ _ _ _ _ w hc hk hr hS hl)
  · obtain ⟨cf, kf, fi, f, a, cell, h1, h2, h3, h4, h5, h6, h7, h8⟩ := hF
    exact W.gets hc.1 hc.2.1 hc.2.2.2.1 (hk.ts hw args) h1 h2 h3 h4 ((hr.2.1 _ (Nat.not_le.mp h8)).trans h5) (fun e => by rw [e] at h6; cases h6) h7 rfl hd (kk (.retAddr 200) (Or.inr rfl) _ _ _ _ _ _ _ _ _ _ _ _ _ w hc hk hr hS hl)
/-- a virtual call of a text's method -/
theorem g_callVs {d' o N i : Nat} {μ' : am_M} {as stk : List Value} {Q' : Option Value → am_H → Prop} (hct : am_Ct d' μ' (.retAddr o :: as) h 0 0 Q') (hY : am_Y μ' N) (hi : Cond.instanceMethod μ'.1 ∈ lw_g) (hs : Cond.selects μ'.1.cls μ'.1 μ'.1 ∈ lw_g) (hw : Cond.methodLink μ.1.cls i μ'.1 ∈ lw_g)
    (ho : o < 4) (hcC : μ'.1.cls = "java/lang/String") (hd : decode μ.2.1 pc = .ok (.invokevirtual i, 3)) (hst : stk = as.reverse ++ .retAddr o :: st) (hn : as.length = N) (hcat : (st.map fun v => v.category).sum ≤ 8) (hdd : d' < d)
    (hkc : k ≤ mc) (hkn : n ≤ ms) (kk : ∀ v h', Q' v h' → am_G d μ mc ms Q (pc + 3) ls (v.toList ++ st) h' k n) : am_G d μ mc ms Q pc ls stk h k n := by
  intro p l e R s m args below meth c0 H locs arr w hc hk hr hS hl
  obtain ⟨cell, q1, q2, q3, q4⟩ := (hk.so ho).1
  have pre : PreV s H μ'.1.cls (w.2.2.2.1 o) (am_Pc w (.retAddr o :: as) h) (as.map (am_cv w)) := ⟨am_blind _ _ _, ⟨cell, (hr.2.1 _ (Nat.not_le.mp q4)).trans q1, q2, by rw [hcC]; exact q3⟩, fun U hU hW => ⟨rfl, by rw [hU]; exact hr, hk.warm hW⟩⟩
  have run := va_runV (rest := st.map (am_cv w)) (g := F0 m pc arr (stk.map (am_cv w))) (locs := locs) (cells := k) (slots := n) (e := e) (below := below) (meth := meth) (Ts := []) ⟨hc.1, hc.2.1, hc.2.2.1, hc.2.2.2.1, fun w' h' => by cases h'⟩ (hct l w) ⟨am_callB hc hk hY hw hdd, hk.ts hi args, hk.ts hs args⟩ pre rfl (by rw [List.length_map]; exact hn) hl.1
    (by show stk.map (am_cv w) = _; rw [hst]; simp [am_cv]) (by show 2 * 0 + _ ≤ 8; rw [am_sum]; omega) hd ⟨Nat.le_trans hkc hc.2.2.2.2.2.2.2.2.2.1, Nat.le_trans hkn hc.2.2.2.2.2.2.2.2.2.2.1⟩
  exact am_after run hc hk hS hl kk
end GO
