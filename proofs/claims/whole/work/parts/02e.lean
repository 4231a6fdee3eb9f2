/-! ===== calls ===== -/
def am_Y (μ : am_M) (N : Nat) : Prop := Cond.code μ.1 μ.2.1 μ.2.2.1 μ.2.2.2.1 ∈ lw_g ∧ Cond.initialized μ.1.cls ∈ lw_g ∧ (μ.1.cls ≠ "java/lang/invoke/MethodHandle" ∧ μ.1.cls ≠ "java/lang/invoke/VarHandle") ∧ (parseMethodDescriptor μ.1.desc).map (fun d => d.parameters.length) = some N ∧ μ.2.2.1 ≤ 21
def am_q (v : Option Value) (hh : am_H) : Option Value → am_H → Prop := fun v' h' => v' = v ∧ h' = hh
theorem am_Ct.mono {d d' : Nat} {μ : am_M} {as : List Value} {h : am_H} {mc ms : Nat} {Q Q' : Option Value → am_H → Prop} (hct : am_Ct d μ as h mc ms Q) (hQ : ∀ v h', Q v h' → Q' v h') (hdd : d = d') : am_Ct d' μ as h mc ms Q' := by
  subst hdd
  intro l w p e ha hcas hck s m args below hf happ hP hT
  obtain ⟨t, o, h1, h2, h3, ⟨v, h', h4, h5, h6⟩, h7⟩ := hct l w p e ha hcas hck s m args below hf happ hP hT
  exact ⟨t, o, h1, h2, h3, ⟨v, h', h4, hQ _ _ h5, h6⟩, h7⟩
theorem am_blind (w : am_W) (as : List Value) (h : am_H) : FrameBlind (am_Pc w as h) := fun a U g mk hp => ⟨hp.1, hp.2.1, hp.2.2⟩
section GC
variable {d : Nat} {μ : am_M} {mc ms : Nat} {Q : Option Value → am_H → Prop} {pc : Nat} {ls : List (Nat × Value)} {st : List Value} {h : am_H} {k n : Nat}
variable {p : Program} {l : Launch} {e : Env} {R : Room} {s : State} {m : MethodId} {args : Array Value} {below : List Frame} {meth : Method} {c0 : Code} {H : Heap} {locs : List Loc} {arr : Array Slot} {w : am_W}
theorem am_after {mc' ms' : Nat} {Q' : Option Value → am_H → Prop} {a : Array Value} {stk : List Value} (run : va_Run p l e R s m args below meth c0 H locs k n mc' ms' (F0 m pc arr stk) (st.map (am_cv w)) (am_Qc w Q' a) (fun q => am_B w ≤ q))
    (hc : am_cx d μ mc ms w p R s m meth c0) (hk : am_known w s) (hS : ∀ q ∈ locs, am_B w ≤ q.base) (hl : lv_has arr μ.2.2.1 (ls.map (fun q => (q.1, am_cv w q.2))))
    (kk : ∀ v h', Q' v h' → am_G d μ mc ms Q (pc + 3) ls (v.toList ++ st) h' (k + mc') (n + ms')) : W p l e R s m args below meth c0 H locs k n (MQ below (am_Qc w Q) args s mc ms (fun q => am_B w ≤ q)) (F0 m pc arr stk) := by
  intro T hT X
  obtain ⟨v, st0, t, T', L, h0, X', hL, e1, e2, ⟨v', h', hv, hq, hrel⟩, go⟩ := run T hT X
  have hv := Outcome.returned.inj hv
  subst hv
  have K := kk v' h' hq p l e R s m args below meth c0 T'.heap (locs ++ L) arr w hc hk (by rw [e1]; exact hrel) (fun q hq => (List.mem_append.mp hq).elim (hS q) (hL q)) hl
  obtain ⟨t2, a1, b1⟩ := K T' rfl X'
  refine ⟨t2, go t2 ?_, b1⟩
  have es : (v'.map (am_cv w)).toList ++ st.map (am_cv w) = (v'.toList ++ st).map (am_cv w) := by cases v' <;> rfl
  show Steps p.tables e below (T'.setTop { F0 m pc arr stk with pc := pc + 3, stack := (v'.map (am_cv w)).toList ++ st.map (am_cv w) }) t2
  rw [es]
  exact a1
theorem am_callB {d' mc' ms' N i : Nat} {μ' : am_M} (hc : am_cx d μ mc ms w p R s m meth c0) (hk : am_known w s) (hY : am_Y μ' N) (hw : Cond.methodLink μ.1.cls i μ'.1 ∈ lw_g) (hdd : d' < d) :
    CallB R s args μ.1.cls i μ'.1 μ'.2.1 μ'.2.2.1 μ'.2.2.2.1 [Cond.code μ'.1 μ'.2.1 μ'.2.2.1 μ'.2.2.2.1] (am_rm d' mc' ms') mc' ms' N := by
  have h1 := hc.2.2.2.2.2.2.2.1
  have h2 := hc.2.2.2.2.2.2.2.2.1
  obtain ⟨y1, y2, y3, y4, y5⟩ := hY
  refine ⟨rfl, rfl, ?_, ?_, fun w' hw' a' U hW => ?_, List.mem_cons_self, hk.ts y1 args, hk.ts y2 args, y3, fun sig hs => ?_, hk.ts hw args⟩
  · show d' + 1 ≤ R.frames
    omega
  · show 8 + (μ'.2.2.1 + 11) + 40 * d' ≤ R.locals
    omega
  · rw [List.mem_singleton.mp hw']
    exact (hk.warm hW).ts y1 a'
  · rw [hs] at y4
    simpa using y4.symm
theorem am_sum (w : am_W) (st : List Value) : ((st.map (am_cv w)).map fun v => v.category).sum = (st.map fun v => v.category).sum := by
  congr 1
  rw [List.map_map]
  apply List.map_congr_left
  intro v _
  exact am_cat w v
/-- a virtual call of a method of the object's own class -/
theorem g_callV {d' mc' ms' o c N i : Nat} {μ' : am_M} {as stk : List Value} {Q' : Option Value → am_H → Prop} (hct : am_Ct d' μ' (.ref o :: as) h mc' ms' Q') (hY : am_Y μ' N) (hi : Cond.instanceMethod μ'.1 ∈ lw_g) (hs : Cond.selects μ'.1.cls μ'.1 μ'.1 ∈ lw_g) (hw : Cond.methodLink μ.1.cls i μ'.1 ∈ lw_g)
    (ho : h.1[o]? = some (.inl c)) (hcC : (am_C c).1 = μ'.1.cls) (hd : decode μ.2.1 pc = .ok (.invokevirtual i, 3)) (hst : stk = as.reverse ++ .ref o :: st) (hn : as.length = N) (hcat : (st.map fun v => v.category).sum ≤ 8) (hdd : d' < d) (hkc : k + mc' ≤ mc) (hkn : n + ms' ≤ ms)
    (kk : ∀ v h', Q' v h' → am_G d μ mc ms Q (pc + 3) ls (v.toList ++ st) h' (k + mc') (n + ms')) : am_G d μ mc ms Q pc ls stk h k n := by
  intro p l e R s m args below meth c0 H locs arr w hc hk hr hS hl
  obtain ⟨hc13, cell, q1, q2, q3, q4⟩ := hr.2.2 o _ ho
  have hcls := (hk.K.1 c _ (am_Ccl hc13)).2
  have pre : PreV s H μ'.1.cls (am_B w + o) (am_Pc w (.ref o :: as) h) (as.map (am_cv w)) := ⟨am_blind _ _ _, ⟨cell, q1, by rw [q3]; rfl, by rw [← hcC, q2]; exact hcls.1⟩, fun U hU hW => ⟨rfl, by rw [hU]; exact hr, hk.warm hW⟩⟩
  have run := va_runV (rest := st.map (am_cv w)) (g := F0 m pc arr (stk.map (am_cv w))) (locs := locs) (cells := k) (slots := n) (e := e) (below := below) (meth := meth) (Ts := []) ⟨hc.1, hc.2.1, hc.2.2.1, hc.2.2.2.1, fun w' h' => by cases h'⟩ (hct l w) ⟨am_callB hc hk hY hw hdd, hk.ts hi args, hk.ts hs args⟩ pre rfl (by rw [List.length_map]; exact hn) hl.1
    (by show stk.map (am_cv w) = _; rw [hst]; simp [am_cv]) (by show 2 * 0 + _ ≤ 8; rw [am_sum]; omega) hd ⟨Nat.le_trans hkc hc.2.2.2.2.2.2.2.2.2.1, Nat.le_trans hkn hc.2.2.2.2.2.2.2.2.2.2.1⟩
  exact am_after run hc hk hS hl kk
/-- a static call -/
theorem g_callS {d' mc' ms' N i : Nat} {μ' : am_M} {as stk : List Value} {Q' : Option Value → am_H → Prop} (hct : am_Ct d' μ' as h mc' ms' Q') (hY : am_Y μ' N) (hs : Cond.static μ'.1 ∈ lw_g) (hw : Cond.methodLink μ.1.cls i μ'.1 ∈ lw_g)
    (hd : decode μ.2.1 pc = .ok (.invokestatic i, 3)) (hst : stk = as.reverse ++ st) (hn : as.length = N) (hcat : (st.map fun v => v.category).sum ≤ 8) (hdd : d' < d) (hkc : k + mc' ≤ mc) (hkn : n + ms' ≤ ms)
    (kk : ∀ v h', Q' v h' → am_G d μ mc ms Q (pc + 3) ls (v.toList ++ st) h' (k + mc') (n + ms')) : am_G d μ mc ms Q pc ls stk h k n := by
  intro p l e R s m args below meth c0 H locs arr w hc hk hr hS hl
  have pre : PreS s H (am_Pc w as h) (as.map (am_cv w)) := ⟨am_blind _ _ _, fun U hU hW => ⟨rfl, by rw [hU]; exact hr, hk.warm hW⟩⟩
  have run := va_runS (rest := st.map (am_cv w)) (g := F0 m pc arr (stk.map (am_cv w))) (locs := locs) (cells := k) (slots := n) (e := e) (below := below) (meth := meth) (Ts := []) ⟨hc.1, hc.2.1, hc.2.2.1, hc.2.2.2.1, fun w' h' => by cases h'⟩ (hct l w) ⟨am_callB hc hk hY hw hdd, hk.ts hs args⟩ pre rfl (by rw [List.length_map]; exact hn) hl.1
    (by show stk.map (am_cv w) = _; rw [hst]; simp) (by show 2 * 0 + _ ≤ 8; rw [am_sum]; omega) hd ⟨Nat.le_trans hkc hc.2.2.2.2.2.2.2.2.2.1, Nat.le_trans hkn hc.2.2.2.2.2.2.2.2.2.2.1⟩
  exact am_after run hc hk hS hl kk
/-- a constructor's call -/
theorem g_callI {d' mc' ms' o N i : Nat} {μ' : am_M} {as stk : List Value} {Q' : Option Value → am_H → Prop} (hct : am_Ct d' μ' (.ref o :: as) h mc' ms' Q') (hY : am_Y μ' N) (hi : Cond.instanceMethod μ'.1 ∈ lw_g) (hret : μ'.2.2.2.1 = none) (hnm : μ'.1.name = "<init>") (hw : Cond.methodLink μ.1.cls i μ'.1 ∈ lw_g)
    (hd : decode μ.2.1 pc = .ok (.invokespecial i, 3)) (hst : stk = as.reverse ++ .ref o :: st) (hn : as.length = N) (hcat : (st.map fun v => v.category).sum ≤ 8) (hdd : d' < d) (hkc : k + mc' ≤ mc) (hkn : n + ms' ≤ ms)
    (kk : ∀ v h', Q' v h' → am_G d μ mc ms Q (pc + 3) ls (v.toList ++ st) h' (k + mc') (n + ms')) : am_G d μ mc ms Q pc ls stk h k n := by
  intro p l e R s m args below meth c0 H locs arr w hc hk hr hS hl
  have pre : PreS s H (am_Pc w (.ref o :: as) h) (.ref (am_B w + o) :: as.map (am_cv w)) := ⟨am_blind _ _ _, fun U hU hW => ⟨rfl, by rw [hU]; exact hr, hk.warm hW⟩⟩
  have cb := am_callB (mc' := mc') (ms' := ms') (args := args) hc hk hY hw hdd
  have hM := hct l w
  rw [hret] at cb hM
  have run := va_runI (rest := st.map (am_cv w)) (g := F0 m pc arr (stk.map (am_cv w))) (locs := locs) (cells := k) (slots := n) (e := e) (below := below) (meth := meth) (Ts := []) ⟨hc.1, hc.2.1, hc.2.2.1, hc.2.2.2.1, fun w' h' => by cases h'⟩ hM ⟨cb, hnm, hk.ts hi args⟩ pre rfl (by rw [List.length_map]; exact hn) hl.1
    (by show stk.map (am_cv w) = _; rw [hst]; simp [am_cv]) (by show 2 * 0 + _ ≤ 8; rw [am_sum]; omega) hd ⟨Nat.le_trans hkc hc.2.2.2.2.2.2.2.2.2.1, Nat.le_trans hkn hc.2.2.2.2.2.2.2.2.2.2.1⟩
  exact am_after run hc hk hS hl kk
theorem am_known.nest {w : am_W} {s : State} (h : am_known w s) {own host : String} {i : Nat} {y : MethodName} (hC : Cond.methodLinkNest own i y host ∈ lw_tbl) (args : Array Value) : (Cond.methodLinkNest own i y host).before args s = true := by
  obtain ⟨s0, a0, -, hW, ht, -⟩ := h
  exact va_Nw.use rfl (va_Nw.warmM hW (va_Nw.of rfl (ht _ hC)))
theorem am_callN {d' mc' ms' N i : Nat} {μ' : am_M} {host : String} (hc : am_cx d μ mc ms w p R s m meth c0) (hk : am_known w s) (hY : am_Y μ' N) (hw : Cond.methodLinkNest μ.1.cls i μ'.1 host ∈ lw_tbl) (hdd : d' < d) :
    va_CN R s args μ.1.cls i μ'.1 host μ'.2.1 μ'.2.2.1 μ'.2.2.2.1 [Cond.code μ'.1 μ'.2.1 μ'.2.2.1 μ'.2.2.2.1] (am_rm d' mc' ms') mc' ms' N := by
  have h1 := hc.2.2.2.2.2.2.2.1
  have h2 := hc.2.2.2.2.2.2.2.2.1
  obtain ⟨y1, y2, y3, y4, y5⟩ := hY
  refine ⟨⟨rfl, rfl, ?_, ?_, fun w' hw' a' U hW => ?_, List.mem_cons_self⟩, hk.ts y1 args, hk.ts y2 args, y3, fun sig hs => ?_, hk.nest hw args⟩
  · show d' + 1 ≤ R.frames
    omega
  · show 8 + (μ'.2.2.1 + 11) + 40 * d' ≤ R.locals
    omega
  · rw [List.mem_singleton.mp hw']
    exact (hk.warm hW).ts y1 a'
  · rw [hs] at y4
    simpa using y4.symm
/-- a nest mate's private constructor -/
theorem g_callIN {d' mc' ms' o N i : Nat} {μ' : am_M} {as stk : List Value} {host : String} {Q' : Option Value → am_H → Prop} (hct : am_Ct d' μ' (.ref o :: as) h mc' ms' Q') (hY : am_Y μ' N) (hi : Cond.instanceMethod μ'.1 ∈ lw_g) (hret : μ'.2.2.2.1 = none) (hnm : μ'.1.name = "<init>") (hw : Cond.methodLinkNest μ.1.cls i μ'.1 host ∈ lw_tbl)
    (hd : decode μ.2.1 pc = .ok (.invokespecial i, 3)) (hst : stk = as.reverse ++ .ref o :: st) (hn : as.length = N) (hcat : (st.map fun v => v.category).sum ≤ 8) (hdd : d' < d) (hkc : k + mc' ≤ mc) (hkn : n + ms' ≤ ms)
    (kk : ∀ v h', Q' v h' → am_G d μ mc ms Q (pc + 3) ls (v.toList ++ st) h' (k + mc') (n + ms')) : am_G d μ mc ms Q pc ls stk h k n := by
  intro p l e R s m args below meth c0 H locs arr w hc hk hr hS hl
  have pre : PreS s H (am_Pc w (.ref o :: as) h) (.ref (am_B w + o) :: as.map (am_cv w)) := ⟨am_blind _ _ _, fun U hU hW => ⟨rfl, by rw [hU]; exact hr, hk.warm hW⟩⟩
  have cb := am_callN (mc' := mc') (ms' := ms') (args := args) hc hk hY hw hdd
  have hM := hct l w
  rw [hret] at cb hM
  have run := va_runIN (rest := st.map (am_cv w)) (g := F0 m pc arr (stk.map (am_cv w))) (locs := locs) (cells := k) (slots := n) (e := e) (below := below) (meth := meth) (Ts := []) ⟨hc.1, hc.2.1, hc.2.2.1, hc.2.2.2.1, fun w' h' => by cases h'⟩ hM ⟨cb, hnm, hk.ts hi args⟩ pre rfl (by rw [List.length_map]; exact hn) hl.1
    (by show stk.map (am_cv w) = _; rw [hst]; simp [am_cv]) (by show 2 * 0 + _ ≤ 8; rw [am_sum]; omega) hd ⟨Nat.le_trans hkc hc.2.2.2.2.2.2.2.2.2.1, Nat.le_trans hkn hc.2.2.2.2.2.2.2.2.2.2.1⟩
  exact am_after run hc hk hS hl kk
/-- a nest mate's private static method -/
theorem g_callSN {d' mc' ms' N i : Nat} {μ' : am_M} {as stk : List Value} {host : String} {Q' : Option Value → am_H → Prop} (hct : am_Ct d' μ' as h mc' ms' Q') (hY : am_Y μ' N) (hs : Cond.static μ'.1 ∈ lw_g) (hw : Cond.methodLinkNest μ.1.cls i μ'.1 host ∈ lw_tbl)
    (hd : decode μ.2.1 pc = .ok (.invokestatic i, 3)) (hst : stk = as.reverse ++ st) (hn : as.length = N) (hcat : (st.map fun v => v.category).sum ≤ 8) (hdd : d' < d) (hkc : k + mc' ≤ mc) (hkn : n + ms' ≤ ms)
    (kk : ∀ v h', Q' v h' → am_G d μ mc ms Q (pc + 3) ls (v.toList ++ st) h' (k + mc') (n + ms')) : am_G d μ mc ms Q pc ls stk h k n := by
  intro p l e R s m args below meth c0 H locs arr w hc hk hr hS hl
  have pre : PreS s H (am_Pc w as h) (as.map (am_cv w)) := ⟨am_blind _ _ _, fun U hU hW => ⟨rfl, by rw [hU]; exact hr, hk.warm hW⟩⟩
  have run := va_runSN (rest := st.map (am_cv w)) (g := F0 m pc arr (stk.map (am_cv w))) (locs := locs) (cells := k) (slots := n) (e := e) (below := below) (meth := meth) (Ts := []) ⟨hc.1, hc.2.1, hc.2.2.1, hc.2.2.2.1, fun w' h' => by cases h'⟩ (hct l w) ⟨am_callN hc hk hY hw hdd, hk.ts hs args, trivial⟩ pre rfl (by rw [List.length_map]; exact hn) hl.1
    (by show stk.map (am_cv w) = _; rw [hst]; simp) (by show 2 * 0 + _ ≤ 8; rw [am_sum]; omega) hd ⟨Nat.le_trans hkc hc.2.2.2.2.2.2.2.2.2.1, Nat.le_trans hkn hc.2.2.2.2.2.2.2.2.2.2.1⟩
  exact am_after run hc hk hS hl kk
/-- Object's own constructor -/
theorem g_objInit {o i : Nat} (hw : Cond.methodLink μ.1.cls i Lib.objectInit ∈ lw_g) (hi : Cond.instanceMethod Lib.objectInit ∈ lw_g) (hcd : Cond.code Lib.objectInit ⟨#[0xb1]⟩ 1 none ∈ lw_g) (hd : decode μ.2.1 pc = .ok (.invokespecial i, 3)) (hcat : (st.map fun v => v.category).sum ≤ 8) (hdd : 0 < d)
    (kk : am_G d μ mc ms Q (pc + 3) ls st h k n) : am_G d μ mc ms Q pc ls (.ref o :: st) h k n := by
  intro p l e R s m args below meth c0 H locs arr w hc hk hr hS hl
  have h1 := hc.2.2.2.2.2.2.2.1
  have h2 := hc.2.2.2.2.2.2.2.2.1
  exact W.objInit hc.1 hc.2.1 hc.2.2.2.1 (hk.ts hw args) (hk.ts hi args) (hk.ts hcd args) rfl (by rw [hc.2.2.1]; exact hl.1) (a := am_B w + o) (rest := st.map (am_cv w)) rfl hd (by omega) (by show 2 * 0 + _ + 12 ≤ _; rw [am_sum]; omega) (kk _ _ _ _ _ _ _ _ _ _ _ _ _ w hc hk hr hS hl)
end GC
