/-! ===== the abstract heap, and how it lies in the machine's ===== -/
abbrev am_K : Type := Nat ⊕ (FieldType × Nat)
abbrev am_H : Type := List am_K × (Nat → Nat → Int32) × (Nat → Nat → Int64) × (Nat → Nat → Option Nat)
abbrev am_W : Type := va_G × (FieldType → ClassId) × Heap × (Nat → Nat) × Nat × (Nat → Int32)
abbrev am_M : Type := MethodName × ByteArray × Nat × Option FieldType × Option (Nat × (Nat → Int32))
def lw_g : List Cond := lw_tbl.filter goodWord
theorem am_in {w : Cond} (i : Nat) (h : lw_tbl[i]? = some w) (g : goodWord w = true) : w ∈ lw_g := List.mem_filter.mpr ⟨List.mem_of_getElem? h, g⟩
def am_B (w : am_W) : Nat := w.2.2.1.size
def am_cv (w : am_W) (v : Value) : Value := match v with
  | .ref k => .ref (am_B w + k)
  | .retAddr n => .ref (w.2.2.2.1 n)
  | v => v
def am_C (c : Nat) : vw_C := match c with
  | 0 => (RX0, TX0, 6)
  | 1 => (RX1, TX1, 4)
  | 2 => (RX2, TX2, 6)
  | 3 => (RX3, TX3, 3)
  | 4 => (RX4, TX4, 8)
  | 5 => (RX5, TX5, 14)
  | 6 => (RX6, TX6, 5)
  | 7 => (RX7, TX7, 6)
  | 8 => (RX8, TX8, 4)
  | 9 => (RX9, TX9, 4)
  | 10 => (RX10, TX10, 15)
  | 11 => (RX11, TX11, 15)
  | _ => (RX12, TX12, 41)
def am_ft (c j : Nat) : FieldType := match c with
  | 0 => tyX0 j
  | 1 => tyX1 j
  | 2 => tyX2 j
  | 3 => tyX3 j
  | 4 => tyX4 j
  | 5 => tyX5 j
  | 6 => tyX6 j
  | 7 => tyX7 j
  | 8 => tyX8 j
  | 9 => tyX9 j
  | 10 => tyX10 j
  | 11 => tyX11 j
  | _ => tyX12 j
theorem am_Ccl {c : Nat} (h : c < 13) : vwCl[c]? = some (am_C c) := by
  match c, h with
  | 0, _ => rfl
  | 1, _ => rfl
  | 2, _ => rfl
  | 3, _ => rfl
  | 4, _ => rfl
  | 5, _ => rfl
  | 6, _ => rfl
  | 7, _ => rfl
  | 8, _ => rfl
  | 9, _ => rfl
  | 10, _ => rfl
  | 11, _ => rfl
  | 12, _ => rfl
theorem am_Cty {c : Nat} (h : c < 13) : ∀ k, k < (am_C c).2.2 → parseFieldDescriptor ((am_C c).2.1 k).2.2.1 = some (am_ft c k) := by
  match c, h with
  | 0, _ => exact tyX0_ok
  | 1, _ => exact tyX1_ok
  | 2, _ => exact tyX2_ok
  | 3, _ => exact tyX3_ok
  | 4, _ => exact tyX4_ok
  | 5, _ => exact tyX5_ok
  | 6, _ => exact tyX6_ok
  | 7, _ => exact tyX7_ok
  | 8, _ => exact tyX8_ok
  | 9, _ => exact tyX9_ok
  | 10, _ => exact tyX10_ok
  | 11, _ => exact tyX11_ok
  | 12, _ => exact tyX12_ok
theorem am_Cnm {c : Nat} (h : c < 13) : ∀ a, a < (am_C c).2.2 → ∀ b, b < (am_C c).2.2 → a ≠ b → ((am_C c).2.1 a).2.1 ≠ ((am_C c).2.1 b).2.1 := by
  match c, h with
  | 0, _ => exact nmX0
  | 1, _ => exact nmX1
  | 2, _ => exact nmX2
  | 3, _ => exact nmX3
  | 4, _ => exact nmX4
  | 5, _ => exact nmX5
  | 6, _ => exact nmX6
  | 7, _ => exact nmX7
  | 8, _ => exact nmX8
  | 9, _ => exact nmX9
  | 10, _ => exact nmX10
  | 11, _ => exact nmX11
  | 12, _ => exact nmX12
theorem am_Cin {c : Nat} (h : c < 13) : ∀ w ∈ u_ws (am_C c).1 (am_C c).2.1 (am_C c).2.2, w ∈ lw_tbl := by
  match c, h with
  | 0, _ => exact inX0
  | 1, _ => exact inX1
  | 2, _ => exact inX2
  | 3, _ => exact inX3
  | 4, _ => exact inX4
  | 5, _ => exact inX5
  | 6, _ => exact inX6
  | 7, _ => exact inX7
  | 8, _ => exact inX8
  | 9, _ => exact inX9
  | 10, _ => exact inX10
  | 11, _ => exact inX11
  | 12, _ => exact inX12
theorem am_lay_good (C : String) (T : u_T) (k : Nat) : goodWord (u_lay C T k) = true := by
  unfold u_lay
  split <;> rfl
theorem am_Cing {c : Nat} (h : c < 13) : ∀ w ∈ u_ws (am_C c).1 (am_C c).2.1 (am_C c).2.2, w ∈ lw_g := by
  intro w hw
  refine List.mem_filter.mpr ⟨am_Cin h w hw, ?_⟩
  obtain ⟨k, -, rfl⟩ := List.mem_map.mp hw
  exact am_lay_good _ _ _
def am_v0 (h : am_H) (ty : FieldType) (k j : Nat) : Value := match ty with
  | .long => .long (h.2.2.1 k j)
  | .object _ => va_rf (h.2.2.2 k j)
  | .array _ => va_rf (h.2.2.2 k j)
  | _ => .int (h.2.1 k j)
def am_v (w : am_W) (h : am_H) (ty : FieldType) (k j : Nat) : Value := am_cv w (am_v0 h ty k j)
def am_at (w : am_W) (h : am_H) (k : Nat) (kd : am_K) (H : Heap) : Prop := match kd with
  | .inl c => c < 13 ∧ t_OB (am_B w + k) (w.1.1 c) (am_C c).2.2 (w.1.2 c) H (fun j => am_v w h (am_ft c j) k j)
  | .inr q => H[am_B w + k]? = some (arrV (w.2.1 q.1) q.2 (fun j => am_v w h q.1 k j))
def am_rel (w : am_W) (h : am_H) (H : Heap) : Prop := H.size = am_B w + h.1.length ∧ (∀ q : Nat, q < am_B w → H[q]? = w.2.2.1[q]?) ∧ ∀ (k : Nat) (kd : am_K), h.1[k]? = some kd → am_at w h k kd H
def am_tl : List FieldType := [.int, .long, .byte, .boolean, .object RX9, .object RX5, .object RX7]
def am_tys (w : am_W) : List (ClassId × FieldType) := am_tl.map (fun t => (w.2.1 t, t))
def am_strs : List (String × Nat × String × Nat) := [("MovedSpan$Tokens", 47, ";:+-*()[]=<>", 0), ("MovedSpan$Tokens", 55, " river week span at rest person west east load to by walks serves foggy hour or and not gap who fog side ", 1), ("MovedSpanModel", 101, " river week span at rest person west east load to by walks serves foggy hour gap who fog side and or not ", 2), ("MovedSpanModel", 139, ";:+-*()[]=<>", 3)]
def am_sl (n : Nat) : Nat := match n with
  | 0 => 12
  | 1 => 105
  | 2 => 105
  | _ => 12
def am_sL (n : Nat) : List Int32 := match n with
  | 0 => [59, 58, 43, 45, 42, 40, 41, 91, 93, 61, 60, 62]
  | 1 => [32, 114, 105, 118, 101, 114, 32, 119, 101, 101, 107, 32, 115, 112, 97, 110, 32, 97, 116, 32, 114, 101, 115, 116, 32, 112, 101, 114, 115, 111, 110, 32, 119, 101, 115, 116, 32, 101, 97, 115, 116, 32, 108, 111, 97, 100, 32, 116, 111, 32, 98, 121, 32, 119, 97, 108, 107, 115, 32, 115, 101, 114, 118, 101, 115, 32, 102, 111, 103, 103, 121, 32, 104, 111, 117, 114, 32, 111, 114, 32, 97, 110, 100, 32, 110, 111, 116, 32, 103, 97, 112, 32, 119, 104, 111, 32, 102, 111, 103, 32, 115, 105, 100, 101, 32]
  | 2 => [32, 114, 105, 118, 101, 114, 32, 119, 101, 101, 107, 32, 115, 112, 97, 110, 32, 97, 116, 32, 114, 101, 115, 116, 32, 112, 101, 114, 115, 111, 110, 32, 119, 101, 115, 116, 32, 101, 97, 115, 116, 32, 108, 111, 97, 100, 32, 116, 111, 32, 98, 121, 32, 119, 97, 108, 107, 115, 32, 115, 101, 114, 118, 101, 115, 32, 102, 111, 103, 103, 121, 32, 104, 111, 117, 114, 32, 103, 97, 112, 32, 119, 104, 111, 32, 102, 111, 103, 32, 115, 105, 100, 101, 32, 97, 110, 100, 32, 111, 114, 32, 110, 111, 116, 32]
  | _ => [59, 58, 43, 45, 42, 40, 41, 91, 93, 61, 60, 62]
def am_sb (n j : Nat) : Int32 := (am_sL n).getD j 0
def am_so (w : am_W) (s0 : State) (n : Nat) : Prop := va_O "java/lang/String" (w.2.2.2.1 n) (fun q => am_B w ≤ q) s0 w.2.2.1 ∧ va_OF "java/lang/String" "coder" "B" (.int 0) (w.2.2.2.1 n) (fun q => am_B w ≤ q) s0 w.2.2.1 ∧ va_OF "java/lang/String" "value" "[B" (.ref (w.2.2.2.1 (10 + n))) (w.2.2.2.1 n) (fun q => am_B w ≤ q) s0 w.2.2.1 ∧ va_T .byte (w.2.2.2.1 (10 + n)) (am_sl n) (fun j => .int (am_sb n j)) (fun q => am_B w ≤ q) s0 w.2.2.1
def am_fmt (w : am_W) (s0 : State) (v : Value) : Prop := va_Z "jdk/internal/util/Preconditions" "SIOOBE_FORMATTER" "Ljava/util/function/BiFunction;" v (fun q => am_B w ≤ q) s0 w.2.2.1
/-- the start of the whole run, from which the tables' words come at every later state -/
def am_known (w : am_W) (s : State) : Prop := ∃ (s0 : State) (a0 : Array Value), s0.heap = w.2.2.1 ∧ s0.WarmedH s.vm ∧ (∀ c ∈ lw_tbl, c.before a0 s0 = true) ∧ (Jvm.Cond.and given_1 narrow_1).before a0 s0 = true ∧ a0 = #[.ref (w.2.2.2.1 100)] ∧ va_K w.1 vwCl (am_tys w) s0 ∧ va_X (w.2.2.2.1 100) w.2.2.2.2.1 w.2.2.2.2.2 s0 w.2.2.1 ∧ w.2.2.2.1 100 < am_B w ∧ (∀ q ∈ am_strs, vk_R q.1 q.2.1 q.2.2.1 (w.2.2.2.1 q.2.2.2) s0) ∧ (∀ n, n < 4 → am_so w s0 n) ∧ va_Z "java/lang/String" "COMPACT_STRINGS" "Z" (.int 1) (fun q => am_B w ≤ q) s0 w.2.2.1 ∧ (am_fmt w s0 .null ∨ am_fmt w s0 (.ref (w.2.2.2.1 200)))
theorem am_known.K {w : am_W} {s : State} (h : am_known w s) : va_K w.1 vwCl (am_tys w) s := by
  obtain ⟨s0, a0, -, hW, -, -, -, hK, -⟩ := h
  exact va_K.moved hW.alike hK
theorem am_known.ts {w : am_W} {s : State} (h : am_known w s) {c : Cond} (hc : c ∈ lw_g) (args : Array Value) : c.before args s = true := by
  obtain ⟨s0, a0, -, hW, ht, -⟩ := h
  obtain ⟨h1, h2⟩ := List.mem_filter.mp hc
  exact word_at hW (good_of_word h2) (ht c h1)
theorem am_known.warm {w : am_W} {s U : State} (h : am_known w s) (hU : s.WarmedH U.vm) : am_known w U := by
  obtain ⟨s0, a0, h1, hW, h2⟩ := h
  exact ⟨s0, a0, h1, State.WarmedH.trans hW hU, h2⟩
theorem am_cat (w : am_W) (v : Value) : (am_cv w v).category = v.category := by cases v <;> rfl
/-! ===== contracts ===== -/
def am_Pc (w : am_W) (as : List Value) (h : am_H) : Array Value → State → Prop := fun a U => a = (as.map (am_cv w)).toArray ∧ am_rel w h U.heap ∧ am_known w U
def am_Qc (w : am_W) (Q : Option Value → am_H → Prop) : Array Value → State → Outcome → State → Prop := fun _ _ o t => ∃ (v : Option Value) (h' : am_H), o = .returned (v.map (am_cv w)) ∧ Q v h' ∧ am_rel w h' t.heap
abbrev am_rm (d mc ms : Nat) : Room := { frames := d, cells := mc, slots := ms, locals := 40 * d }
def am_Ct (d : Nat) (μ : am_M) (as : List Value) (h : am_H) (mc ms : Nat) (Q : Option Value → am_H → Prop) : Prop :=
  ∀ (l : Launch) (w : am_W), Met l μ.1 [Cond.code μ.1 μ.2.1 μ.2.2.1 μ.2.2.2.1] (am_rm d mc ms) (am_Pc w as h) (am_Qc w Q) mc ms (fun q => am_B w ≤ q)
def am_cx (d : Nat) (μ : am_M) (mc ms : Nat) (w : am_W) (p : Program) (R : Room) (s : State) (m : MethodId) (meth : Method) (c : Code) : Prop :=
  p.tables.exec = Jvm.exec ∧ c.code = μ.2.1 ∧ c.maxLocals = μ.2.2.1 ∧ s.vm.findClass μ.1.cls = some m.cls ∧ meth.sig.returnType = μ.2.2.2.1 ∧ meth.locks = false ∧ meth.name = μ.1.name ∧ d ≤ R.frames ∧ 40 * d ≤ R.locals ∧ mc ≤ R.cells ∧ ms ≤ R.slots ∧ ∀ σ, μ.2.2.2.2 = some σ → w.2.2.2.2 = σ
def am_G (d : Nat) (μ : am_M) (mc ms : Nat) (Q : Option Value → am_H → Prop) (pc : Nat) (ls : List (Nat × Value)) (st : List Value) (h : am_H) (k n : Nat) : Prop :=
  ∀ (p : Program) (l : Launch) (e : Env) (R : Room) (s : State) (m : MethodId) (args : Array Value) (below : List Frame) (meth : Method) (c : Code) (H : Heap) (locs : List Loc) (arr : Array Slot) (w : am_W),
    am_cx d μ mc ms w p R s m meth c → am_known w s → am_rel w h H → (∀ q ∈ locs, am_B w ≤ q.base) → lv_has arr μ.2.2.1 (ls.map (fun q => (q.1, am_cv w q.2))) →
    W p l e R s m args below meth c H locs k n (MQ below (am_Qc w Q) args s mc ms (fun q => am_B w ≤ q)) (F0 m pc arr (st.map (am_cv w)))
theorem am_args (w : am_W) : ∀ (i : Nat) (as : List Value), lv_args i (as.map (am_cv w)) = (lv_args i as).map (fun q => (q.1, am_cv w q.2))
  | _, [] => rfl
  | i, v :: as => by
    show (i, am_cv w v) :: lv_args (if (am_cv w v).category = 2 then i + 2 else i + 1) (as.map (am_cv w)) = _
    rw [am_cat, am_args w _ as]
    rfl
theorem am_slw (w : am_W) : ∀ (as : List Value), (lg_sl (as.map (am_cv w))).length = (lg_sl as).length
  | [] => rfl
  | v :: as => by
    have e := am_slw w as
    simp only [lg_sl, List.map_cons, List.flatMap_cons, List.length_append] at e ⊢
    rw [am_cat]
    split <;> (simp only [List.length_cons, List.length_nil]; omega)
theorem am_Ct.of {d : Nat} {μ : am_M} {as : List Value} {h : am_H} {mc ms : Nat} {Q : Option Value → am_H → Prop} (hy : plainName μ.1.cls = true) (hσ : μ.2.2.2.2 = none) (hs : (lg_sl as).length ≤ μ.2.2.1) {ls : List (Nat × Value)} (hls : lv_args 0 as = ls)
    (hG : am_G d μ mc ms Q 0 ls [] h 0 0) : am_Ct d μ as h mc ms Q := by
  intro l w
  refine Met.ofW (cc := μ.2.1) (maxL := μ.2.2.1) (ret := μ.2.2.2.1) hy rfl ?_
  intro p e s m args below meth c s₁ B hml hv
  obtain ⟨rfl, hrel, hkn⟩ := hv
  rw [lg_entry_eq]
  have hl := lv_entry (as.map (am_cv w)) (n := μ.2.2.1) (by rw [am_slw]; exact hs)
  rw [am_args, hls] at hl
  exact hG p l e _ s m _ below meth c s.heap [] _ w ⟨B.exec, B.bytes, hml, findClass_of_methodNamed B.named, B.returns, B.notSynchronized, (name_of_methodNamed B.named B.method).1, Nat.le_refl _, Nat.le_refl _, Nat.le_refl _, Nat.le_refl _, fun σ e => by rw [hσ] at e; cases e⟩ hkn hrel (fun q hq => by cases hq) hl
theorem am_G.forget {d : Nat} {μ : am_M} {mc ms : Nat} {Q : Option Value → am_H → Prop} {pc : Nat} {ls ls' : List (Nat × Value)} {st : List Value} {h : am_H} {k n : Nat} (hs : ∀ q ∈ ls', q ∈ ls) (hG : am_G d μ mc ms Q pc ls' st h k n) : am_G d μ mc ms Q pc ls st h k n := by
  intro p l e R s m args below meth c H locs arr w hc hk hr hS hl
  refine hG p l e R s m args below meth c H locs arr w hc hk hr hS ⟨hl.1, hl.2.1, fun q hq => ?_⟩
  obtain ⟨x, hx, rfl⟩ := List.mem_map.mp hq
  exact hl.2.2 _ (List.mem_map.mpr ⟨x, hs x hx, rfl⟩)
theorem am_G.mono {d : Nat} {μ : am_M} {mc ms : Nat} {Q Q' : Option Value → am_H → Prop} {pc : Nat} {ls : List (Nat × Value)} {st : List Value} {h : am_H} {k n : Nat} (hs : ∀ v h', Q v h' → Q' v h') (hG : am_G d μ mc ms Q pc ls st h k n) : am_G d μ mc ms Q' pc ls st h k n := by
  intro p l e R s m args below meth c H locs arr w hc hk hr hS hl T hT X
  obtain ⟨t, h1, o, h2, h3, ⟨v, h', h4, h5, h6⟩, h7⟩ := hG p l e R s m args below meth c H locs arr w hc hk hr hS hl T hT X
  exact ⟨t, h1, o, h2, h3, ⟨v, h', h4, hs _ _ h5, h6⟩, h7⟩
