/-! ===== the abstract heap's writes ===== -/
def am_rI (h : am_H) (o : Nat) (f : Nat → Int32) : am_H := (h.1, fun a => if a = o then f else h.2.1 a, h.2.2.1, h.2.2.2)
def am_rJ (h : am_H) (o : Nat) (f : Nat → Int64) : am_H := (h.1, h.2.1, fun a => if a = o then f else h.2.2.1 a, h.2.2.2)
def am_rR (h : am_H) (o : Nat) (f : Nat → Option Nat) : am_H := (h.1, h.2.1, h.2.2.1, fun a => if a = o then f else h.2.2.2 a)
def am_sI (h : am_H) (o j : Nat) (x : Int32) : am_H := am_rI h o (va_up (h.2.1 o) j x)
def am_sJ (h : am_H) (o j : Nat) (x : Int64) : am_H := am_rJ h o (va_up (h.2.2.1 o) j x)
def am_sR (h : am_H) (o j : Nat) (x : Option Nat) : am_H := am_rR h o (va_up (h.2.2.2 o) j x)
theorem am_rel_set {w : am_W} {h h' : am_H} {H H' : Heap} {o : Nat} {kd : am_K} (hr : am_rel w h H) (ho : h.1[o]? = some kd) (h1 : h'.1 = h.1) (h2 : ∀ a, a ≠ o → h'.2.1 a = h.2.1 a ∧ h'.2.2.1 a = h.2.2.1 a ∧ h'.2.2.2 a = h.2.2.2 a)
    (hat : am_at w h' o kd H') (hz : H'.size = H.size) (hq : ∀ q : Nat, q ≠ am_B w + o → H'[q]? = H[q]?) : am_rel w h' H' := by
  refine ⟨by rw [hz, h1]; exact hr.1, fun q hqB => (hq q (by omega)).trans (hr.2.1 q hqB), fun k kd' hk => ?_⟩
  rw [h1] at hk
  by_cases e : k = o
  · subst e
    cases hk.symm.trans ho
    exact hat
  · obtain ⟨e1, e2, e3⟩ := h2 k e
    have hkk := hr.2.2 k kd' hk
    have hne : H'[am_B w + k]? = H[am_B w + k]? := hq _ (by omega)
    have hv : ∀ ty j, am_v w h' ty k j = am_v w h ty k j := by
      intro ty j
      unfold am_v am_v0
      rw [e1, e2, e3]
    cases kd' with
    | inl c =>
      refine ⟨hkk.1, ?_⟩
      exact t_OB.to (t_OB.kept hkk.2 hne) (fun j _ => (hv _ j).symm)
    | inr q =>
      show H'[am_B w + k]? = _
      rw [hne]
      refine Eq.trans hkk ?_
      congr 2
      funext j
      exact (hv _ j).symm
theorem am_v_int {w : am_W} {h : am_H} {ty : FieldType} {k j : Nat} (ht : am_v0 h ty k j = .int (h.2.1 k j)) : am_v w h ty k j = .int (h.2.1 k j) := by
  unfold am_v
  rw [ht]
  rfl
def am_isI (ty : FieldType) : Bool := match ty with
  | .long => false
  | .object _ => false
  | .array _ => false
  | _ => true
def am_isR (ty : FieldType) : Bool := match ty with
  | .object _ => true
  | .array _ => true
  | _ => false
theorem am_v0_I {h : am_H} {ty : FieldType} (k j : Nat) (ht : am_isI ty = true) : am_v0 h ty k j = .int (h.2.1 k j) := by
  cases ty <;> first | rfl | (simp [am_isI] at ht)
theorem am_v0_R {h : am_H} {ty : FieldType} (k j : Nat) (ht : am_isR ty = true) : am_v0 h ty k j = va_rf (h.2.2.2 k j) := by
  cases ty <;> first | rfl | (simp [am_isR] at ht)
section GF
variable {d : Nat} {μ : am_M} {mc ms : Nat} {Q : Option Value → am_H → Prop} {pc : Nat} {ls : List (Nat × Value)} {st : List Value} {h : am_H} {k n : Nat}
/-- reading a field -/
theorem g_get {o c j i : Nat} {v : Value} (ho : h.1[o]? = some (.inl c)) (hj : j < (am_C c).2.2) (hw : Cond.fieldLink μ.1.cls i ((am_C c).2.1 j).1 ((am_C c).2.1 j).2.1 ((am_C c).2.1 j).2.2.1 ∈ lw_g) (hd : decode μ.2.1 pc = .ok (.getfield i, 3)) (hv : am_v0 h (am_ft c j) o j = v)
    (kk : am_G d μ mc ms Q (pc + 3) ls (v :: st) h k n) : am_G d μ mc ms Q pc ls (.ref o :: st) h k n := by
  intro p l e R s m args below meth c0 H locs arr w hc hk hr hS hl
  obtain ⟨hc13, cell, q1, q2, q3, q4⟩ := hr.2.2 o _ ho
  obtain ⟨hS1, hfc, kC, hkC, hkind⟩ := (hk.K).1 c _ (am_Ccl hc13)
  obtain ⟨cf, kf, fi, f, hi, hsl⟩ := hS1 j hj
  have hlays := u_lays (ws := lw_g) (args := args) (fun w' hw' => hk.ts hw' args) (am_Cing hc13) hj
  refine W.getf hc.1 hc.2.1 hc.2.2.2.1 (hk.ts hw args) hi (u_facts hfc hkC hlays hi).1 q1 (by rw [q3]; exact fun z => by cases z) (v := am_cv w v) ?_ rfl rfl hd (kk _ _ _ _ _ _ _ _ _ _ _ _ _ w hc hk hr hS hl)
  rw [hsl, q4 j hj]
  show some (am_cv w (am_v0 h (am_ft c j) o j)) = _
  rw [hv]
theorem g_geti {o c j i : Nat} (ho : h.1[o]? = some (.inl c)) (hj : j < (am_C c).2.2) (hw : Cond.fieldLink μ.1.cls i ((am_C c).2.1 j).1 ((am_C c).2.1 j).2.1 ((am_C c).2.1 j).2.2.1 ∈ lw_g) (hd : decode μ.2.1 pc = .ok (.getfield i, 3)) (ht : am_isI (am_ft c j) = true)
    (kk : am_G d μ mc ms Q (pc + 3) ls (.int (h.2.1 o j) :: st) h k n) : am_G d μ mc ms Q pc ls (.ref o :: st) h k n := g_get ho hj hw hd (am_v0_I o j ht) kk
theorem g_getr {o c j i q : Nat} (ho : h.1[o]? = some (.inl c)) (hj : j < (am_C c).2.2) (hw : Cond.fieldLink μ.1.cls i ((am_C c).2.1 j).1 ((am_C c).2.1 j).2.1 ((am_C c).2.1 j).2.2.1 ∈ lw_g) (hd : decode μ.2.1 pc = .ok (.getfield i, 3)) (ht : am_isR (am_ft c j) = true) (hq : h.2.2.2 o j = some q)
    (kk : am_G d μ mc ms Q (pc + 3) ls (.ref q :: st) h k n) : am_G d μ mc ms Q pc ls (.ref o :: st) h k n := g_get ho hj hw hd ((am_v0_R o j ht).trans (by rw [hq]; rfl)) kk
/-- what a field is behind a write: the three rows of the abstract heap at once -/
theorem am_putAt {w : am_W} {h' : am_H} {H' : Heap} {o c j : Nat} {v : Value} {cell : Cell} (hc13 : c < 13) (q2 : cell.cls = w.1.1 c) (q3 : cell.vm = .none) (q4 : ∀ i, i < (am_C c).2.2 → cell.slots[w.1.2 c i]? = some (am_v w h (am_ft c i) o i))
    (hap : ∀ x y, x < (am_C c).2.2 → y < (am_C c).2.2 → x ≠ y → (w.1.2 c) x ≠ (w.1.2 c) y) (hj : j < (am_C c).2.2) (e1 : H'[am_B w + o]? = some (cell.setSlot (w.1.2 c j) v)) (hv : v = am_v w h' (am_ft c j) o j) (ho : ∀ i, i ≠ j → am_v w h' (am_ft c i) o i = am_v w h (am_ft c i) o i) : am_at w h' o (.inl c) H' := by
  refine ⟨hc13, t_OB.to (V := updV (fun i => am_v w h (am_ft c i) o i) j v) ⟨_, e1, q2, q3, t_set q4 hap hj v⟩ (fun i _ => ?_)⟩
  by_cases e : i = j
  · subst e
    simp only [updV, if_pos]
    exact hv
  · simp only [updV, if_neg e]
    exact (ho i e).symm
theorem g_put {o c j i : Nat} {v : Value} {h' : am_H} (ho : h.1[o]? = some (.inl c)) (hj : j < (am_C c).2.2) (hw : Cond.fieldLink μ.1.cls i ((am_C c).2.1 j).1 ((am_C c).2.1 j).2.1 ((am_C c).2.1 j).2.2.1 ∈ lw_g) (hd : decode μ.2.1 pc = .ok (.putfield i, 3)) (hfin : ((am_C c).2.1 j).2.2.2 = false ∨ (((am_C c).2.1 j).2.2.2 = true ∧ μ.1.name = "<init>" ∧ ((am_C c).2.1 j).1 = μ.1.cls))
    (hn : ∀ w, narrow (am_ft c j) (am_cv w v) = am_cv w v) (hf : ∀ w, fits (am_ft c j) (am_cv w v) = true) (h1 : h'.1 = h.1) (h2 : ∀ a, a ≠ o → h'.2.1 a = h.2.1 a ∧ h'.2.2.1 a = h.2.2.1 a ∧ h'.2.2.2 a = h.2.2.2 a) (hv : am_v0 h' (am_ft c j) o j = v) (h3 : ∀ i, i ≠ j → am_v0 h' (am_ft c i) o i = am_v0 h (am_ft c i) o i)
    (kk : am_G d μ mc ms Q (pc + 3) ls st h' k n) : am_G d μ mc ms Q pc ls (v :: .ref o :: st) h k n := by
  intro p l e R s m args below meth c0 H locs arr w hc hk hr hS hl
  obtain ⟨hc13, cell, q1, q2, q3, q4⟩ := hr.2.2 o _ ho
  obtain ⟨hS1, hfc, kC, hkC, hkind⟩ := (hk.K).1 c _ (am_Ccl hc13)
  obtain ⟨cf, kf, fi, f, hi, hsl⟩ := hS1 j hj
  have hts : ∀ w' ∈ lw_g, w'.before args s = true := fun w' hw' => hk.ts hw' args
  have hlays := u_lays (ws := lw_g) (args := args) hts (am_Cing hc13) hj
  have hst := (u_facts hfc hkC hlays hi).1
  have hap := va_apart (own := μ.1.cls) hts (am_Cing hc13) (am_ft c) (am_Cty hc13) (am_Cnm hc13) hk.K (am_Ccl hc13)
  have hlay := hts _ (am_Cing hc13 _ (u_in_lay hj))
  have fin : ∀ H' : Heap, H'[am_B w + o]? = some (cell.setSlot f.slot (am_cv w v)) → H'.size = H.size → (∀ q : Nat, q ≠ am_B w + o → H'[q]? = H[q]?) → am_rel w h' H' := by
    intro H' e1 e2 e3
    rw [hsl] at e1
    exact am_rel_set hr ho h1 h2 (am_putAt (h := h) hc13 q2 q3 q4 hap hj e1 (by unfold am_v; rw [hv]) (fun i hi => by unfold am_v; rw [h3 i hi])) e2 e3
  have hS' : ∀ q ∈ locs ++ [⟨am_B w + o, f.slot⟩], am_B w ≤ q.base := by
    intro q hq
    rcases List.mem_append.mp hq with z | z
    · exact hS q z
    · rw [List.mem_singleton.mp z]
      exact Nat.le_add_right _ _
  rcases hfin with hfin | ⟨hfin, hin2, hdecl⟩
  · unfold u_lay at hlay
    rw [if_neg (by rw [hfin]; decide)] at hlay
    have h6 := u_store hfc hkC hkind hlay hi (am_Cty hc13 j hj) (hn w) (hf w)
    refine W.putK hc.1 hc.2.1 (f := f) ⟨hc.2.2.2.1, hk.ts hw args, ⟨_, _, _, hi⟩, hst⟩ (by rw [q2]; exact h6) q1 q3 (by rw [hsl]; exact k2_hasslot (q4 j hj)) rfl rfl hd fun H' e1 e2 e3 => ?_
    exact kk _ _ _ _ _ _ _ _ _ _ _ _ _ w hc hk (fin H' e1 e2 e3) hS' hl
  · unfold u_lay at hlay
    rw [if_pos hfin] at hlay
    have hcf : m.cls = cf := by
      obtain ⟨_, _, c', _, _, _, -, -, hf', -, -, -, hown2, -⟩ := Cond.laysFinal_spec hlay
      have e1 : c' = cf := by have := hi.symm.trans hf'; simp at this; exact this.1.symm
      rw [hdecl] at hown2
      rw [← e1]; exact Option.some.inj (hc.2.2.2.1.symm.trans hown2)
    have h6 := u_fits hfc hkC hkind (Or.inr hlay) hi (am_Cty hc13 j hj) (hn w) (hf w)
    refine W.putFinK hc.1 hc.2.1 hc.2.2.2.1 (hk.ts hw args) hi hst hcf (hc.2.2.2.2.2.2.1.trans hin2) (by rw [q2]; exact h6) q1 q3 (by rw [hsl]; exact k2_hasslot (q4 j hj)) rfl rfl hd fun H' e1 e2 e3 => ?_
    exact kk _ _ _ _ _ _ _ _ _ _ _ _ _ w hc hk (fin H' e1 e2 e3) hS' hl
theorem g_puti {o c j i : Nat} {x : Int32} (ho : h.1[o]? = some (.inl c)) (hj : j < (am_C c).2.2) (hw : Cond.fieldLink μ.1.cls i ((am_C c).2.1 j).1 ((am_C c).2.1 j).2.1 ((am_C c).2.1 j).2.2.1 ∈ lw_g) (hd : decode μ.2.1 pc = .ok (.putfield i, 3)) (hfin : ((am_C c).2.1 j).2.2.2 = false ∨ (((am_C c).2.1 j).2.2.2 = true ∧ μ.1.name = "<init>" ∧ ((am_C c).2.1 j).1 = μ.1.cls))
    (ht : am_isI (am_ft c j) = true) (hn : narrow (am_ft c j) (.int x) = .int x) (hf : fits (am_ft c j) (.int x) = true)
    (kk : am_G d μ mc ms Q (pc + 3) ls st (am_sI h o j x) k n) : am_G d μ mc ms Q pc ls (.int x :: .ref o :: st) h k n := by
  refine g_put (h' := am_sI h o j x) ho hj hw hd hfin (fun _ => hn) (fun _ => hf) rfl (fun a ha => ?_) ?_ (fun i hi => ?_) kk
  · exact ⟨by simp [am_sI, am_rI, ha], rfl, rfl⟩
  · rw [am_v0_I o j ht]; simp [am_sI, am_rI, va_up]
  · have e : (am_sI h o j x).2.1 o i = h.2.1 o i := by simp [am_sI, am_rI, va_up, hi]
    unfold am_v0
    rw [e]
    rfl
theorem g_putr {o c j i q : Nat} (ho : h.1[o]? = some (.inl c)) (hj : j < (am_C c).2.2) (hw : Cond.fieldLink μ.1.cls i ((am_C c).2.1 j).1 ((am_C c).2.1 j).2.1 ((am_C c).2.1 j).2.2.1 ∈ lw_g) (hd : decode μ.2.1 pc = .ok (.putfield i, 3)) (hfin : ((am_C c).2.1 j).2.2.2 = false ∨ (((am_C c).2.1 j).2.2.2 = true ∧ μ.1.name = "<init>" ∧ ((am_C c).2.1 j).1 = μ.1.cls))
    (ht : am_isR (am_ft c j) = true) (kk : am_G d μ mc ms Q (pc + 3) ls st (am_sR h o j (some q)) k n) : am_G d μ mc ms Q pc ls (.ref q :: .ref o :: st) h k n := by
  have hnf : ∀ (ty : FieldType) (a : Nat), am_isR ty = true → narrow ty (.ref a) = .ref a ∧ fits ty (.ref a) = true := by
    intro ty a hty
    cases ty <;> first | exact ⟨rfl, rfl⟩ | (simp [am_isR] at hty)
  refine g_put (h' := am_sR h o j (some q)) ho hj hw hd hfin (fun w => (hnf _ _ ht).1) (fun w => (hnf _ _ ht).2) rfl (fun a ha => ?_) ?_ (fun i hi => ?_) kk
  · exact ⟨rfl, rfl, by simp [am_sR, am_rR, ha]⟩
  · rw [am_v0_R o j ht]; simp [am_sR, am_rR, va_up, va_rf]
  · have e : (am_sR h o j (some q)).2.2.2 o i = h.2.2.2 o i := by simp [am_sR, am_rR, va_up, hi]
    unfold am_v0
    rw [e]
    rfl
end GF
