section GA
variable {d : Nat} {μ : am_M} {mc ms : Nat} {Q : Option Value → am_H → Prop} {pc : Nat} {ls : List (Nat × Value)} {st : List Value} {h : am_H} {k n : Nat}
theorem am_arrOf {w : am_W} {s : State} (hk : am_known w s) {ty : FieldType} (t0 : Nat) (ht : am_tl[t0]? = some ty) : ArrOfT s (w.2.1 ty) ty ∧ va_RA s (w.2.1 ty) ty :=
  hk.K.2 t0 (w.2.1 ty, ty) (by unfold am_tys; rw [List.getElem?_map, ht]; rfl)
theorem am_locs {w : am_W} {locs : List Loc} {o i : Nat} (hS : ∀ q ∈ locs, am_B w ≤ q.base) : ∀ q ∈ locs ++ [⟨am_B w + o, i⟩], am_B w ≤ q.base := by
  intro q hq
  rcases List.mem_append.mp hq with z | z
  · exact hS q z
  · rw [List.mem_singleton.mp z]
    exact Nat.le_add_right _ _
theorem am_arrSet {w : am_W} {h h' : am_H} {H' : Heap} {o i L : Nat} {ty : FieldType} {v : Value} (e1 : H'[am_B w + o]? = some ((arrV (w.2.1 ty) L (fun j => am_v w h ty o j)).setSlot i v)) (hv : am_v w h' ty o i = v) (ho : ∀ j, j ≠ i → am_v w h' ty o j = am_v w h ty o j) : am_at w h' o (.inr (ty, L)) H' := by
  show H'[am_B w + o]? = _
  rw [e1, arrV_store]
  congr 2
  funext j
  by_cases e : j = i
  · subst e
    simp only [updV, if_pos]
    exact hv.symm
  · simp only [updV, if_neg e]
    exact (ho j e).symm
theorem g_iald {o L : Nat} {i : Int32} (ho : h.1[o]? = some (.inr (.int, L))) (hin : vp_in i L) (hd : decode μ.2.1 pc = .ok (.iaload, 1))
    (kk : am_G d μ mc ms Q (pc + 1) ls (.int (h.2.1 o i.toNatClampNeg) :: st) h k n) : am_G d μ mc ms Q pc ls (.int i :: .ref o :: st) h k n := by
  intro p l e R s m args below meth c0 H locs arr w hc hk hr hS hl
  have hlt : i.toNatClampNeg < L := Nat.not_le.mp fun q => hin (Or.inr q)
  exact W.iald (v := .int (h.2.1 o i.toNatClampNeg)) hc.1 hc.2.1 (hr.2.2 o _ ho) ((am_arrOf hk 0 rfl).1 L _) (fun q => by cases q) (by rw [arrV_size]; exact hin) (by rw [arrV_read _ _ hlt]; rfl) rfl rfl hd (kk _ _ _ _ _ _ _ _ _ _ _ _ _ w hc hk hr hS hl)
theorem g_bald {o L : Nat} {i : Int32} (ho : h.1[o]? = some (.inr (.byte, L))) (hin : vp_in i L) (hd : decode μ.2.1 pc = .ok (.baload, 1))
    (kk : am_G d μ mc ms Q (pc + 1) ls (.int (h.2.1 o i.toNatClampNeg) :: st) h k n) : am_G d μ mc ms Q pc ls (.int i :: .ref o :: st) h k n := by
  intro p l e R s m args below meth c0 H locs arr w hc hk hr hS hl
  have hlt : i.toNatClampNeg < L := Nat.not_le.mp fun q => hin (Or.inr q)
  exact W.bald (v := .int (h.2.1 o i.toNatClampNeg)) hc.1 hc.2.1 (hr.2.2 o _ ho) ((am_arrOf hk 2 rfl).1 L _) (fun q => by cases q) (by rw [arrV_size]; exact hin) (by rw [arrV_read _ _ hlt]; rfl) rfl rfl hd (kk _ _ _ _ _ _ _ _ _ _ _ _ _ w hc hk hr hS hl)
theorem g_zald {o L : Nat} {i : Int32} (ho : h.1[o]? = some (.inr (.boolean, L))) (hin : vp_in i L) (hd : decode μ.2.1 pc = .ok (.baload, 1))
    (kk : am_G d μ mc ms Q (pc + 1) ls (.int (h.2.1 o i.toNatClampNeg) :: st) h k n) : am_G d μ mc ms Q pc ls (.int i :: .ref o :: st) h k n := by
  intro p l e R s m args below meth c0 H locs arr w hc hk hr hS hl
  have hlt : i.toNatClampNeg < L := Nat.not_le.mp fun q => hin (Or.inr q)
  exact W.zald (v := .int (h.2.1 o i.toNatClampNeg)) hc.1 hc.2.1 (hr.2.2 o _ ho) ((am_arrOf hk 3 rfl).1 L _) (fun q => by cases q) (by rw [arrV_size]; exact hin) (by rw [arrV_read _ _ hlt]; rfl) rfl rfl hd (kk _ _ _ _ _ _ _ _ _ _ _ _ _ w hc hk hr hS hl)
theorem g_lald {o L : Nat} {i : Int32} (ho : h.1[o]? = some (.inr (.long, L))) (hin : vp_in i L) (hd : decode μ.2.1 pc = .ok (.laload, 1))
    (kk : am_G d μ mc ms Q (pc + 1) ls (.long (h.2.2.1 o i.toNatClampNeg) :: st) h k n) : am_G d μ mc ms Q pc ls (.int i :: .ref o :: st) h k n := by
  intro p l e R s m args below meth c0 H locs arr w hc hk hr hS hl
  have hlt : i.toNatClampNeg < L := Nat.not_le.mp fun q => hin (Or.inr q)
  exact W.lald (v := .long (h.2.2.1 o i.toNatClampNeg)) hc.1 hc.2.1 (hr.2.2 o _ ho) ((am_arrOf hk 1 rfl).1 L _) (fun q => by cases q) (by rw [arrV_size]; exact hin) (by rw [arrV_read _ _ hlt]; rfl) rfl rfl hd (kk _ _ _ _ _ _ _ _ _ _ _ _ _ w hc hk hr hS hl)
theorem g_aald {o L t0 q : Nat} {C : String} {i : Int32} (ho : h.1[o]? = some (.inr (.object C, L))) (ht : am_tl[t0]? = some (.object C)) (hin : vp_in i L) (hd : decode μ.2.1 pc = .ok (.aaload, 1)) (hq : h.2.2.2 o i.toNatClampNeg = some q)
    (kk : am_G d μ mc ms Q (pc + 1) ls (.ref q :: st) h k n) : am_G d μ mc ms Q pc ls (.int i :: .ref o :: st) h k n := by
  intro p l e R s m args below meth c0 H locs arr w hc hk hr hS hl
  have hlt : i.toNatClampNeg < L := Nat.not_le.mp fun q => hin (Or.inr q)
  exact W.aald (v := .ref (am_B w + q)) (ty := .object C) hc.1 hc.2.1 (hr.2.2 o _ ho) ((am_arrOf hk t0 ht).1 L _) rfl (fun q => by cases q) (by rw [arrV_size]; exact hin) (by rw [arrV_read _ _ hlt]; show some (am_cv w (va_rf (h.2.2.2 o i.toNatClampNeg))) = _; rw [hq]; rfl) rfl rfl hd (kk _ _ _ _ _ _ _ _ _ _ _ _ _ w hc hk hr hS hl)
theorem g_iast {o L : Nat} {i : Int32} {x : Int32} (ho : h.1[o]? = some (.inr (.int, L))) (hin : vp_in i L) (hd : decode μ.2.1 pc = .ok (.iastore, 1))
    (kk : am_G d μ mc ms Q (pc + 1) ls st (am_sI h o i.toNatClampNeg x) k n) : am_G d μ mc ms Q pc ls (.int x :: .int i :: .ref o :: st) h k n := by
  intro p l e R s m args below meth c0 H locs arr w hc hk hr hS hl
  refine W.iast hc.1 hc.2.1 (hr.2.2 o _ ho) ((am_arrOf hk 0 rfl).1 L _) (fun q => by cases q) (by rw [arrV_size]; exact hin) rfl rfl hd fun H1 e z oq => ?_
  refine kk _ _ _ _ _ _ _ _ _ _ _ _ _ w hc hk (am_rel_set (h' := am_sI h o i.toNatClampNeg x) hr ho rfl (fun a ha => ⟨by simp [am_sI, am_rI, ha], rfl, rfl⟩) (am_arrSet (h := h) e (by unfold am_v; simp [am_v0, am_sI, am_rI, va_up, am_cv]) (fun j hj => ?_)) z oq) (am_locs hS) hl
  unfold am_v am_v0
  simp [am_sI, am_rI, va_up, hj]
theorem g_bast {o L : Nat} {i : Int32} {x : Int32} (ho : h.1[o]? = some (.inr (.byte, L))) (hin : vp_in i L) (hd : decode μ.2.1 pc = .ok (.bastore, 1))
    (kk : am_G d μ mc ms Q (pc + 1) ls st (am_sI h o i.toNatClampNeg (vp_nar .byte x)) k n) : am_G d μ mc ms Q pc ls (.int x :: .int i :: .ref o :: st) h k n := by
  intro p l e R s m args below meth c0 H locs arr w hc hk hr hS hl
  refine W.bast hc.1 hc.2.1 (hr.2.2 o _ ho) ((am_arrOf hk 2 rfl).1 L _) (fun q => by cases q) (by rw [arrV_size]; exact hin) rfl rfl hd fun H1 e z oq => ?_
  refine kk _ _ _ _ _ _ _ _ _ _ _ _ _ w hc hk (am_rel_set (h' := am_sI h o i.toNatClampNeg (vp_nar .byte x)) hr ho rfl (fun a ha => ⟨by simp [am_sI, am_rI, ha], rfl, rfl⟩) (am_arrSet (h := h) e (by unfold am_v; simp [am_v0, am_sI, am_rI, va_up, am_cv, vp_nar, narrow]) (fun j hj => ?_)) z oq) (am_locs hS) hl
  unfold am_v am_v0
  simp [am_sI, am_rI, va_up, hj]
theorem g_zast {o L : Nat} {i : Int32} {x : Int32} (ho : h.1[o]? = some (.inr (.boolean, L))) (hin : vp_in i L) (hd : decode μ.2.1 pc = .ok (.bastore, 1))
    (kk : am_G d μ mc ms Q (pc + 1) ls st (am_sI h o i.toNatClampNeg (vp_nar .boolean x)) k n) : am_G d μ mc ms Q pc ls (.int x :: .int i :: .ref o :: st) h k n := by
  intro p l e R s m args below meth c0 H locs arr w hc hk hr hS hl
  refine W.zast hc.1 hc.2.1 (hr.2.2 o _ ho) ((am_arrOf hk 3 rfl).1 L _) (fun q => by cases q) (by rw [arrV_size]; exact hin) rfl rfl hd fun H1 e z oq => ?_
  refine kk _ _ _ _ _ _ _ _ _ _ _ _ _ w hc hk (am_rel_set (h' := am_sI h o i.toNatClampNeg (vp_nar .boolean x)) hr ho rfl (fun a ha => ⟨by simp [am_sI, am_rI, ha], rfl, rfl⟩) (am_arrSet (h := h) e (by unfold am_v; simp [am_v0, am_sI, am_rI, va_up, am_cv, vp_nar, narrow]) (fun j hj => ?_)) z oq) (am_locs hS) hl
  unfold am_v am_v0
  simp [am_sI, am_rI, va_up, hj]
theorem g_last {o L : Nat} {i : Int32} {x : Int64} (ho : h.1[o]? = some (.inr (.long, L))) (hin : vp_in i L) (hd : decode μ.2.1 pc = .ok (.lastore, 1))
    (kk : am_G d μ mc ms Q (pc + 1) ls st (am_sJ h o i.toNatClampNeg x) k n) : am_G d μ mc ms Q pc ls (.long x :: .int i :: .ref o :: st) h k n := by
  intro p l e R s m args below meth c0 H locs arr w hc hk hr hS hl
  refine W.last hc.1 hc.2.1 (hr.2.2 o _ ho) ((am_arrOf hk 1 rfl).1 L _) (fun q => by cases q) (by rw [arrV_size]; exact hin) rfl rfl hd fun H1 e z oq => ?_
  refine kk _ _ _ _ _ _ _ _ _ _ _ _ _ w hc hk (am_rel_set (h' := am_sJ h o i.toNatClampNeg x) hr ho rfl (fun a ha => ⟨rfl, by simp [am_sJ, am_rJ, ha], rfl⟩) (am_arrSet (h := h) e (by unfold am_v; simp [am_v0, am_sJ, am_rJ, va_up, am_cv]) (fun j hj => ?_)) z oq) (am_locs hS) hl
  unfold am_v am_v0
  simp [am_sJ, am_rJ, va_up, hj]
theorem g_aast {o L t0 q c : Nat} {i : Int32} (ho : h.1[o]? = some (.inr (.object (am_C c).1, L))) (ht : am_tl[t0]? = some (.object (am_C c).1)) (hq : h.1[q]? = some (.inl c)) (hin : vp_in i L) (hd : decode μ.2.1 pc = .ok (.aastore, 1))
    (kk : am_G d μ mc ms Q (pc + 1) ls st (am_sR h o i.toNatClampNeg (some q)) k n) : am_G d μ mc ms Q pc ls (.ref q :: .int i :: .ref o :: st) h k n := by
  intro p l e R s m args below meth c0 H locs arr w hc hk hr hS hl
  have hlt : i.toNatClampNeg < L := Nat.not_le.mp fun q => hin (Or.inr q)
  have h0 : ¬ i < 0 := fun q => hin (Or.inl q)
  obtain ⟨hc13, cellV, g1, g2, g3, -⟩ := hr.2.2 q _ hq
  have hcls := (hk.K.1 c _ (am_Ccl hc13)).2
  obtain ⟨kA, comp, k1, k2, k3, -⟩ := (am_arrOf hk t0 ht).2
  have hcomp : comp = w.1.1 c := Option.some.inj (k3.symm.trans hcls.1)
  subst hcomp
  obtain ⟨kC, hkC, -⟩ := hcls.2
  refine W.aast hc.1 hc.2.1 (hr.2.2 o _ ho) (fun q h => by cases h) (fun h => by cases h) k1 k2 rfl hkC ⟨h0, by rw [arrV_size]; exact hlt⟩ g1 (fun q h => by rw [g3] at h; cases h) (by rw [g2]; exact hkC) (by rw [g2]; exact va_assign hcls) rfl rfl hd fun H1 e z oq => ?_
  refine kk _ _ _ _ _ _ _ _ _ _ _ _ _ w hc hk (am_rel_set (h' := am_sR h o i.toNatClampNeg (some q)) hr ho rfl (fun a ha => ⟨rfl, rfl, by simp [am_sR, am_rR, ha]⟩) (am_arrSet (h := h) e (by unfold am_v; simp [am_v0, am_sR, am_rR, va_up, am_cv, va_rf]) (fun j hj => ?_)) z oq) (am_locs hS) hl
  unfold am_v am_v0
  simp [am_sR, am_rR, va_up, hj]
theorem g_alen {o L t0 : Nat} {ty : FieldType} {v : Int32} (ho : h.1[o]? = some (.inr (ty, L))) (ht : am_tl[t0]? = some ty) (hv : Int32.ofNat L = v) (hd : decode μ.2.1 pc = .ok (.arraylength, 1))
    (kk : am_G d μ mc ms Q (pc + 1) ls (.int v :: st) h k n) : am_G d μ mc ms Q pc ls (.ref o :: st) h k n := by
  intro p l e R s m args below meth c0 H locs arr w hc hk hr hS hl
  exact W.alen (n := v) hc.1 hc.2.1 (hr.2.2 o _ ho) ((am_arrOf hk t0 ht).1 L _) (by rw [arrV_size]; exact hv) rfl rfl hd (kk _ _ _ _ _ _ _ _ _ _ _ _ _ w hc hk hr hS hl)
theorem am_known.X {w : am_W} {s : State} (h : am_known w s) : va_X (w.2.2.2.1 100) w.2.2.2.2.1 w.2.2.2.2.2 s w.2.2.1 ∧ w.2.2.2.1 100 < am_B w := by
  obtain ⟨s0, a0, -, hW, -, -, -, -, hX, hb, -⟩ := h
  exact ⟨va_X.moved hW.alike hX, hb⟩
theorem g_sld {i : Int32} {L : Nat} {xs : Nat → Int32} (hσ : μ.2.2.2.2 = some (L, xs)) (hin : vp_in i L) (hd : decode μ.2.1 pc = .ok (.iaload, 1))
    (kk : am_G d μ mc ms Q (pc + 1) ls (.int (xs i.toNatClampNeg) :: st) h k n) : am_G d μ mc ms Q pc ls (.int i :: .retAddr 100 :: st) h k n := by
  intro p l e R s m args below meth c0 H locs arr w hc hk hr hS hl
  obtain ⟨⟨scr, h1, h2, h3, h4, h5⟩, hb⟩ := hk.X
  rw [hc.2.2.2.2.2.2.2.2.2.2.2 _ hσ] at h4 h5
  have hlt : i.toNatClampNeg < L := Nat.not_le.mp fun q => hin (Or.inr q)
  exact W.iald (v := .int (xs i.toNatClampNeg)) hc.1 hc.2.1 ((hr.2.1 _ hb).trans h1) h2 h3 (by rw [h4]; exact hin) (h5 _ hlt) rfl rfl hd (kk _ _ _ _ _ _ _ _ _ _ _ _ _ w hc hk hr hS hl)
theorem g_slen {L : Nat} {xs : Nat → Int32} {v : Int32} (hσ : μ.2.2.2.2 = some (L, xs)) (hv : Int32.ofNat L = v) (hd : decode μ.2.1 pc = .ok (.arraylength, 1))
    (kk : am_G d μ mc ms Q (pc + 1) ls (.int v :: st) h k n) : am_G d μ mc ms Q pc ls (.retAddr 100 :: st) h k n := by
  intro p l e R s m args below meth c0 H locs arr w hc hk hr hS hl
  obtain ⟨⟨scr, h1, h2, h3, h4, h5⟩, hb⟩ := hk.X
  rw [hc.2.2.2.2.2.2.2.2.2.2.2 _ hσ] at h4
  exact W.alen (n := v) hc.1 hc.2.1 ((hr.2.1 _ hb).trans h1) h2 (by rw [h4]; exact hv) rfl rfl hd (kk _ _ _ _ _ _ _ _ _ _ _ _ _ w hc hk hr hS hl)
def am_df (ty : FieldType) : Value := defaultValue ty
def am_new (h : am_H) (kd : am_K) : am_H := (h.1 ++ [kd], fun a => if a = h.1.length then (fun _ => 0) else h.2.1 a, fun a => if a = h.1.length then (fun _ => 0) else h.2.2.1 a, fun a => if a = h.1.length then (fun _ => none) else h.2.2.2 a)
theorem am_new_v {w : am_W} {h : am_H} {kd : am_K} (ty : FieldType) (j : Nat) (hty : ty ≠ .float ∧ ty ≠ .double) : am_v w (am_new h kd) ty h.1.length j = defaultValue ty := by
  unfold am_v
  cases ty <;> first | (simp [am_v0, am_new, am_cv, defaultValue, va_rf]; done) | exact absurd rfl hty.1 | exact absurd rfl hty.2
theorem am_rel_new {w : am_W} {h : am_H} {H H' : Heap} {kd : am_K} (hr : am_rel w h H) (hz : H'.size = H.size + 1) (ho : ∀ q : Nat, q < H.size → H'[q]? = H[q]?) (hat : am_at w (am_new h kd) h.1.length kd H') : am_rel w (am_new h kd) H' := by
  have hz0 := hr.1
  refine ⟨by rw [hz, hr.1]; simp [am_new]; omega, fun q hq => (ho q (by omega)).trans (hr.2.1 q hq), fun a kd' ha => ?_⟩
  by_cases e : a = h.1.length
  · subst e
    have : kd' = kd := by simpa [am_new] using ha.symm
    rw [this]; exact hat
  · have ha' : h.1[a]? = some kd' := by
      have hl : a < (h.1 ++ [kd]).length := (List.getElem?_eq_some_iff.mp ha).1
      rw [List.length_append] at hl
      simp only [List.length_singleton] at hl
      exact (List.getElem?_append_left (l₂ := [kd]) (by omega : a < h.1.length)).symm.trans ha
    have hlt : a < h.1.length := (List.getElem?_eq_some_iff.mp ha').1
    have hkk := hr.2.2 a kd' ha'
    have hne : H'[am_B w + a]? = H[am_B w + a]? := ho _ (by omega)
    have hv : ∀ ty j, am_v w (am_new h kd) ty a j = am_v w h ty a j := by
      intro ty j
      unfold am_v am_v0
      simp [am_new, e]
    cases kd' with
    | inl c =>
      refine ⟨hkk.1, ?_⟩
      exact t_OB.to (t_OB.kept hkk.2 hne) (fun j _ => (hv _ j).symm)
    | inr q =>
      show H'[am_B w + a]? = _
      rw [hne]
      refine Eq.trans hkk ?_
      congr 2
      funext j
      exact (hv _ j).symm
theorem g_new {c i : Nat} (hc13 : c < 13) (hw : Cond.classLink μ.1.cls i (am_C c).1 ∈ lw_g) (hw1 : Cond.instantiable (am_C c).1 (am_C c).2.2 ∈ lw_g) (hw2 : Cond.initialized (am_C c).1 ∈ lw_g) (hft : ∀ j, j < (am_C c).2.2 → am_ft c j ≠ .float ∧ am_ft c j ≠ .double) (hd : decode μ.2.1 pc = .ok (.new i, 3)) (hkc : k + 1 ≤ mc) (hkn : n + (am_C c).2.2 ≤ ms)
    (kk : am_G d μ mc ms Q (pc + 3) ls (.ref h.1.length :: st) (am_new h (.inl c)) (k + 1) (n + (am_C c).2.2)) : am_G d μ mc ms Q pc ls st h k n := by
  intro p l e R s m args below meth c0 H locs arr w hc hk hr hS hl
  have hKn := hk.K.1 c _ (am_Ccl hc13)
  refine W.newcK hc.1 hc.2.1 hc.2.2.2.1 (hk.ts hw args) (hk.ts hw1 args) (hk.ts hw2 args) rfl hd (Nat.le_trans hkc hc.2.2.2.2.2.2.2.2.2.1) (Nat.le_trans hkn hc.2.2.2.2.2.2.2.2.2.2.1) hKn.2.1 rfl fun H1 kC hkC e1 z1 o1 => ?_
  have hz0 := hr.1
  have hat : am_at w (am_new h (.inl c)) h.1.length (.inl c) H1 := by
    refine ⟨hc13, ?_⟩
    rw [← hz0]
    exact (u_born (am_ft c) (fun w' hw' => hk.ts hw' args) (am_Cing hc13) hKn hkC e1 (am_Cty hc13)).to (fun j hj => (am_new_v _ j (hft j hj)).symm)
  have := kk _ l e R s m args below meth c0 H1 locs arr w hc hk (am_rel_new hr z1 o1 hat) hS hl
  rw [hz0]
  exact this
theorem g_newa {i : Int32} {N t0 : Nat} {aty : ArrayType} {ty : FieldType} (hty : newarray.typeOf aty = ty) (ht : am_tl[t0]? = some ty) (hw : Cond.arrayClass ty ∈ lw_g) (hfd : ty ≠ .float ∧ ty ≠ .double) (hi : ¬ i < 0) (hN : i.toNatClampNeg = N) (hb : N * componentBytes ty ≤ 536870912) (hd : decode μ.2.1 pc = .ok (.newarray aty, 2)) (hkc : k + 1 ≤ mc) (hkn : n + N ≤ ms)
    (hobj : ∀ C, ty ≠ .object C) (kk : am_G d μ mc ms Q (pc + 2) ls (.ref h.1.length :: st) (am_new h (.inr (ty, N))) (k + 1) (n + N)) : am_G d μ mc ms Q pc ls (.int i :: st) h k n := by
  intro p l e R s m args below meth c0 H locs arr w hc hk hr hS hl
  subst hty
  refine va_newaK hc.1 hc.2.1 (hk.ts hw args) rfl hd rfl hi hN hb (Nat.le_trans hkc hc.2.2.2.2.2.2.2.2.2.1) (Nat.le_trans hkn hc.2.2.2.2.2.2.2.2.2.2.1) rfl fun H1 cA e1 z1 o1 hAr hNm => ?_
  have hz0 := hr.1
  have hcA : cA = w.2.1 (newarray.typeOf aty) := by
    have h2 := (am_arrOf hk t0 ht).2
    have h3 : s.vm.findClass ("[" ++ (newarray.typeOf aty).toString) = some (w.2.1 (newarray.typeOf aty)) := by
      revert h2 hobj
      cases aty <;> intro hobj h2 <;> exact h2
    exact Option.some.inj (hNm.symm.trans h3)
  have hat : am_at w (am_new h (.inr (newarray.typeOf aty, N))) h.1.length (.inr (newarray.typeOf aty, N)) H1 := by
    show H1[am_B w + h.1.length]? = _
    rw [← hz0, e1, hcA]
    congr 2
    funext j
    exact (am_new_v _ j hfd).symm
  have := kk _ l e R s m args below meth c0 H1 locs arr w hc hk (am_rel_new hr z1 o1 hat) hS hl
  rw [hz0]
  exact this
theorem am_known.AO {w : am_W} {s : State} (h : am_known w s) {C : String} (hC : Cond.arrayOver (.object C) ∈ lw_tbl) : va_AO C s := by
  obtain ⟨s0, a0, -, hW, ht, -⟩ := h
  exact va_AO.moved hW.alike (va_AO.of (ht _ hC))
theorem g_newq {i : Int32} {N t0 ix : Nat} {C : String} (ht : am_tl[t0]? = some (.object C)) (hw : Cond.classLink μ.1.cls ix C ∈ lw_g) (hC : Cond.arrayOver (.object C) ∈ lw_tbl) (hi : ¬ i < 0) (hN : i.toNatClampNeg = N) (hb : N * 4 ≤ 536870912) (hd : decode μ.2.1 pc = .ok (.anewarray ix, 3)) (hkc : k + 1 ≤ mc) (hkn : n + N ≤ ms)
    (kk : am_G d μ mc ms Q (pc + 3) ls (.ref h.1.length :: st) (am_new h (.inr (.object C, N))) (k + 1) (n + N)) : am_G d μ mc ms Q pc ls (.int i :: st) h k n := by
  intro p l e R s m args below meth c0 H locs arr w hc hk hr hS hl
  subst hN
  refine W.anew hc.1 hc.2.1 hc.2.2.2.1 (hk.ts hw args) (va_AO.use (hk.AO hC)) rfl hd rfl hi hb (Nat.le_trans hkc hc.2.2.2.2.2.2.2.2.2.1) (Nat.le_trans hkn hc.2.2.2.2.2.2.2.2.2.2.1) fun cA kA comp f1 f2 f3 f4 => ?_
  generalize hH1 : H.push ({ cls := cA, slots := Array.replicate i.toNatClampNeg .null, vm := .none } : Cell) = H1
  have z1 : H1.size = H.size + 1 := by rw [← hH1, Array.size_push]
  have e1 : H1[H.size]? = some (arrV cA i.toNatClampNeg (fun _ => .null)) := by rw [← hH1, Array.getElem?_push_size, ← arrV_new]
  have o1 : ∀ q : Nat, q < H.size → H1[q]? = H[q]? := fun q hq => by rw [← hH1, Array.getElem?_push, if_neg (Nat.ne_of_lt hq)]
  have hz0 := hr.1
  have hcA : cA = w.2.1 (.object C) := by
    obtain ⟨kA', comp', g1, g2, g3, g4⟩ := (am_arrOf hk t0 ht).2
    exact Option.some.inj (f1.symm.trans g4)
  have hat : am_at w (am_new h (.inr (.object C, i.toNatClampNeg))) h.1.length (.inr (.object C, i.toNatClampNeg)) H1 := by
    show H1[am_B w + h.1.length]? = _
    rw [← hz0, e1, hcA]
    congr 2
    funext j
    exact (am_new_v (.object C) j ⟨by simp, by simp⟩).symm
  have := kk _ l e R s m args below meth c0 H1 locs arr w hc hk (am_rel_new hr z1 o1 hat) hS hl
  rw [hz0]
  exact this
end GA
