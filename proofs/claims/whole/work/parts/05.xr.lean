def am_let {α β : Type} (x : α) (f : α → β) : β := f x
def am_b (b : Bool) : Int32 := if b = true then 1 else 0
def am_rd {α : Type} (f : Nat → α) (L : Nat) (i : Int32) : Option α := if i < 0 ∨ L ≤ i.toNatClampNeg then none else some (f i.toNatClampNeg)
def am_wr (h : am_H) (o L : Nat) (i : Int32) (x : Int32) : Option am_H := if i < 0 ∨ L ≤ i.toNatClampNeg then none else some (am_sI h o i.toNatClampNeg x)
def am_wrJ (h : am_H) (o L : Nat) (i : Int32) (x : Int64) : Option am_H := if i < 0 ∨ L ≤ i.toNatClampNeg then none else some (am_sJ h o i.toNatClampNeg x)
def am_dv (x y : Int32) : Option Int32 := if y = 0 then none else some (x / y)
def am_md (x y : Int32) : Option Int32 := if y = 0 then none else some (x - x / y * y)
def am_dvJ (x y : Int64) : Option Int64 := if y = 0 then none else some (x / y)
def am_mdJ (x y : Int64) : Option Int64 := if y = 0 then none else some (x - x / y * y)
/-- the place of an element in a row of references whose elements go up by steps -/
def am_el (a s L : Nat) (i : Int32) : Option Nat := if i < 0 ∨ L ≤ i.toNatClampNeg then none else some (a + s * i.toNatClampNeg)
def am_cp (h : am_H) (o0 n0 : Nat) (sp : Int32) (o1 n1 : Nat) (dp z : Int32) : Option am_H := if sp < 0 ∨ dp < 0 ∨ z < 0 ∨ n0 < sp.toNatClampNeg + z.toNatClampNeg ∨ n1 < dp.toNatClampNeg + z.toNatClampNeg then none else some (am_rI h o1 (va_cpy (h.2.1 o0) (h.2.1 o1) sp.toNatClampNeg dp.toNatClampNeg z.toNatClampNeg))
def am_fu : Nat := 5000
theorem am_subp {ls ls' : List (Nat × Value)} (ps : List Nat) (hp : ls'.map some = ps.map (fun i => ls[i]?)) : ∀ q ∈ ls', q ∈ ls := by
  intro q hq
  have h1 : some q ∈ ls'.map some := List.mem_map.mpr ⟨q, hq, rfl⟩
  rw [hp] at h1
  obtain ⟨i, -, hi⟩ := List.mem_map.mp h1
  exact List.mem_of_getElem? hi
def am_qI (r : Int32 × am_H) : Option Value → am_H → Prop := fun v h => v = some (.int r.1) ∧ h = r.2 ∧ am_Sh r.2
def am_qJ (r : Int64 × am_H) : Option Value → am_H → Prop := fun v h => v = some (.long r.1) ∧ h = r.2 ∧ am_Sh r.2
def am_qB (r : Bool × am_H) : Option Value → am_H → Prop := fun v h => v = some (.int (am_b r.1)) ∧ h = r.2 ∧ am_Sh r.2
def am_qR (r : Nat × am_H) : Option Value → am_H → Prop := fun v h => v = some (.ref r.1) ∧ h = r.2 ∧ am_Sh r.2
def am_qV (r : am_H) : Option Value → am_H → Prop := fun v h => v = none ∧ h = r ∧ am_Sh r
def am_pI (h0 : am_H) (r : Int32) : Option Value → am_H → Prop := fun v h => v = some (.int r) ∧ h = h0
def am_pJ (h0 : am_H) (r : Int64) : Option Value → am_H → Prop := fun v h => v = some (.long r) ∧ h = h0
def am_pB (h0 : am_H) (r : Bool) : Option Value → am_H → Prop := fun v h => v = some (.int (am_b r)) ∧ h = h0
def am_pR (h0 : am_H) (r : Nat) : Option Value → am_H → Prop := fun v h => v = some (.ref r) ∧ h = h0
section XR
variable {d mc ms kc nc : Nat} {μ : am_M} {Q : Option Value → am_H → Prop} {pc : Nat} {ls : List (Nat × Value)} {st : List Value} {h : am_H} {τ : Type} {r : τ}
theorem x_nmI {e : Int32} {K : Int32 → Option τ} (hf : am_let e K = some r) (kk : ∀ x, K x = some r → am_G d μ mc ms Q pc ls (.int x :: st) h kc nc) : am_G d μ mc ms Q pc ls (.int e :: st) h kc nc := kk e hf
theorem x_nmJ {e : Int64} {K : Int64 → Option τ} (hf : am_let e K = some r) (kk : ∀ x, K x = some r → am_G d μ mc ms Q pc ls (.long x :: st) h kc nc) : am_G d μ mc ms Q pc ls (.long e :: st) h kc nc := kk e hf
theorem x_iald {o L : Nat} {i : Int32} {K : Int32 → Option τ} (hf : (am_rd (h.2.1 o) L i).bind K = some r) (ho : h.1[o]? = some (.inr (.int, L))) (hd : decode μ.2.1 pc = .ok (.iaload, 1)) (kk : ∀ x, K x = some r → am_G d μ mc ms Q (pc + 1) ls (.int x :: st) h kc nc) : am_G d μ mc ms Q pc ls (.int i :: .ref o :: st) h kc nc := by
  obtain ⟨x, hx, hf⟩ := Option.bind_eq_some_iff.mp hf
  unfold am_rd at hx
  split at hx
  · cases hx
  · rename_i hin
    cases hx
    exact g_iald ho hin hd (kk _ hf)
theorem x_bald {o L : Nat} {i : Int32} {K : Int32 → Option τ} (hf : (am_rd (h.2.1 o) L i).bind K = some r) (ho : h.1[o]? = some (.inr (.byte, L))) (hd : decode μ.2.1 pc = .ok (.baload, 1)) (kk : ∀ x, K x = some r → am_G d μ mc ms Q (pc + 1) ls (.int x :: st) h kc nc) : am_G d μ mc ms Q pc ls (.int i :: .ref o :: st) h kc nc := by
  obtain ⟨x, hx, hf⟩ := Option.bind_eq_some_iff.mp hf
  unfold am_rd at hx
  split at hx
  · cases hx
  · rename_i hin
    cases hx
    exact g_bald ho hin hd (kk _ hf)
theorem x_zald {o L : Nat} {i : Int32} {K : Int32 → Option τ} (hf : (am_rd (h.2.1 o) L i).bind K = some r) (ho : h.1[o]? = some (.inr (.boolean, L))) (hd : decode μ.2.1 pc = .ok (.baload, 1)) (kk : ∀ x, K x = some r → am_G d μ mc ms Q (pc + 1) ls (.int x :: st) h kc nc) : am_G d μ mc ms Q pc ls (.int i :: .ref o :: st) h kc nc := by
  obtain ⟨x, hx, hf⟩ := Option.bind_eq_some_iff.mp hf
  unfold am_rd at hx
  split at hx
  · cases hx
  · rename_i hin
    cases hx
    exact g_zald ho hin hd (kk _ hf)
theorem x_lald {o L : Nat} {i : Int32} {K : Int64 → Option τ} (hf : (am_rd (h.2.2.1 o) L i).bind K = some r) (ho : h.1[o]? = some (.inr (.long, L))) (hd : decode μ.2.1 pc = .ok (.laload, 1)) (kk : ∀ x, K x = some r → am_G d μ mc ms Q (pc + 1) ls (.long x :: st) h kc nc) : am_G d μ mc ms Q pc ls (.int i :: .ref o :: st) h kc nc := by
  obtain ⟨x, hx, hf⟩ := Option.bind_eq_some_iff.mp hf
  unfold am_rd at hx
  split at hx
  · cases hx
  · rename_i hin
    cases hx
    exact g_lald ho hin hd (kk _ hf)
theorem x_iast {o L : Nat} {i : Int32} {x : Int32} {K : am_H → Option τ} (hf : (am_wr h o L i x).bind K = some r) (hs : am_Sh h) (ho : h.1[o]? = some (.inr (.int, L))) (hd : decode μ.2.1 pc = .ok (.iastore, 1)) (kk : ∀ h1, K h1 = some r → am_Sh h1 → am_G d μ mc ms Q (pc + 1) ls st h1 kc nc) : am_G d μ mc ms Q pc ls (.int x :: .int i :: .ref o :: st) h kc nc := by
  obtain ⟨y, hy, hf⟩ := Option.bind_eq_some_iff.mp hf
  unfold am_wr at hy
  split at hy
  · cases hy
  · rename_i hin
    cases hy
    exact g_iast ho hin hd (kk _ hf (hs.sI ho))
theorem x_bast {o L : Nat} {i : Int32} {x : Int32} {K : am_H → Option τ} (hf : (am_wr h o L i (vp_nar .byte x)).bind K = some r) (hs : am_Sh h) (ho : h.1[o]? = some (.inr (.byte, L))) (hd : decode μ.2.1 pc = .ok (.bastore, 1)) (kk : ∀ h1, K h1 = some r → am_Sh h1 → am_G d μ mc ms Q (pc + 1) ls st h1 kc nc) : am_G d μ mc ms Q pc ls (.int x :: .int i :: .ref o :: st) h kc nc := by
  obtain ⟨y, hy, hf⟩ := Option.bind_eq_some_iff.mp hf
  unfold am_wr at hy
  split at hy
  · cases hy
  · rename_i hin
    cases hy
    exact g_bast ho hin hd (kk _ hf (hs.sI ho))
theorem x_zast {o L : Nat} {i : Int32} {x : Int32} {K : am_H → Option τ} (hf : (am_wr h o L i (vp_nar .boolean x)).bind K = some r) (hs : am_Sh h) (ho : h.1[o]? = some (.inr (.boolean, L))) (hd : decode μ.2.1 pc = .ok (.bastore, 1)) (kk : ∀ h1, K h1 = some r → am_Sh h1 → am_G d μ mc ms Q (pc + 1) ls st h1 kc nc) : am_G d μ mc ms Q pc ls (.int x :: .int i :: .ref o :: st) h kc nc := by
  obtain ⟨y, hy, hf⟩ := Option.bind_eq_some_iff.mp hf
  unfold am_wr at hy
  split at hy
  · cases hy
  · rename_i hin
    cases hy
    exact g_zast ho hin hd (kk _ hf (hs.sI ho))
theorem x_last {o L : Nat} {i : Int32} {x : Int64} {K : am_H → Option τ} (hf : (am_wrJ h o L i x).bind K = some r) (hs : am_Sh h) (ho : h.1[o]? = some (.inr (.long, L))) (hd : decode μ.2.1 pc = .ok (.lastore, 1)) (kk : ∀ h1, K h1 = some r → am_Sh h1 → am_G d μ mc ms Q (pc + 1) ls st h1 kc nc) : am_G d μ mc ms Q pc ls (.long x :: .int i :: .ref o :: st) h kc nc := by
  obtain ⟨y, hy, hf⟩ := Option.bind_eq_some_iff.mp hf
  unfold am_wrJ at hy
  split at hy
  · cases hy
  · rename_i hin
    cases hy
    exact g_last ho hin hd (kk _ hf hs)
theorem x_puti {o c j i : Nat} {x : Int32} {K : am_H → Option τ} (hf : am_let (am_sI h o j x) K = some r) (hs : am_Sh h) (ho : h.1[o]? = some (.inl c)) (hF : am_F μ.1.cls i c j) (hd : decode μ.2.1 pc = .ok (.putfield i, 3)) (hfin : ((am_C c).2.1 j).2.2.2 = false) (ht : am_isI (am_ft c j) = true) (hn : narrow (am_ft c j) (.int x) = .int x) (hfi : fits (am_ft c j) (.int x) = true)
    (kk : ∀ h1, K h1 = some r → am_Sh h1 → am_G d μ mc ms Q (pc + 3) ls st h1 kc nc) : am_G d μ mc ms Q pc ls (.int x :: .ref o :: st) h kc nc := g_puti ho hF.1 hF.2 hd (Or.inl hfin) ht hn hfi (kk _ hf (hs.sF ho hfin))
theorem x_putr {o c j i q : Nat} {K : am_H → Option τ} (hf : am_let (am_sR h o j (some q)) K = some r) (hs1 : am_Sh (am_sR h o j (some q))) (ho : h.1[o]? = some (.inl c)) (hF : am_F μ.1.cls i c j) (hd : decode μ.2.1 pc = .ok (.putfield i, 3)) (hfin : ((am_C c).2.1 j).2.2.2 = false) (ht : am_isR (am_ft c j) = true)
    (kk : ∀ h1, K h1 = some r → am_Sh h1 → am_G d μ mc ms Q (pc + 3) ls st h1 kc nc) : am_G d μ mc ms Q pc ls (.ref q :: .ref o :: st) h kc nc := g_putr ho hF.1 hF.2 hd (Or.inl hfin) ht (kk _ hf hs1)
theorem x_geti {o c j i : Nat} (ho : h.1[o]? = some (.inl c)) (hF : am_F μ.1.cls i c j) (hd : decode μ.2.1 pc = .ok (.getfield i, 3)) (ht : am_isI (am_ft c j) = true) (kk : am_G d μ mc ms Q (pc + 3) ls (.int (h.2.1 o j) :: st) h kc nc) : am_G d μ mc ms Q pc ls (.ref o :: st) h kc nc := g_geti ho hF.1 hF.2 hd ht kk
theorem x_getr {o c j i q : Nat} (ho : h.1[o]? = some (.inl c)) (hF : am_F μ.1.cls i c j) (hd : decode μ.2.1 pc = .ok (.getfield i, 3)) (ht : am_isR (am_ft c j) = true) (hq : h.2.2.2 o j = some q) (kk : am_G d μ mc ms Q (pc + 3) ls (.ref q :: st) h kc nc) : am_G d μ mc ms Q pc ls (.ref o :: st) h kc nc := g_getr ho hF.1 hF.2 hd ht hq kk
theorem x_idiv {x y : Int32} {K : Int32 → Option τ} (hf : (am_dv x y).bind K = some r) (hd : decode μ.2.1 pc = .ok (.idiv, 1)) (kk : ∀ z, K z = some r → am_G d μ mc ms Q (pc + 1) ls (.int z :: st) h kc nc) : am_G d μ mc ms Q pc ls (.int y :: .int x :: st) h kc nc := by
  obtain ⟨z, hz, hf⟩ := Option.bind_eq_some_iff.mp hf
  unfold am_dv at hz
  split at hz
  · cases hz
  · rename_i hne
    cases hz
    exact g_idiv hd hne (kk _ hf)
theorem x_irem {x y : Int32} {K : Int32 → Option τ} (hf : (am_md x y).bind K = some r) (hd : decode μ.2.1 pc = .ok (.irem, 1)) (kk : ∀ z, K z = some r → am_G d μ mc ms Q (pc + 1) ls (.int z :: st) h kc nc) : am_G d μ mc ms Q pc ls (.int y :: .int x :: st) h kc nc := by
  obtain ⟨z, hz, hf⟩ := Option.bind_eq_some_iff.mp hf
  unfold am_md at hz
  split at hz
  · cases hz
  · rename_i hne
    cases hz
    exact g_irem hd hne (kk _ hf)
theorem x_ldiv {x y : Int64} {K : Int64 → Option τ} (hf : (am_dvJ x y).bind K = some r) (hd : decode μ.2.1 pc = .ok (.ldiv, 1)) (kk : ∀ z, K z = some r → am_G d μ mc ms Q (pc + 1) ls (.long z :: st) h kc nc) : am_G d μ mc ms Q pc ls (.long y :: .long x :: st) h kc nc := by
  obtain ⟨z, hz, hf⟩ := Option.bind_eq_some_iff.mp hf
  unfold am_dvJ at hz
  split at hz
  · cases hz
  · rename_i hne
    cases hz
    exact g_ldiv hd hne (kk _ hf)
theorem x_lrem {x y : Int64} {K : Int64 → Option τ} (hf : (am_mdJ x y).bind K = some r) (hd : decode μ.2.1 pc = .ok (.lrem, 1)) (kk : ∀ z, K z = some r → am_G d μ mc ms Q (pc + 1) ls (.long z :: st) h kc nc) : am_G d μ mc ms Q pc ls (.long y :: .long x :: st) h kc nc := by
  obtain ⟨z, hz, hf⟩ := Option.bind_eq_some_iff.mp hf
  unfold am_mdJ at hz
  split at hz
  · cases hz
  · rename_i hne
    cases hz
    exact g_lrem hd hne (kk _ hf)
theorem x_if_eq {x : Int32} {off : Int} {tgt : Nat} {A B : Option τ} (hf : (if x = 0 then A else B) = some r) (hd : decode μ.2.1 pc = .ok (.ifCond .eq off, 3)) (ht : (pc : Int) + off = (tgt : Int)) (kt : x = 0 → A = some r → am_G d μ mc ms Q tgt ls st h kc nc) (kf : ¬ (x = 0) → B = some r → am_G d μ mc ms Q (pc + 3) ls st h kc nc) : am_G d μ mc ms Q pc ls (.int x :: st) h kc nc :=
  g_if_eq hd ht (fun c => kt c (by rw [if_pos c] at hf; exact hf)) (fun c => kf c (by rw [if_neg c] at hf; exact hf))
theorem x_if_lt {x : Int32} {off : Int} {tgt : Nat} {A B : Option τ} (hf : (if x < 0 then A else B) = some r) (hd : decode μ.2.1 pc = .ok (.ifCond .lt off, 3)) (ht : (pc : Int) + off = (tgt : Int)) (kt : x < 0 → A = some r → am_G d μ mc ms Q tgt ls st h kc nc) (kf : ¬ (x < 0) → B = some r → am_G d μ mc ms Q (pc + 3) ls st h kc nc) : am_G d μ mc ms Q pc ls (.int x :: st) h kc nc :=
  g_if_lt hd ht (fun c => kt c (by rw [if_pos c] at hf; exact hf)) (fun c => kf c (by rw [if_neg c] at hf; exact hf))
theorem x_if_ge {x : Int32} {off : Int} {tgt : Nat} {A B : Option τ} (hf : (if 0 ≤ x then A else B) = some r) (hd : decode μ.2.1 pc = .ok (.ifCond .ge off, 3)) (ht : (pc : Int) + off = (tgt : Int)) (kt : 0 ≤ x → A = some r → am_G d μ mc ms Q tgt ls st h kc nc) (kf : ¬ (0 ≤ x) → B = some r → am_G d μ mc ms Q (pc + 3) ls st h kc nc) : am_G d μ mc ms Q pc ls (.int x :: st) h kc nc :=
  g_if_ge hd ht (fun c => kt c (by rw [if_pos c] at hf; exact hf)) (fun c => kf c (by rw [if_neg c] at hf; exact hf))
theorem x_if_gt {x : Int32} {off : Int} {tgt : Nat} {A B : Option τ} (hf : (if 0 < x then A else B) = some r) (hd : decode μ.2.1 pc = .ok (.ifCond .gt off, 3)) (ht : (pc : Int) + off = (tgt : Int)) (kt : 0 < x → A = some r → am_G d μ mc ms Q tgt ls st h kc nc) (kf : ¬ (0 < x) → B = some r → am_G d μ mc ms Q (pc + 3) ls st h kc nc) : am_G d μ mc ms Q pc ls (.int x :: st) h kc nc :=
  g_if_gt hd ht (fun c => kt c (by rw [if_pos c] at hf; exact hf)) (fun c => kf c (by rw [if_neg c] at hf; exact hf))
theorem x_if_le {x : Int32} {off : Int} {tgt : Nat} {A B : Option τ} (hf : (if x ≤ 0 then A else B) = some r) (hd : decode μ.2.1 pc = .ok (.ifCond .le off, 3)) (ht : (pc : Int) + off = (tgt : Int)) (kt : x ≤ 0 → A = some r → am_G d μ mc ms Q tgt ls st h kc nc) (kf : ¬ (x ≤ 0) → B = some r → am_G d μ mc ms Q (pc + 3) ls st h kc nc) : am_G d μ mc ms Q pc ls (.int x :: st) h kc nc :=
  g_if_le hd ht (fun c => kt c (by rw [if_pos c] at hf; exact hf)) (fun c => kf c (by rw [if_neg c] at hf; exact hf))
theorem x_if_ne {x : Int32} {off : Int} {tgt : Nat} {A B : Option τ} (hf : (if x = 0 then B else A) = some r) (hd : decode μ.2.1 pc = .ok (.ifCond .ne off, 3)) (ht : (pc : Int) + off = (tgt : Int)) (kt : ¬ (x = 0) → A = some r → am_G d μ mc ms Q tgt ls st h kc nc) (kf : x = 0 → B = some r → am_G d μ mc ms Q (pc + 3) ls st h kc nc) : am_G d μ mc ms Q pc ls (.int x :: st) h kc nc :=
  g_if_ne hd ht (fun c => kt c (by rw [if_neg c] at hf; exact hf)) (fun c => kf c (by rw [if_pos c] at hf; exact hf))
theorem x_icmp_eq {x y : Int32} {off : Int} {tgt : Nat} {A B : Option τ} (hf : (if x = y then A else B) = some r) (hd : decode μ.2.1 pc = .ok (.if_icmp .eq off, 3)) (ht : (pc : Int) + off = (tgt : Int)) (kt : x = y → A = some r → am_G d μ mc ms Q tgt ls st h kc nc) (kf : ¬ (x = y) → B = some r → am_G d μ mc ms Q (pc + 3) ls st h kc nc) : am_G d μ mc ms Q pc ls (.int y :: .int x :: st) h kc nc :=
  g_icmp_eq hd ht (fun c => kt c (by rw [if_pos c] at hf; exact hf)) (fun c => kf c (by rw [if_neg c] at hf; exact hf))
theorem x_icmp_lt {x y : Int32} {off : Int} {tgt : Nat} {A B : Option τ} (hf : (if x < y then A else B) = some r) (hd : decode μ.2.1 pc = .ok (.if_icmp .lt off, 3)) (ht : (pc : Int) + off = (tgt : Int)) (kt : x < y → A = some r → am_G d μ mc ms Q tgt ls st h kc nc) (kf : ¬ (x < y) → B = some r → am_G d μ mc ms Q (pc + 3) ls st h kc nc) : am_G d μ mc ms Q pc ls (.int y :: .int x :: st) h kc nc :=
  g_icmp_lt hd ht (fun c => kt c (by rw [if_pos c] at hf; exact hf)) (fun c => kf c (by rw [if_neg c] at hf; exact hf))
theorem x_icmp_ge {x y : Int32} {off : Int} {tgt : Nat} {A B : Option τ} (hf : (if y ≤ x then A else B) = some r) (hd : decode μ.2.1 pc = .ok (.if_icmp .ge off, 3)) (ht : (pc : Int) + off = (tgt : Int)) (kt : y ≤ x → A = some r → am_G d μ mc ms Q tgt ls st h kc nc) (kf : ¬ (y ≤ x) → B = some r → am_G d μ mc ms Q (pc + 3) ls st h kc nc) : am_G d μ mc ms Q pc ls (.int y :: .int x :: st) h kc nc :=
  g_icmp_ge hd ht (fun c => kt c (by rw [if_pos c] at hf; exact hf)) (fun c => kf c (by rw [if_neg c] at hf; exact hf))
theorem x_icmp_gt {x y : Int32} {off : Int} {tgt : Nat} {A B : Option τ} (hf : (if y < x then A else B) = some r) (hd : decode μ.2.1 pc = .ok (.if_icmp .gt off, 3)) (ht : (pc : Int) + off = (tgt : Int)) (kt : y < x → A = some r → am_G d μ mc ms Q tgt ls st h kc nc) (kf : ¬ (y < x) → B = some r → am_G d μ mc ms Q (pc + 3) ls st h kc nc) : am_G d μ mc ms Q pc ls (.int y :: .int x :: st) h kc nc :=
  g_icmp_gt hd ht (fun c => kt c (by rw [if_pos c] at hf; exact hf)) (fun c => kf c (by rw [if_neg c] at hf; exact hf))
theorem x_icmp_le {x y : Int32} {off : Int} {tgt : Nat} {A B : Option τ} (hf : (if x ≤ y then A else B) = some r) (hd : decode μ.2.1 pc = .ok (.if_icmp .le off, 3)) (ht : (pc : Int) + off = (tgt : Int)) (kt : x ≤ y → A = some r → am_G d μ mc ms Q tgt ls st h kc nc) (kf : ¬ (x ≤ y) → B = some r → am_G d μ mc ms Q (pc + 3) ls st h kc nc) : am_G d μ mc ms Q pc ls (.int y :: .int x :: st) h kc nc :=
  g_icmp_le hd ht (fun c => kt c (by rw [if_pos c] at hf; exact hf)) (fun c => kf c (by rw [if_neg c] at hf; exact hf))
theorem x_icmp_ne {x y : Int32} {off : Int} {tgt : Nat} {A B : Option τ} (hf : (if x = y then B else A) = some r) (hd : decode μ.2.1 pc = .ok (.if_icmp .ne off, 3)) (ht : (pc : Int) + off = (tgt : Int)) (kt : ¬ (x = y) → A = some r → am_G d μ mc ms Q tgt ls st h kc nc) (kf : x = y → B = some r → am_G d μ mc ms Q (pc + 3) ls st h kc nc) : am_G d μ mc ms Q pc ls (.int y :: .int x :: st) h kc nc :=
  g_icmp_ne hd ht (fun c => kt c (by rw [if_neg c] at hf; exact hf)) (fun c => kf c (by rw [if_pos c] at hf; exact hf))
theorem am_b0 {b : Bool} : am_b b = 0 ↔ b = false := by cases b <;> decide
theorem am_b1 {b : Bool} (h : ¬ am_b b = 0) : b = true := by
  cases b
  · exact absurd rfl h
  · rfl
theorem x_ifb_eq {b : Bool} {off : Int} {tgt : Nat} {A B : Option τ} (hf : (if b = true then B else A) = some r) (hd : decode μ.2.1 pc = .ok (.ifCond .eq off, 3)) (ht : (pc : Int) + off = (tgt : Int)) (kt : ¬ b = true → A = some r → am_G d μ mc ms Q tgt ls st h kc nc) (kf : b = true → B = some r → am_G d μ mc ms Q (pc + 3) ls st h kc nc) : am_G d μ mc ms Q pc ls (.int (am_b b) :: st) h kc nc :=
  g_if_eq hd ht (fun c => have c' : ¬ b = true := by rw [am_b0.mp c]; decide
    kt c' (by rw [if_neg c'] at hf; exact hf)) (fun c => kf (am_b1 c) (by rw [if_pos (am_b1 c)] at hf; exact hf))
theorem x_ifb_ne {b : Bool} {off : Int} {tgt : Nat} {A B : Option τ} (hf : (if b = true then A else B) = some r) (hd : decode μ.2.1 pc = .ok (.ifCond .ne off, 3)) (ht : (pc : Int) + off = (tgt : Int)) (kt : b = true → A = some r → am_G d μ mc ms Q tgt ls st h kc nc) (kf : ¬ b = true → B = some r → am_G d μ mc ms Q (pc + 3) ls st h kc nc) : am_G d μ mc ms Q pc ls (.int (am_b b) :: st) h kc nc :=
  g_if_ne hd ht (fun c => kt (am_b1 c) (by rw [if_pos (am_b1 c)] at hf; exact hf)) (fun c => have c' : ¬ b = true := by rw [am_b0.mp c]; decide
    kf c' (by rw [if_neg c'] at hf; exact hf))
theorem x_ifd_eq {x y : Nat} {off : Int} {tgt : Nat} {A B : Option τ} (hf : (if x = y then B else A) = some r) (hd : decode μ.2.1 pc = .ok (.ifCond .eq off, 3)) (ht : (pc : Int) + off = (tgt : Int)) (kt : ¬ x = y → A = some r → am_G d μ mc ms Q tgt ls st h kc nc) (kf : x = y → B = some r → am_G d μ mc ms Q (pc + 3) ls st h kc nc) : am_G d μ mc ms Q pc ls (.int (am_b (decide (x = y))) :: st) h kc nc :=
  x_ifb_eq (b := decide (x = y)) (A := A) (B := B) (by by_cases c : x = y <;> simp only [c, decide_true, decide_false, if_true, if_false, reduceIte, Bool.false_eq_true] at hf ⊢ <;> exact hf) hd ht (fun c q => kt (fun e => c (decide_eq_true e)) q) (fun c q => kf (of_decide_eq_true c) q)
theorem x_getk {o i : Nat} (hs : am_Sh h) (hm : o ∈ am_lwL) (hF : am_F μ.1.cls i 2 5) (hd : decode μ.2.1 pc = .ok (.getfield i, 3)) (kk : am_G d μ mc ms Q (pc + 3) ls (.int (am_b (decide (o = 75))) :: st) h kc nc) : am_G d μ mc ms Q pc ls (.ref o :: st) h kc nc := x_geti (hs.k (k_Lw hm)) hF hd rfl (by rw [hs.ks hm]; exact kk)
theorem p_if_eq {x : Int32} {off : Int} {tgt : Nat} (hd : decode μ.2.1 pc = .ok (.ifCond .eq off, 3)) (ht : (pc : Int) + off = (tgt : Int)) (kt : x = 0 → am_G d μ mc ms Q tgt ls st h kc nc) (kf : ¬ (x = 0) → am_G d μ mc ms Q (pc + 3) ls st h kc nc) : am_G d μ mc ms Q pc ls (.int x :: st) h kc nc := g_if_eq hd ht kt kf
theorem p_if_ne {x : Int32} {off : Int} {tgt : Nat} (hd : decode μ.2.1 pc = .ok (.ifCond .ne off, 3)) (ht : (pc : Int) + off = (tgt : Int)) (kt : ¬ (x = 0) → am_G d μ mc ms Q tgt ls st h kc nc) (kf : x = 0 → am_G d μ mc ms Q (pc + 3) ls st h kc nc) : am_G d μ mc ms Q pc ls (.int x :: st) h kc nc := g_if_ne hd ht kt kf
theorem p_if_lt {x : Int32} {off : Int} {tgt : Nat} (hd : decode μ.2.1 pc = .ok (.ifCond .lt off, 3)) (ht : (pc : Int) + off = (tgt : Int)) (kt : x < 0 → am_G d μ mc ms Q tgt ls st h kc nc) (kf : ¬ (x < 0) → am_G d μ mc ms Q (pc + 3) ls st h kc nc) : am_G d μ mc ms Q pc ls (.int x :: st) h kc nc := g_if_lt hd ht kt kf
theorem p_if_ge {x : Int32} {off : Int} {tgt : Nat} (hd : decode μ.2.1 pc = .ok (.ifCond .ge off, 3)) (ht : (pc : Int) + off = (tgt : Int)) (kt : 0 ≤ x → am_G d μ mc ms Q tgt ls st h kc nc) (kf : ¬ (0 ≤ x) → am_G d μ mc ms Q (pc + 3) ls st h kc nc) : am_G d μ mc ms Q pc ls (.int x :: st) h kc nc := g_if_ge hd ht kt kf
theorem p_if_gt {x : Int32} {off : Int} {tgt : Nat} (hd : decode μ.2.1 pc = .ok (.ifCond .gt off, 3)) (ht : (pc : Int) + off = (tgt : Int)) (kt : 0 < x → am_G d μ mc ms Q tgt ls st h kc nc) (kf : ¬ (0 < x) → am_G d μ mc ms Q (pc + 3) ls st h kc nc) : am_G d μ mc ms Q pc ls (.int x :: st) h kc nc := g_if_gt hd ht kt kf
theorem p_if_le {x : Int32} {off : Int} {tgt : Nat} (hd : decode μ.2.1 pc = .ok (.ifCond .le off, 3)) (ht : (pc : Int) + off = (tgt : Int)) (kt : x ≤ 0 → am_G d μ mc ms Q tgt ls st h kc nc) (kf : ¬ (x ≤ 0) → am_G d μ mc ms Q (pc + 3) ls st h kc nc) : am_G d μ mc ms Q pc ls (.int x :: st) h kc nc := g_if_le hd ht kt kf
theorem p_icmp_eq {x y : Int32} {off : Int} {tgt : Nat} (hd : decode μ.2.1 pc = .ok (.if_icmp .eq off, 3)) (ht : (pc : Int) + off = (tgt : Int)) (kt : x = y → am_G d μ mc ms Q tgt ls st h kc nc) (kf : ¬ (x = y) → am_G d μ mc ms Q (pc + 3) ls st h kc nc) : am_G d μ mc ms Q pc ls (.int y :: .int x :: st) h kc nc := g_icmp_eq hd ht kt kf
theorem p_icmp_ne {x y : Int32} {off : Int} {tgt : Nat} (hd : decode μ.2.1 pc = .ok (.if_icmp .ne off, 3)) (ht : (pc : Int) + off = (tgt : Int)) (kt : ¬ (x = y) → am_G d μ mc ms Q tgt ls st h kc nc) (kf : x = y → am_G d μ mc ms Q (pc + 3) ls st h kc nc) : am_G d μ mc ms Q pc ls (.int y :: .int x :: st) h kc nc := g_icmp_ne hd ht kt kf
theorem p_icmp_lt {x y : Int32} {off : Int} {tgt : Nat} (hd : decode μ.2.1 pc = .ok (.if_icmp .lt off, 3)) (ht : (pc : Int) + off = (tgt : Int)) (kt : x < y → am_G d μ mc ms Q tgt ls st h kc nc) (kf : ¬ (x < y) → am_G d μ mc ms Q (pc + 3) ls st h kc nc) : am_G d μ mc ms Q pc ls (.int y :: .int x :: st) h kc nc := g_icmp_lt hd ht kt kf
theorem p_icmp_ge {x y : Int32} {off : Int} {tgt : Nat} (hd : decode μ.2.1 pc = .ok (.if_icmp .ge off, 3)) (ht : (pc : Int) + off = (tgt : Int)) (kt : y ≤ x → am_G d μ mc ms Q tgt ls st h kc nc) (kf : ¬ (y ≤ x) → am_G d μ mc ms Q (pc + 3) ls st h kc nc) : am_G d μ mc ms Q pc ls (.int y :: .int x :: st) h kc nc := g_icmp_ge hd ht kt kf
theorem p_icmp_gt {x y : Int32} {off : Int} {tgt : Nat} (hd : decode μ.2.1 pc = .ok (.if_icmp .gt off, 3)) (ht : (pc : Int) + off = (tgt : Int)) (kt : y < x → am_G d μ mc ms Q tgt ls st h kc nc) (kf : ¬ (y < x) → am_G d μ mc ms Q (pc + 3) ls st h kc nc) : am_G d μ mc ms Q pc ls (.int y :: .int x :: st) h kc nc := g_icmp_gt hd ht kt kf
theorem p_icmp_le {x y : Int32} {off : Int} {tgt : Nat} (hd : decode μ.2.1 pc = .ok (.if_icmp .le off, 3)) (ht : (pc : Int) + off = (tgt : Int)) (kt : x ≤ y → am_G d μ mc ms Q tgt ls st h kc nc) (kf : ¬ (x ≤ y) → am_G d μ mc ms Q (pc + 3) ls st h kc nc) : am_G d μ mc ms Q pc ls (.int y :: .int x :: st) h kc nc := g_icmp_le hd ht kt kf
theorem p_ifb_eq {b : Bool} {off : Int} {tgt : Nat} (hd : decode μ.2.1 pc = .ok (.ifCond .eq off, 3)) (ht : (pc : Int) + off = (tgt : Int)) (kt : ¬ b = true → am_G d μ mc ms Q tgt ls st h kc nc) (kf : b = true → am_G d μ mc ms Q (pc + 3) ls st h kc nc) : am_G d μ mc ms Q pc ls (.int (am_b b) :: st) h kc nc := g_if_eq hd ht (fun c => kt (by rw [am_b0.mp c]; decide)) (fun c => kf (am_b1 c))
theorem p_ifb_ne {b : Bool} {off : Int} {tgt : Nat} (hd : decode μ.2.1 pc = .ok (.ifCond .ne off, 3)) (ht : (pc : Int) + off = (tgt : Int)) (kt : b = true → am_G d μ mc ms Q tgt ls st h kc nc) (kf : ¬ b = true → am_G d μ mc ms Q (pc + 3) ls st h kc nc) : am_G d μ mc ms Q pc ls (.int (am_b b) :: st) h kc nc := g_if_ne hd ht (fun c => kt (am_b1 c)) (fun c => kf (by rw [am_b0.mp c]; decide))
theorem am_cut {J : Nat} {ls' : List (Nat × Value)} {st' : List Value} (k1 : am_G d μ mc ms Q J ls' st' h kc nc) (k2 : am_G d μ mc ms Q J ls' st' h kc nc → am_G d μ mc ms Q pc ls st h kc nc) : am_G d μ mc ms Q pc ls st h kc nc := k2 k1
theorem am_cutS {J : Nat} {ls' : List (Nat × Value)} {st' : List Value} {h' : am_H} (k1 : am_Sh h' → am_G d μ mc ms Q J ls' st' h' kc nc) (k2 : (am_Sh h' → am_G d μ mc ms Q J ls' st' h' kc nc) → am_G d μ mc ms Q pc ls st h kc nc) : am_G d μ mc ms Q pc ls st h kc nc := k2 k1
theorem k_of86 {q : Nat} (hq : q ∈ ([89, 90] : List Nat)) : am_K0[q]? = some (.inr (.long, 9)) := by
  revert q; decide +kernel
theorem k_of99 {q : Nat} (hq : q ∈ ([100, 101] : List Nat)) : am_K0[q]? = some (.inr (.long, 9)) := by
  revert q; decide +kernel
theorem x_acmp_eq {x y : Nat} {off : Int} {tgt : Nat} {A B : Option τ} (hf : (if x = y then A else B) = some r) (hd : decode μ.2.1 pc = .ok (.if_acmp .eq off, 3)) (ht : (pc : Int) + off = (tgt : Int)) (kt : x = y → A = some r → am_G d μ mc ms Q tgt ls st h kc nc) (kf : ¬ (x = y) → B = some r → am_G d μ mc ms Q (pc + 3) ls st h kc nc) : am_G d μ mc ms Q pc ls (.ref y :: .ref x :: st) h kc nc :=
  g_acmp_eq hd ht (fun c => kt c (by rw [if_pos c] at hf; exact hf)) (fun c => kf c (by rw [if_neg c] at hf; exact hf))
theorem x_acmp_ne {x y : Nat} {off : Int} {tgt : Nat} {A B : Option τ} (hf : (if x = y then B else A) = some r) (hd : decode μ.2.1 pc = .ok (.if_acmp .ne off, 3)) (ht : (pc : Int) + off = (tgt : Int)) (kt : ¬ (x = y) → A = some r → am_G d μ mc ms Q tgt ls st h kc nc) (kf : x = y → B = some r → am_G d μ mc ms Q (pc + 3) ls st h kc nc) : am_G d μ mc ms Q pc ls (.ref y :: .ref x :: st) h kc nc :=
  g_acmp_ne hd ht (fun c => kt c (by rw [if_neg c] at hf; exact hf)) (fun c => kf c (by rw [if_pos c] at hf; exact hf))
theorem p_acmp_eq {x y : Nat} {off : Int} {tgt : Nat} (hd : decode μ.2.1 pc = .ok (.if_acmp .eq off, 3)) (ht : (pc : Int) + off = (tgt : Int)) (kt : x = y → am_G d μ mc ms Q tgt ls st h kc nc) (kf : ¬ (x = y) → am_G d μ mc ms Q (pc + 3) ls st h kc nc) : am_G d μ mc ms Q pc ls (.ref y :: .ref x :: st) h kc nc := g_acmp_eq hd ht kt kf
theorem p_acmp_ne {x y : Nat} {off : Int} {tgt : Nat} (hd : decode μ.2.1 pc = .ok (.if_acmp .ne off, 3)) (ht : (pc : Int) + off = (tgt : Int)) (kt : ¬ (x = y) → am_G d μ mc ms Q tgt ls st h kc nc) (kf : x = y → am_G d μ mc ms Q (pc + 3) ls st h kc nc) : am_G d μ mc ms Q pc ls (.ref y :: .ref x :: st) h kc nc := g_acmp_ne hd ht kt kf
theorem mmax_c : Cond.code Lib.Math.max.name Lib.Math.max.code 2 (some .int) ∈ lw_g := Y_Math_max.1
theorem mmax_s : Cond.static Lib.Math.max.name ∈ lw_g := St_Math_max
theorem g_mmax {x y : Int32} {i : Nat} (hw : Cond.methodLink μ.1.cls i Lib.Math.max.name ∈ lw_g) (hd : decode μ.2.1 pc = .ok (.invokestatic i, 3)) (hdd : 0 < d) (hkc : kc ≤ mc) (hkn : nc ≤ ms) (hcat : (st.map fun v => v.category).sum ≤ 8) (kk : am_G d μ mc ms Q (pc + 3) ls (.int (if x < y then y else x) :: st) h kc nc) : am_G d μ mc ms Q pc ls (.int y :: .int x :: st) h kc nc := by
  intro p l e R s m args below meth c H locs arr w hc hk hr hS hl
  have h1 := hc.2.2.2.2.2.2.2.1
  have h2 := hc.2.2.2.2.2.2.2.2.1
  exact va_mmax hc.1 hc.2.1 (by rw [hc.2.2.1]; exact hl.1.symm) hc.2.2.2.1 (hk.ts hw args) (hk.ts mmax_s args) (hk.ts In_Math args) (hk.ts mmax_c args) (by omega) (by rw [am_sum]; omega) (Nat.le_trans hkc hc.2.2.2.2.2.2.2.2.2.1) (Nat.le_trans hkn hc.2.2.2.2.2.2.2.2.2.2.1) hd (kk _ _ _ _ _ _ _ _ _ _ _ _ _ w hc hk hr hS hl)
theorem mmin_c : Cond.code Lib.Math.min.name Lib.Math.min.code 2 (some .int) ∈ lw_g := Y_Math_min.1
theorem mmin_s : Cond.static Lib.Math.min.name ∈ lw_g := St_Math_min
theorem g_mmin {x y : Int32} {i : Nat} (hw : Cond.methodLink μ.1.cls i Lib.Math.min.name ∈ lw_g) (hd : decode μ.2.1 pc = .ok (.invokestatic i, 3)) (hdd : 0 < d) (hkc : kc ≤ mc) (hkn : nc ≤ ms) (hcat : (st.map fun v => v.category).sum ≤ 8) (kk : am_G d μ mc ms Q (pc + 3) ls (.int (if y < x then y else x) :: st) h kc nc) : am_G d μ mc ms Q pc ls (.int y :: .int x :: st) h kc nc := by
  intro p l e R s m args below meth c H locs arr w hc hk hr hS hl
  have h1 := hc.2.2.2.2.2.2.2.1
  have h2 := hc.2.2.2.2.2.2.2.2.1
  exact va_mmin hc.1 hc.2.1 (by rw [hc.2.2.1]; exact hl.1.symm) hc.2.2.2.1 (hk.ts hw args) (hk.ts mmin_s args) (hk.ts In_Math args) (hk.ts mmin_c args) (by omega) (by rw [am_sum]; omega) (Nat.le_trans hkc hc.2.2.2.2.2.2.2.2.2.1) (Nat.le_trans hkn hc.2.2.2.2.2.2.2.2.2.2.1) hd (kk _ _ _ _ _ _ _ _ _ _ _ _ _ w hc hk hr hS hl)
theorem mmaxJ_c : Cond.code Lib.MathLoose.max_long.x Lib.MathLoose.max_long.code 4 (some .long) ∈ lw_g := Y_Math_max_JJJ.1
theorem mmaxJ_s : Cond.static Lib.MathLoose.max_long.x ∈ lw_g := St_Math_max_JJJ
theorem g_mmaxJ {x y : Int64} {i : Nat} (hw : Cond.methodLink μ.1.cls i Lib.MathLoose.max_long.x ∈ lw_g) (hd : decode μ.2.1 pc = .ok (.invokestatic i, 3)) (hdd : 0 < d) (hkc : kc ≤ mc) (hkn : nc ≤ ms) (hcat : (st.map fun v => v.category).sum ≤ 8) (kk : am_G d μ mc ms Q (pc + 3) ls (.long (if y < x then x else y) :: st) h kc nc) : am_G d μ mc ms Q pc ls (.long y :: .long x :: st) h kc nc := by
  intro p l e R s m args below meth c H locs arr w hc hk hr hS hl
  have h1 := hc.2.2.2.2.2.2.2.1
  have h2 := hc.2.2.2.2.2.2.2.2.1
  exact va_mmax_long hc.1 hc.2.1 (by rw [hc.2.2.1]; exact hl.1.symm) hc.2.2.2.1 (hk.ts hw args) (hk.ts mmaxJ_s args) (hk.ts In_Math args) (hk.ts mmaxJ_c args) (by omega) (by rw [am_sum]; omega) (Nat.le_trans hkc hc.2.2.2.2.2.2.2.2.2.1) (Nat.le_trans hkn hc.2.2.2.2.2.2.2.2.2.2.1) hd (kk _ _ _ _ _ _ _ _ _ _ _ _ _ w hc hk hr hS hl)
theorem mminJ_c : Cond.code Lib.MathLoose.min_long.x Lib.MathLoose.min_long.code 4 (some .long) ∈ lw_g := Y_Math_min_JJJ.1
theorem mminJ_s : Cond.static Lib.MathLoose.min_long.x ∈ lw_g := St_Math_min_JJJ
theorem g_mminJ {x y : Int64} {i : Nat} (hw : Cond.methodLink μ.1.cls i Lib.MathLoose.min_long.x ∈ lw_g) (hd : decode μ.2.1 pc = .ok (.invokestatic i, 3)) (hdd : 0 < d) (hkc : kc ≤ mc) (hkn : nc ≤ ms) (hcat : (st.map fun v => v.category).sum ≤ 8) (kk : am_G d μ mc ms Q (pc + 3) ls (.long (if y < x then y else x) :: st) h kc nc) : am_G d μ mc ms Q pc ls (.long y :: .long x :: st) h kc nc := by
  intro p l e R s m args below meth c H locs arr w hc hk hr hS hl
  have h1 := hc.2.2.2.2.2.2.2.1
  have h2 := hc.2.2.2.2.2.2.2.2.1
  exact va_mmin_long hc.1 hc.2.1 (by rw [hc.2.2.1]; exact hl.1.symm) hc.2.2.2.1 (hk.ts hw args) (hk.ts mminJ_s args) (hk.ts In_Math args) (hk.ts mminJ_c args) (by omega) (by rw [am_sum]; omega) (Nat.le_trans hkc hc.2.2.2.2.2.2.2.2.2.1) (Nat.le_trans hkn hc.2.2.2.2.2.2.2.2.2.2.1) hd (kk _ _ _ _ _ _ _ _ _ _ _ _ _ w hc hk hr hS hl)
theorem x_aald {o a s L t0 : Nat} {C : String} {i : Int32} {K : Nat → Option τ} (hf : (am_el a s L i).bind K = some r) (ho : h.1[o]? = some (.inr (.object C, L))) (ht : am_tl[t0]? = some (.object C)) (hd : decode μ.2.1 pc = .ok (.aaload, 1)) (hq : ∀ j : Nat, j < L → h.2.2.2 o j = some (a + s * j)) (kk : ∀ j : Nat, j < L → K (a + s * j) = some r → am_G d μ mc ms Q (pc + 1) ls (.ref (a + s * j) :: st) h kc nc) : am_G d μ mc ms Q pc ls (.int i :: .ref o :: st) h kc nc := by
  obtain ⟨x, hx, hf⟩ := Option.bind_eq_some_iff.mp hf
  unfold am_el at hx
  split at hx
  · cases hx
  · rename_i hin
    cases hx
    have hlt : i.toNatClampNeg < L := Nat.not_le.mp fun q => hin (Or.inr q)
    exact g_aald ho ht hin hd (hq _ hlt) (kk _ hlt hf)
theorem x_copy {o0 o1 n0 n1 i : Nat} {sp dp z : Int32} {K : am_H → Option τ} (hf : (am_cp h o0 n0 sp o1 n1 dp z).bind K = some r) (hs : am_Sh h) (ho0 : h.1[o0]? = some (.inr (.int, n0))) (ho1 : h.1[o1]? = some (.inr (.int, n1))) (hw : Cond.methodLink μ.1.cls i arraycopyName ∈ lw_g) (hdd : 0 < d) (hcat : (st.map fun v => v.category).sum ≤ 8) (hd : decode μ.2.1 pc = .ok (.invokestatic i, 3)) (kk : ∀ h1, K h1 = some r → am_Sh h1 → am_G d μ mc ms Q (pc + 3) ls st h1 kc nc) : am_G d μ mc ms Q pc ls (.int z :: .int dp :: .ref o1 :: .int sp :: .ref o0 :: st) h kc nc := by
  obtain ⟨x, hx, hf⟩ := Option.bind_eq_some_iff.mp hf
  unfold am_cp at hx
  split at hx
  · cases hx
  · rename_i hin
    cases hx
    exact g_copyi ho0 ho1 (fun c => hin (Or.inl c)) (fun c => hin (Or.inr (Or.inl c))) (fun c => hin (Or.inr (Or.inr (Or.inl c)))) (Nat.not_lt.mp fun c => hin (Or.inr (Or.inr (Or.inr (Or.inl c))))) (Nat.not_lt.mp fun c => hin (Or.inr (Or.inr (Or.inr (Or.inr c))))) hw Cp_nat Cp_st In_System hdd hcat hd (kk _ hf (hs.rI ho1))
theorem x_iret {v : Int32} {r : Int32 × am_H} (hf : some (v, h) = some r) (hs : am_Sh h) (hd : decode μ.2.1 pc = .ok (.ireturn, 1)) (hr0 : μ.2.2.2.1 = some .int) (hkc : kc ≤ mc) (hkn : nc ≤ ms) : am_G d μ mc ms (am_qI r) pc ls [.int v] h kc nc := by
  cases hf
  exact g_iret (st := []) hd hr0 hkc hkn ⟨rfl, rfl, hs⟩
theorem x_iretp {v r : Int32} (hf : some v = some r) (hd : decode μ.2.1 pc = .ok (.ireturn, 1)) (hr0 : μ.2.2.2.1 = some .int) (hkc : kc ≤ mc) (hkn : nc ≤ ms) : am_G d μ mc ms (am_pI h r) pc ls [.int v] h kc nc := by
  cases hf
  exact g_iret (st := []) hd hr0 hkc hkn ⟨rfl, rfl⟩
theorem x_lret {v : Int64} {r : Int64 × am_H} (hf : some (v, h) = some r) (hs : am_Sh h) (hd : decode μ.2.1 pc = .ok (.lreturn, 1)) (hr0 : μ.2.2.2.1 = some .long) (hkc : kc ≤ mc) (hkn : nc ≤ ms) : am_G d μ mc ms (am_qJ r) pc ls [.long v] h kc nc := by
  cases hf
  exact g_lret (st := []) hd hr0 hkc hkn ⟨rfl, rfl, hs⟩
theorem x_lretp {v r : Int64} (hf : some v = some r) (hd : decode μ.2.1 pc = .ok (.lreturn, 1)) (hr0 : μ.2.2.2.1 = some .long) (hkc : kc ≤ mc) (hkn : nc ≤ ms) : am_G d μ mc ms (am_pJ h r) pc ls [.long v] h kc nc := by
  cases hf
  exact g_lret (st := []) hd hr0 hkc hkn ⟨rfl, rfl⟩
theorem x_zret {v : Int32} {b : Bool} {r : Bool × am_H} (hv : v = am_b b) (hf : some (b, h) = some r) (hs : am_Sh h) (hd : decode μ.2.1 pc = .ok (.ireturn, 1)) (hr0 : μ.2.2.2.1 = some .boolean) (hkc : kc ≤ mc) (hkn : nc ≤ ms) : am_G d μ mc ms (am_qB r) pc ls [.int v] h kc nc := by
  cases hf
  subst hv
  exact g_zret (st := []) hd hr0 (by cases b <;> rfl) hkc hkn ⟨rfl, rfl, hs⟩
theorem x_zretp {v : Int32} {b r : Bool} (hv : v = am_b b) (hf : some b = some r) (hd : decode μ.2.1 pc = .ok (.ireturn, 1)) (hr0 : μ.2.2.2.1 = some .boolean) (hkc : kc ≤ mc) (hkn : nc ≤ ms) : am_G d μ mc ms (am_pB h r) pc ls [.int v] h kc nc := by
  cases hf
  subst hv
  exact g_zret (st := []) hd hr0 (by cases b <;> rfl) hkc hkn ⟨rfl, rfl⟩
theorem x_aretp {v r : Nat} {ty : FieldType} (hf : some v = some r) (hd : decode μ.2.1 pc = .ok (.areturn, 1)) (hr0 : μ.2.2.2.1 = some ty) (hrt : (∃ n, ty = .object n) ∨ ∃ t, ty = .array t) (hkc : kc ≤ mc) (hkn : nc ≤ ms) : am_G d μ mc ms (am_pR h r) pc ls [.ref v] h kc nc := by
  cases hf
  exact g_aret (st := []) hd hr0 hrt hkc hkn ⟨rfl, rfl⟩
theorem x_aret {v : Nat} {r : Nat × am_H} {ty : FieldType} (hf : some (v, h) = some r) (hs : am_Sh h) (hd : decode μ.2.1 pc = .ok (.areturn, 1)) (hr0 : μ.2.2.2.1 = some ty) (hrt : (∃ n, ty = .object n) ∨ ∃ t, ty = .array t) (hkc : kc ≤ mc) (hkn : nc ≤ ms) : am_G d μ mc ms (am_qR r) pc ls [.ref v] h kc nc := by
  cases hf
  exact g_aret (st := []) hd hr0 hrt hkc hkn ⟨rfl, rfl, hs⟩
theorem x_vret {r : am_H} (hf : some h = some r) (hs : am_Sh h) (hd : decode μ.2.1 pc = .ok (.return_, 1)) (hr0 : μ.2.2.2.1 = none) (hkc : kc ≤ mc) (hkn : nc ≤ ms) : am_G d μ mc ms (am_qV r) pc ls [] h kc nc := by
  cases hf
  exact g_vret (st := []) hd hr0 hkc hkn ⟨rfl, rfl, hs⟩
theorem x_callVI {d' N i : Nat} {μ' : am_M} {as stk : List Value} {F : Option (Int32 × am_H)} {K : (Int32 × am_H) → Option τ} {o c : Nat} (hi : Cond.instanceMethod μ'.1 ∈ lw_g) (hsel : Cond.selects μ'.1.cls μ'.1 μ'.1 ∈ lw_g) (ho : h.1[o]? = some (.inl c)) (hcC : (am_C c).1 = μ'.1.cls) (hf : F.bind K = some r) (hct : ∀ q, F = some q → am_Ct d' μ' (.ref o :: as) h 0 0 (am_qI q)) (hY : am_Y μ' N) (hw : Cond.methodLink μ.1.cls i μ'.1 ∈ lw_g) (hd : decode μ.2.1 pc = .ok (.invokevirtual i, 3)) (hst : stk = as.reverse ++ .ref o :: st) (hn : as.length = N) (hcat : (st.map fun v => v.category).sum ≤ 8) (hdd : d' < d) (hkc : kc ≤ mc) (hkn : nc ≤ ms) (kk : ∀ q, K q = some r → am_Sh q.2 → am_G d μ mc ms Q (pc + 3) ls (.int q.1 :: st) q.2 kc nc) : am_G d μ mc ms Q pc ls stk h kc nc := by
  obtain ⟨q0, hq0, hf⟩ := Option.bind_eq_some_iff.mp hf
  refine g_callV (hct q0 hq0) hY hi hsel hw ho hcC hd hst hn hcat hdd hkc hkn (fun v h' hq => ?_)
  obtain ⟨rfl, rfl, hs1⟩ := hq
  exact kk _ hf hs1
theorem x_callVIp {d' N i : Nat} {μ' : am_M} {as stk : List Value} {F : Option (Int32)} {K : (Int32) → Option τ} {o c : Nat} (hi : Cond.instanceMethod μ'.1 ∈ lw_g) (hsel : Cond.selects μ'.1.cls μ'.1 μ'.1 ∈ lw_g) (ho : h.1[o]? = some (.inl c)) (hcC : (am_C c).1 = μ'.1.cls) (hf : F.bind K = some r) (hct : ∀ q, F = some q → am_Ct d' μ' (.ref o :: as) h 0 0 (am_pI h q)) (hY : am_Y μ' N) (hw : Cond.methodLink μ.1.cls i μ'.1 ∈ lw_g) (hd : decode μ.2.1 pc = .ok (.invokevirtual i, 3)) (hst : stk = as.reverse ++ .ref o :: st) (hn : as.length = N) (hcat : (st.map fun v => v.category).sum ≤ 8) (hdd : d' < d) (hkc : kc ≤ mc) (hkn : nc ≤ ms) (kk : ∀ q, K q = some r → am_G d μ mc ms Q (pc + 3) ls (.int q :: st) h kc nc) : am_G d μ mc ms Q pc ls stk h kc nc := by
  obtain ⟨q0, hq0, hf⟩ := Option.bind_eq_some_iff.mp hf
  refine g_callV (hct q0 hq0) hY hi hsel hw ho hcC hd hst hn hcat hdd hkc hkn (fun v h' hq => ?_)
  obtain ⟨rfl, rfl⟩ := hq
  exact kk _ hf
theorem x_callVJ {d' N i : Nat} {μ' : am_M} {as stk : List Value} {F : Option (Int64 × am_H)} {K : (Int64 × am_H) → Option τ} {o c : Nat} (hi : Cond.instanceMethod μ'.1 ∈ lw_g) (hsel : Cond.selects μ'.1.cls μ'.1 μ'.1 ∈ lw_g) (ho : h.1[o]? = some (.inl c)) (hcC : (am_C c).1 = μ'.1.cls) (hf : F.bind K = some r) (hct : ∀ q, F = some q → am_Ct d' μ' (.ref o :: as) h 0 0 (am_qJ q)) (hY : am_Y μ' N) (hw : Cond.methodLink μ.1.cls i μ'.1 ∈ lw_g) (hd : decode μ.2.1 pc = .ok (.invokevirtual i, 3)) (hst : stk = as.reverse ++ .ref o :: st) (hn : as.length = N) (hcat : (st.map fun v => v.category).sum ≤ 8) (hdd : d' < d) (hkc : kc ≤ mc) (hkn : nc ≤ ms) (kk : ∀ q, K q = some r → am_Sh q.2 → am_G d μ mc ms Q (pc + 3) ls (.long q.1 :: st) q.2 kc nc) : am_G d μ mc ms Q pc ls stk h kc nc := by
  obtain ⟨q0, hq0, hf⟩ := Option.bind_eq_some_iff.mp hf
  refine g_callV (hct q0 hq0) hY hi hsel hw ho hcC hd hst hn hcat hdd hkc hkn (fun v h' hq => ?_)
  obtain ⟨rfl, rfl, hs1⟩ := hq
  exact kk _ hf hs1
theorem x_callVJp {d' N i : Nat} {μ' : am_M} {as stk : List Value} {F : Option (Int64)} {K : (Int64) → Option τ} {o c : Nat} (hi : Cond.instanceMethod μ'.1 ∈ lw_g) (hsel : Cond.selects μ'.1.cls μ'.1 μ'.1 ∈ lw_g) (ho : h.1[o]? = some (.inl c)) (hcC : (am_C c).1 = μ'.1.cls) (hf : F.bind K = some r) (hct : ∀ q, F = some q → am_Ct d' μ' (.ref o :: as) h 0 0 (am_pJ h q)) (hY : am_Y μ' N) (hw : Cond.methodLink μ.1.cls i μ'.1 ∈ lw_g) (hd : decode μ.2.1 pc = .ok (.invokevirtual i, 3)) (hst : stk = as.reverse ++ .ref o :: st) (hn : as.length = N) (hcat : (st.map fun v => v.category).sum ≤ 8) (hdd : d' < d) (hkc : kc ≤ mc) (hkn : nc ≤ ms) (kk : ∀ q, K q = some r → am_G d μ mc ms Q (pc + 3) ls (.long q :: st) h kc nc) : am_G d μ mc ms Q pc ls stk h kc nc := by
  obtain ⟨q0, hq0, hf⟩ := Option.bind_eq_some_iff.mp hf
  refine g_callV (hct q0 hq0) hY hi hsel hw ho hcC hd hst hn hcat hdd hkc hkn (fun v h' hq => ?_)
  obtain ⟨rfl, rfl⟩ := hq
  exact kk _ hf
theorem x_callVB {d' N i : Nat} {μ' : am_M} {as stk : List Value} {F : Option (Bool × am_H)} {K : (Bool × am_H) → Option τ} {o c : Nat} (hi : Cond.instanceMethod μ'.1 ∈ lw_g) (hsel : Cond.selects μ'.1.cls μ'.1 μ'.1 ∈ lw_g) (ho : h.1[o]? = some (.inl c)) (hcC : (am_C c).1 = μ'.1.cls) (hf : F.bind K = some r) (hct : ∀ q, F = some q → am_Ct d' μ' (.ref o :: as) h 0 0 (am_qB q)) (hY : am_Y μ' N) (hw : Cond.methodLink μ.1.cls i μ'.1 ∈ lw_g) (hd : decode μ.2.1 pc = .ok (.invokevirtual i, 3)) (hst : stk = as.reverse ++ .ref o :: st) (hn : as.length = N) (hcat : (st.map fun v => v.category).sum ≤ 8) (hdd : d' < d) (hkc : kc ≤ mc) (hkn : nc ≤ ms) (kk : ∀ q, K q = some r → am_Sh q.2 → am_G d μ mc ms Q (pc + 3) ls (.int (am_b q.1) :: st) q.2 kc nc) : am_G d μ mc ms Q pc ls stk h kc nc := by
  obtain ⟨q0, hq0, hf⟩ := Option.bind_eq_some_iff.mp hf
  refine g_callV (hct q0 hq0) hY hi hsel hw ho hcC hd hst hn hcat hdd hkc hkn (fun v h' hq => ?_)
  obtain ⟨rfl, rfl, hs1⟩ := hq
  exact kk _ hf hs1
theorem x_callVBp {d' N i : Nat} {μ' : am_M} {as stk : List Value} {F : Option (Bool)} {K : (Bool) → Option τ} {o c : Nat} (hi : Cond.instanceMethod μ'.1 ∈ lw_g) (hsel : Cond.selects μ'.1.cls μ'.1 μ'.1 ∈ lw_g) (ho : h.1[o]? = some (.inl c)) (hcC : (am_C c).1 = μ'.1.cls) (hf : F.bind K = some r) (hct : ∀ q, F = some q → am_Ct d' μ' (.ref o :: as) h 0 0 (am_pB h q)) (hY : am_Y μ' N) (hw : Cond.methodLink μ.1.cls i μ'.1 ∈ lw_g) (hd : decode μ.2.1 pc = .ok (.invokevirtual i, 3)) (hst : stk = as.reverse ++ .ref o :: st) (hn : as.length = N) (hcat : (st.map fun v => v.category).sum ≤ 8) (hdd : d' < d) (hkc : kc ≤ mc) (hkn : nc ≤ ms) (kk : ∀ q, K q = some r → am_G d μ mc ms Q (pc + 3) ls (.int (am_b q) :: st) h kc nc) : am_G d μ mc ms Q pc ls stk h kc nc := by
  obtain ⟨q0, hq0, hf⟩ := Option.bind_eq_some_iff.mp hf
  refine g_callV (hct q0 hq0) hY hi hsel hw ho hcC hd hst hn hcat hdd hkc hkn (fun v h' hq => ?_)
  obtain ⟨rfl, rfl⟩ := hq
  exact kk _ hf
theorem x_callVR {d' N i : Nat} {μ' : am_M} {as stk : List Value} {F : Option (Nat × am_H)} {K : (Nat × am_H) → Option τ} {o c : Nat} (hi : Cond.instanceMethod μ'.1 ∈ lw_g) (hsel : Cond.selects μ'.1.cls μ'.1 μ'.1 ∈ lw_g) (ho : h.1[o]? = some (.inl c)) (hcC : (am_C c).1 = μ'.1.cls) (hf : F.bind K = some r) (hct : ∀ q, F = some q → am_Ct d' μ' (.ref o :: as) h 0 0 (am_qR q)) (hY : am_Y μ' N) (hw : Cond.methodLink μ.1.cls i μ'.1 ∈ lw_g) (hd : decode μ.2.1 pc = .ok (.invokevirtual i, 3)) (hst : stk = as.reverse ++ .ref o :: st) (hn : as.length = N) (hcat : (st.map fun v => v.category).sum ≤ 8) (hdd : d' < d) (hkc : kc ≤ mc) (hkn : nc ≤ ms) (kk : ∀ q, F = some q → K q = some r → am_Sh q.2 → am_G d μ mc ms Q (pc + 3) ls (.ref q.1 :: st) q.2 kc nc) : am_G d μ mc ms Q pc ls stk h kc nc := by
  obtain ⟨q0, hq0, hf⟩ := Option.bind_eq_some_iff.mp hf
  refine g_callV (hct q0 hq0) hY hi hsel hw ho hcC hd hst hn hcat hdd hkc hkn (fun v h' hq => ?_)
  obtain ⟨rfl, rfl, hs1⟩ := hq
  exact kk _ hq0 hf hs1
theorem x_callVRp {d' N i : Nat} {μ' : am_M} {as stk : List Value} {F : Option (Nat)} {K : (Nat) → Option τ} {o c : Nat} (hi : Cond.instanceMethod μ'.1 ∈ lw_g) (hsel : Cond.selects μ'.1.cls μ'.1 μ'.1 ∈ lw_g) (ho : h.1[o]? = some (.inl c)) (hcC : (am_C c).1 = μ'.1.cls) (hf : F.bind K = some r) (hct : ∀ q, F = some q → am_Ct d' μ' (.ref o :: as) h 0 0 (am_pR h q)) (hY : am_Y μ' N) (hw : Cond.methodLink μ.1.cls i μ'.1 ∈ lw_g) (hd : decode μ.2.1 pc = .ok (.invokevirtual i, 3)) (hst : stk = as.reverse ++ .ref o :: st) (hn : as.length = N) (hcat : (st.map fun v => v.category).sum ≤ 8) (hdd : d' < d) (hkc : kc ≤ mc) (hkn : nc ≤ ms) (kk : ∀ q, F = some q → K q = some r → am_G d μ mc ms Q (pc + 3) ls (.ref q :: st) h kc nc) : am_G d μ mc ms Q pc ls stk h kc nc := by
  obtain ⟨q0, hq0, hf⟩ := Option.bind_eq_some_iff.mp hf
  refine g_callV (hct q0 hq0) hY hi hsel hw ho hcC hd hst hn hcat hdd hkc hkn (fun v h' hq => ?_)
  obtain ⟨rfl, rfl⟩ := hq
  exact kk _ hq0 hf
theorem x_callVV {d' N i : Nat} {μ' : am_M} {as stk : List Value} {F : Option (am_H)} {K : (am_H) → Option τ} {o c : Nat} (hi : Cond.instanceMethod μ'.1 ∈ lw_g) (hsel : Cond.selects μ'.1.cls μ'.1 μ'.1 ∈ lw_g) (ho : h.1[o]? = some (.inl c)) (hcC : (am_C c).1 = μ'.1.cls) (hf : F.bind K = some r) (hct : ∀ q, F = some q → am_Ct d' μ' (.ref o :: as) h 0 0 (am_qV q)) (hY : am_Y μ' N) (hw : Cond.methodLink μ.1.cls i μ'.1 ∈ lw_g) (hd : decode μ.2.1 pc = .ok (.invokevirtual i, 3)) (hst : stk = as.reverse ++ .ref o :: st) (hn : as.length = N) (hcat : (st.map fun v => v.category).sum ≤ 8) (hdd : d' < d) (hkc : kc ≤ mc) (hkn : nc ≤ ms) (kk : ∀ q, K q = some r → am_Sh q → am_G d μ mc ms Q (pc + 3) ls st q kc nc) : am_G d μ mc ms Q pc ls stk h kc nc := by
  obtain ⟨q0, hq0, hf⟩ := Option.bind_eq_some_iff.mp hf
  refine g_callV (hct q0 hq0) hY hi hsel hw ho hcC hd hst hn hcat hdd hkc hkn (fun v h' hq => ?_)
  obtain ⟨rfl, rfl, hs1⟩ := hq
  exact kk _ hf hs1
theorem x_callSI {d' N i : Nat} {μ' : am_M} {as stk : List Value} {F : Option (Int32 × am_H)} {K : (Int32 × am_H) → Option τ} (hst0 : Cond.static μ'.1 ∈ lw_g) (hf : F.bind K = some r) (hct : ∀ q, F = some q → am_Ct d' μ' (as) h 0 0 (am_qI q)) (hY : am_Y μ' N) (hw : Cond.methodLink μ.1.cls i μ'.1 ∈ lw_g) (hd : decode μ.2.1 pc = .ok (.invokestatic i, 3)) (hst : stk = as.reverse ++ st) (hn : as.length = N) (hcat : (st.map fun v => v.category).sum ≤ 8) (hdd : d' < d) (hkc : kc ≤ mc) (hkn : nc ≤ ms) (kk : ∀ q, K q = some r → am_Sh q.2 → am_G d μ mc ms Q (pc + 3) ls (.int q.1 :: st) q.2 kc nc) : am_G d μ mc ms Q pc ls stk h kc nc := by
  obtain ⟨q0, hq0, hf⟩ := Option.bind_eq_some_iff.mp hf
  refine g_callS (hct q0 hq0) hY hst0 hw hd hst hn hcat hdd hkc hkn (fun v h' hq => ?_)
  obtain ⟨rfl, rfl, hs1⟩ := hq
  exact kk _ hf hs1
theorem x_callSIp {d' N i : Nat} {μ' : am_M} {as stk : List Value} {F : Option (Int32)} {K : (Int32) → Option τ} (hst0 : Cond.static μ'.1 ∈ lw_g) (hf : F.bind K = some r) (hct : ∀ q, F = some q → am_Ct d' μ' (as) h 0 0 (am_pI h q)) (hY : am_Y μ' N) (hw : Cond.methodLink μ.1.cls i μ'.1 ∈ lw_g) (hd : decode μ.2.1 pc = .ok (.invokestatic i, 3)) (hst : stk = as.reverse ++ st) (hn : as.length = N) (hcat : (st.map fun v => v.category).sum ≤ 8) (hdd : d' < d) (hkc : kc ≤ mc) (hkn : nc ≤ ms) (kk : ∀ q, K q = some r → am_G d μ mc ms Q (pc + 3) ls (.int q :: st) h kc nc) : am_G d μ mc ms Q pc ls stk h kc nc := by
  obtain ⟨q0, hq0, hf⟩ := Option.bind_eq_some_iff.mp hf
  refine g_callS (hct q0 hq0) hY hst0 hw hd hst hn hcat hdd hkc hkn (fun v h' hq => ?_)
  obtain ⟨rfl, rfl⟩ := hq
  exact kk _ hf
theorem x_callSJ {d' N i : Nat} {μ' : am_M} {as stk : List Value} {F : Option (Int64 × am_H)} {K : (Int64 × am_H) → Option τ} (hst0 : Cond.static μ'.1 ∈ lw_g) (hf : F.bind K = some r) (hct : ∀ q, F = some q → am_Ct d' μ' (as) h 0 0 (am_qJ q)) (hY : am_Y μ' N) (hw : Cond.methodLink μ.1.cls i μ'.1 ∈ lw_g) (hd : decode μ.2.1 pc = .ok (.invokestatic i, 3)) (hst : stk = as.reverse ++ st) (hn : as.length = N) (hcat : (st.map fun v => v.category).sum ≤ 8) (hdd : d' < d) (hkc : kc ≤ mc) (hkn : nc ≤ ms) (kk : ∀ q, K q = some r → am_Sh q.2 → am_G d μ mc ms Q (pc + 3) ls (.long q.1 :: st) q.2 kc nc) : am_G d μ mc ms Q pc ls stk h kc nc := by
  obtain ⟨q0, hq0, hf⟩ := Option.bind_eq_some_iff.mp hf
  refine g_callS (hct q0 hq0) hY hst0 hw hd hst hn hcat hdd hkc hkn (fun v h' hq => ?_)
  obtain ⟨rfl, rfl, hs1⟩ := hq
  exact kk _ hf hs1
theorem x_callSJp {d' N i : Nat} {μ' : am_M} {as stk : List Value} {F : Option (Int64)} {K : (Int64) → Option τ} (hst0 : Cond.static μ'.1 ∈ lw_g) (hf : F.bind K = some r) (hct : ∀ q, F = some q → am_Ct d' μ' (as) h 0 0 (am_pJ h q)) (hY : am_Y μ' N) (hw : Cond.methodLink μ.1.cls i μ'.1 ∈ lw_g) (hd : decode μ.2.1 pc = .ok (.invokestatic i, 3)) (hst : stk = as.reverse ++ st) (hn : as.length = N) (hcat : (st.map fun v => v.category).sum ≤ 8) (hdd : d' < d) (hkc : kc ≤ mc) (hkn : nc ≤ ms) (kk : ∀ q, K q = some r → am_G d μ mc ms Q (pc + 3) ls (.long q :: st) h kc nc) : am_G d μ mc ms Q pc ls stk h kc nc := by
  obtain ⟨q0, hq0, hf⟩ := Option.bind_eq_some_iff.mp hf
  refine g_callS (hct q0 hq0) hY hst0 hw hd hst hn hcat hdd hkc hkn (fun v h' hq => ?_)
  obtain ⟨rfl, rfl⟩ := hq
  exact kk _ hf
theorem x_callSB {d' N i : Nat} {μ' : am_M} {as stk : List Value} {F : Option (Bool × am_H)} {K : (Bool × am_H) → Option τ} (hst0 : Cond.static μ'.1 ∈ lw_g) (hf : F.bind K = some r) (hct : ∀ q, F = some q → am_Ct d' μ' (as) h 0 0 (am_qB q)) (hY : am_Y μ' N) (hw : Cond.methodLink μ.1.cls i μ'.1 ∈ lw_g) (hd : decode μ.2.1 pc = .ok (.invokestatic i, 3)) (hst : stk = as.reverse ++ st) (hn : as.length = N) (hcat : (st.map fun v => v.category).sum ≤ 8) (hdd : d' < d) (hkc : kc ≤ mc) (hkn : nc ≤ ms) (kk : ∀ q, K q = some r → am_Sh q.2 → am_G d μ mc ms Q (pc + 3) ls (.int (am_b q.1) :: st) q.2 kc nc) : am_G d μ mc ms Q pc ls stk h kc nc := by
  obtain ⟨q0, hq0, hf⟩ := Option.bind_eq_some_iff.mp hf
  refine g_callS (hct q0 hq0) hY hst0 hw hd hst hn hcat hdd hkc hkn (fun v h' hq => ?_)
  obtain ⟨rfl, rfl, hs1⟩ := hq
  exact kk _ hf hs1
theorem x_callSBp {d' N i : Nat} {μ' : am_M} {as stk : List Value} {F : Option (Bool)} {K : (Bool) → Option τ} (hst0 : Cond.static μ'.1 ∈ lw_g) (hf : F.bind K = some r) (hct : ∀ q, F = some q → am_Ct d' μ' (as) h 0 0 (am_pB h q)) (hY : am_Y μ' N) (hw : Cond.methodLink μ.1.cls i μ'.1 ∈ lw_g) (hd : decode μ.2.1 pc = .ok (.invokestatic i, 3)) (hst : stk = as.reverse ++ st) (hn : as.length = N) (hcat : (st.map fun v => v.category).sum ≤ 8) (hdd : d' < d) (hkc : kc ≤ mc) (hkn : nc ≤ ms) (kk : ∀ q, K q = some r → am_G d μ mc ms Q (pc + 3) ls (.int (am_b q) :: st) h kc nc) : am_G d μ mc ms Q pc ls stk h kc nc := by
  obtain ⟨q0, hq0, hf⟩ := Option.bind_eq_some_iff.mp hf
  refine g_callS (hct q0 hq0) hY hst0 hw hd hst hn hcat hdd hkc hkn (fun v h' hq => ?_)
  obtain ⟨rfl, rfl⟩ := hq
  exact kk _ hf
theorem x_callSR {d' N i : Nat} {μ' : am_M} {as stk : List Value} {F : Option (Nat × am_H)} {K : (Nat × am_H) → Option τ} (hst0 : Cond.static μ'.1 ∈ lw_g) (hf : F.bind K = some r) (hct : ∀ q, F = some q → am_Ct d' μ' (as) h 0 0 (am_qR q)) (hY : am_Y μ' N) (hw : Cond.methodLink μ.1.cls i μ'.1 ∈ lw_g) (hd : decode μ.2.1 pc = .ok (.invokestatic i, 3)) (hst : stk = as.reverse ++ st) (hn : as.length = N) (hcat : (st.map fun v => v.category).sum ≤ 8) (hdd : d' < d) (hkc : kc ≤ mc) (hkn : nc ≤ ms) (kk : ∀ q, F = some q → K q = some r → am_Sh q.2 → am_G d μ mc ms Q (pc + 3) ls (.ref q.1 :: st) q.2 kc nc) : am_G d μ mc ms Q pc ls stk h kc nc := by
  obtain ⟨q0, hq0, hf⟩ := Option.bind_eq_some_iff.mp hf
  refine g_callS (hct q0 hq0) hY hst0 hw hd hst hn hcat hdd hkc hkn (fun v h' hq => ?_)
  obtain ⟨rfl, rfl, hs1⟩ := hq
  exact kk _ hq0 hf hs1
theorem x_callSRp {d' N i : Nat} {μ' : am_M} {as stk : List Value} {F : Option (Nat)} {K : (Nat) → Option τ} (hst0 : Cond.static μ'.1 ∈ lw_g) (hf : F.bind K = some r) (hct : ∀ q, F = some q → am_Ct d' μ' (as) h 0 0 (am_pR h q)) (hY : am_Y μ' N) (hw : Cond.methodLink μ.1.cls i μ'.1 ∈ lw_g) (hd : decode μ.2.1 pc = .ok (.invokestatic i, 3)) (hst : stk = as.reverse ++ st) (hn : as.length = N) (hcat : (st.map fun v => v.category).sum ≤ 8) (hdd : d' < d) (hkc : kc ≤ mc) (hkn : nc ≤ ms) (kk : ∀ q, F = some q → K q = some r → am_G d μ mc ms Q (pc + 3) ls (.ref q :: st) h kc nc) : am_G d μ mc ms Q pc ls stk h kc nc := by
  obtain ⟨q0, hq0, hf⟩ := Option.bind_eq_some_iff.mp hf
  refine g_callS (hct q0 hq0) hY hst0 hw hd hst hn hcat hdd hkc hkn (fun v h' hq => ?_)
  obtain ⟨rfl, rfl⟩ := hq
  exact kk _ hq0 hf
theorem x_callSV {d' N i : Nat} {μ' : am_M} {as stk : List Value} {F : Option (am_H)} {K : (am_H) → Option τ} (hst0 : Cond.static μ'.1 ∈ lw_g) (hf : F.bind K = some r) (hct : ∀ q, F = some q → am_Ct d' μ' (as) h 0 0 (am_qV q)) (hY : am_Y μ' N) (hw : Cond.methodLink μ.1.cls i μ'.1 ∈ lw_g) (hd : decode μ.2.1 pc = .ok (.invokestatic i, 3)) (hst : stk = as.reverse ++ st) (hn : as.length = N) (hcat : (st.map fun v => v.category).sum ≤ 8) (hdd : d' < d) (hkc : kc ≤ mc) (hkn : nc ≤ ms) (kk : ∀ q, K q = some r → am_Sh q → am_G d μ mc ms Q (pc + 3) ls st q kc nc) : am_G d μ mc ms Q pc ls stk h kc nc := by
  obtain ⟨q0, hq0, hf⟩ := Option.bind_eq_some_iff.mp hf
  refine g_callS (hct q0 hq0) hY hst0 hw hd hst hn hcat hdd hkc hkn (fun v h' hq => ?_)
  obtain ⟨rfl, rfl, hs1⟩ := hq
  exact kk _ hf hs1
theorem x_callSNI {d' N i : Nat} {μ' : am_M} {as stk : List Value} {F : Option (Int32 × am_H)} {K : (Int32 × am_H) → Option τ} {host : String} (hst0 : Cond.static μ'.1 ∈ lw_g) (hf : F.bind K = some r) (hct : ∀ q, F = some q → am_Ct d' μ' (as) h 0 0 (am_qI q)) (hY : am_Y μ' N) (hw : Cond.methodLinkNest μ.1.cls i μ'.1 host ∈ lw_tbl) (hd : decode μ.2.1 pc = .ok (.invokestatic i, 3)) (hst : stk = as.reverse ++ st) (hn : as.length = N) (hcat : (st.map fun v => v.category).sum ≤ 8) (hdd : d' < d) (hkc : kc ≤ mc) (hkn : nc ≤ ms) (kk : ∀ q, K q = some r → am_Sh q.2 → am_G d μ mc ms Q (pc + 3) ls (.int q.1 :: st) q.2 kc nc) : am_G d μ mc ms Q pc ls stk h kc nc := by
  obtain ⟨q0, hq0, hf⟩ := Option.bind_eq_some_iff.mp hf
  refine g_callSN (hct q0 hq0) hY hst0 hw hd hst hn hcat hdd hkc hkn (fun v h' hq => ?_)
  obtain ⟨rfl, rfl, hs1⟩ := hq
  exact kk _ hf hs1
theorem x_callSNIp {d' N i : Nat} {μ' : am_M} {as stk : List Value} {F : Option (Int32)} {K : (Int32) → Option τ} {host : String} (hst0 : Cond.static μ'.1 ∈ lw_g) (hf : F.bind K = some r) (hct : ∀ q, F = some q → am_Ct d' μ' (as) h 0 0 (am_pI h q)) (hY : am_Y μ' N) (hw : Cond.methodLinkNest μ.1.cls i μ'.1 host ∈ lw_tbl) (hd : decode μ.2.1 pc = .ok (.invokestatic i, 3)) (hst : stk = as.reverse ++ st) (hn : as.length = N) (hcat : (st.map fun v => v.category).sum ≤ 8) (hdd : d' < d) (hkc : kc ≤ mc) (hkn : nc ≤ ms) (kk : ∀ q, K q = some r → am_G d μ mc ms Q (pc + 3) ls (.int q :: st) h kc nc) : am_G d μ mc ms Q pc ls stk h kc nc := by
  obtain ⟨q0, hq0, hf⟩ := Option.bind_eq_some_iff.mp hf
  refine g_callSN (hct q0 hq0) hY hst0 hw hd hst hn hcat hdd hkc hkn (fun v h' hq => ?_)
  obtain ⟨rfl, rfl⟩ := hq
  exact kk _ hf
theorem x_callSNJ {d' N i : Nat} {μ' : am_M} {as stk : List Value} {F : Option (Int64 × am_H)} {K : (Int64 × am_H) → Option τ} {host : String} (hst0 : Cond.static μ'.1 ∈ lw_g) (hf : F.bind K = some r) (hct : ∀ q, F = some q → am_Ct d' μ' (as) h 0 0 (am_qJ q)) (hY : am_Y μ' N) (hw : Cond.methodLinkNest μ.1.cls i μ'.1 host ∈ lw_tbl) (hd : decode μ.2.1 pc = .ok (.invokestatic i, 3)) (hst : stk = as.reverse ++ st) (hn : as.length = N) (hcat : (st.map fun v => v.category).sum ≤ 8) (hdd : d' < d) (hkc : kc ≤ mc) (hkn : nc ≤ ms) (kk : ∀ q, K q = some r → am_Sh q.2 → am_G d μ mc ms Q (pc + 3) ls (.long q.1 :: st) q.2 kc nc) : am_G d μ mc ms Q pc ls stk h kc nc := by
  obtain ⟨q0, hq0, hf⟩ := Option.bind_eq_some_iff.mp hf
  refine g_callSN (hct q0 hq0) hY hst0 hw hd hst hn hcat hdd hkc hkn (fun v h' hq => ?_)
  obtain ⟨rfl, rfl, hs1⟩ := hq
  exact kk _ hf hs1
theorem x_callSNJp {d' N i : Nat} {μ' : am_M} {as stk : List Value} {F : Option (Int64)} {K : (Int64) → Option τ} {host : String} (hst0 : Cond.static μ'.1 ∈ lw_g) (hf : F.bind K = some r) (hct : ∀ q, F = some q → am_Ct d' μ' (as) h 0 0 (am_pJ h q)) (hY : am_Y μ' N) (hw : Cond.methodLinkNest μ.1.cls i μ'.1 host ∈ lw_tbl) (hd : decode μ.2.1 pc = .ok (.invokestatic i, 3)) (hst : stk = as.reverse ++ st) (hn : as.length = N) (hcat : (st.map fun v => v.category).sum ≤ 8) (hdd : d' < d) (hkc : kc ≤ mc) (hkn : nc ≤ ms) (kk : ∀ q, K q = some r → am_G d μ mc ms Q (pc + 3) ls (.long q :: st) h kc nc) : am_G d μ mc ms Q pc ls stk h kc nc := by
  obtain ⟨q0, hq0, hf⟩ := Option.bind_eq_some_iff.mp hf
  refine g_callSN (hct q0 hq0) hY hst0 hw hd hst hn hcat hdd hkc hkn (fun v h' hq => ?_)
  obtain ⟨rfl, rfl⟩ := hq
  exact kk _ hf
theorem x_callSNB {d' N i : Nat} {μ' : am_M} {as stk : List Value} {F : Option (Bool × am_H)} {K : (Bool × am_H) → Option τ} {host : String} (hst0 : Cond.static μ'.1 ∈ lw_g) (hf : F.bind K = some r) (hct : ∀ q, F = some q → am_Ct d' μ' (as) h 0 0 (am_qB q)) (hY : am_Y μ' N) (hw : Cond.methodLinkNest μ.1.cls i μ'.1 host ∈ lw_tbl) (hd : decode μ.2.1 pc = .ok (.invokestatic i, 3)) (hst : stk = as.reverse ++ st) (hn : as.length = N) (hcat : (st.map fun v => v.category).sum ≤ 8) (hdd : d' < d) (hkc : kc ≤ mc) (hkn : nc ≤ ms) (kk : ∀ q, K q = some r → am_Sh q.2 → am_G d μ mc ms Q (pc + 3) ls (.int (am_b q.1) :: st) q.2 kc nc) : am_G d μ mc ms Q pc ls stk h kc nc := by
  obtain ⟨q0, hq0, hf⟩ := Option.bind_eq_some_iff.mp hf
  refine g_callSN (hct q0 hq0) hY hst0 hw hd hst hn hcat hdd hkc hkn (fun v h' hq => ?_)
  obtain ⟨rfl, rfl, hs1⟩ := hq
  exact kk _ hf hs1
theorem x_callSNBp {d' N i : Nat} {μ' : am_M} {as stk : List Value} {F : Option (Bool)} {K : (Bool) → Option τ} {host : String} (hst0 : Cond.static μ'.1 ∈ lw_g) (hf : F.bind K = some r) (hct : ∀ q, F = some q → am_Ct d' μ' (as) h 0 0 (am_pB h q)) (hY : am_Y μ' N) (hw : Cond.methodLinkNest μ.1.cls i μ'.1 host ∈ lw_tbl) (hd : decode μ.2.1 pc = .ok (.invokestatic i, 3)) (hst : stk = as.reverse ++ st) (hn : as.length = N) (hcat : (st.map fun v => v.category).sum ≤ 8) (hdd : d' < d) (hkc : kc ≤ mc) (hkn : nc ≤ ms) (kk : ∀ q, K q = some r → am_G d μ mc ms Q (pc + 3) ls (.int (am_b q) :: st) h kc nc) : am_G d μ mc ms Q pc ls stk h kc nc := by
  obtain ⟨q0, hq0, hf⟩ := Option.bind_eq_some_iff.mp hf
  refine g_callSN (hct q0 hq0) hY hst0 hw hd hst hn hcat hdd hkc hkn (fun v h' hq => ?_)
  obtain ⟨rfl, rfl⟩ := hq
  exact kk _ hf
theorem x_callSNR {d' N i : Nat} {μ' : am_M} {as stk : List Value} {F : Option (Nat × am_H)} {K : (Nat × am_H) → Option τ} {host : String} (hst0 : Cond.static μ'.1 ∈ lw_g) (hf : F.bind K = some r) (hct : ∀ q, F = some q → am_Ct d' μ' (as) h 0 0 (am_qR q)) (hY : am_Y μ' N) (hw : Cond.methodLinkNest μ.1.cls i μ'.1 host ∈ lw_tbl) (hd : decode μ.2.1 pc = .ok (.invokestatic i, 3)) (hst : stk = as.reverse ++ st) (hn : as.length = N) (hcat : (st.map fun v => v.category).sum ≤ 8) (hdd : d' < d) (hkc : kc ≤ mc) (hkn : nc ≤ ms) (kk : ∀ q, F = some q → K q = some r → am_Sh q.2 → am_G d μ mc ms Q (pc + 3) ls (.ref q.1 :: st) q.2 kc nc) : am_G d μ mc ms Q pc ls stk h kc nc := by
  obtain ⟨q0, hq0, hf⟩ := Option.bind_eq_some_iff.mp hf
  refine g_callSN (hct q0 hq0) hY hst0 hw hd hst hn hcat hdd hkc hkn (fun v h' hq => ?_)
  obtain ⟨rfl, rfl, hs1⟩ := hq
  exact kk _ hq0 hf hs1
theorem x_callSNRp {d' N i : Nat} {μ' : am_M} {as stk : List Value} {F : Option (Nat)} {K : (Nat) → Option τ} {host : String} (hst0 : Cond.static μ'.1 ∈ lw_g) (hf : F.bind K = some r) (hct : ∀ q, F = some q → am_Ct d' μ' (as) h 0 0 (am_pR h q)) (hY : am_Y μ' N) (hw : Cond.methodLinkNest μ.1.cls i μ'.1 host ∈ lw_tbl) (hd : decode μ.2.1 pc = .ok (.invokestatic i, 3)) (hst : stk = as.reverse ++ st) (hn : as.length = N) (hcat : (st.map fun v => v.category).sum ≤ 8) (hdd : d' < d) (hkc : kc ≤ mc) (hkn : nc ≤ ms) (kk : ∀ q, F = some q → K q = some r → am_G d μ mc ms Q (pc + 3) ls (.ref q :: st) h kc nc) : am_G d μ mc ms Q pc ls stk h kc nc := by
  obtain ⟨q0, hq0, hf⟩ := Option.bind_eq_some_iff.mp hf
  refine g_callSN (hct q0 hq0) hY hst0 hw hd hst hn hcat hdd hkc hkn (fun v h' hq => ?_)
  obtain ⟨rfl, rfl⟩ := hq
  exact kk _ hq0 hf
theorem x_callSNV {d' N i : Nat} {μ' : am_M} {as stk : List Value} {F : Option (am_H)} {K : (am_H) → Option τ} {host : String} (hst0 : Cond.static μ'.1 ∈ lw_g) (hf : F.bind K = some r) (hct : ∀ q, F = some q → am_Ct d' μ' (as) h 0 0 (am_qV q)) (hY : am_Y μ' N) (hw : Cond.methodLinkNest μ.1.cls i μ'.1 host ∈ lw_tbl) (hd : decode μ.2.1 pc = .ok (.invokestatic i, 3)) (hst : stk = as.reverse ++ st) (hn : as.length = N) (hcat : (st.map fun v => v.category).sum ≤ 8) (hdd : d' < d) (hkc : kc ≤ mc) (hkn : nc ≤ ms) (kk : ∀ q, K q = some r → am_Sh q → am_G d μ mc ms Q (pc + 3) ls st q kc nc) : am_G d μ mc ms Q pc ls stk h kc nc := by
  obtain ⟨q0, hq0, hf⟩ := Option.bind_eq_some_iff.mp hf
  refine g_callSN (hct q0 hq0) hY hst0 hw hd hst hn hcat hdd hkc hkn (fun v h' hq => ?_)
  obtain ⟨rfl, rfl, hs1⟩ := hq
  exact kk _ hf hs1
theorem x_callVsIp {d' N i o : Nat} {μ' : am_M} {as stk : List Value} {F : Option (Int32)} {K : (Int32) → Option τ} (hi : Cond.instanceMethod μ'.1 ∈ lw_g) (hsel : Cond.selects μ'.1.cls μ'.1 μ'.1 ∈ lw_g) (ho : o < 4) (hcC : μ'.1.cls = "java/lang/String") (hf : F.bind K = some r) (hct : ∀ q, F = some q → am_Ct d' μ' (.retAddr o :: as) h 0 0 (am_pI h q)) (hY : am_Y μ' N) (hw : Cond.methodLink μ.1.cls i μ'.1 ∈ lw_g) (hd : decode μ.2.1 pc = .ok (.invokevirtual i, 3)) (hst : stk = as.reverse ++ .retAddr o :: st) (hn : as.length = N) (hcat : (st.map fun v => v.category).sum ≤ 8) (hdd : d' < d) (hkc : kc ≤ mc) (hkn : nc ≤ ms) (kk : ∀ q, K q = some r → am_G d μ mc ms Q (pc + 3) ls (.int q :: st) h kc nc) : am_G d μ mc ms Q pc ls stk h kc nc := by
  obtain ⟨q0, hq0, hf⟩ := Option.bind_eq_some_iff.mp hf
  refine g_callVs (hct q0 hq0) hY hi hsel hw ho hcC hd hst hn hcat hdd hkc hkn (fun v h' hq => ?_)
  obtain ⟨rfl, rfl⟩ := hq
  exact kk _ hf
theorem x_callVsBp {d' N i o : Nat} {μ' : am_M} {as stk : List Value} {F : Option (Bool)} {K : (Bool) → Option τ} (hi : Cond.instanceMethod μ'.1 ∈ lw_g) (hsel : Cond.selects μ'.1.cls μ'.1 μ'.1 ∈ lw_g) (ho : o < 4) (hcC : μ'.1.cls = "java/lang/String") (hf : F.bind K = some r) (hct : ∀ q, F = some q → am_Ct d' μ' (.retAddr o :: as) h 0 0 (am_pB h q)) (hY : am_Y μ' N) (hw : Cond.methodLink μ.1.cls i μ'.1 ∈ lw_g) (hd : decode μ.2.1 pc = .ok (.invokevirtual i, 3)) (hst : stk = as.reverse ++ .retAddr o :: st) (hn : as.length = N) (hcat : (st.map fun v => v.category).sum ≤ 8) (hdd : d' < d) (hkc : kc ≤ mc) (hkn : nc ≤ ms) (kk : ∀ q, K q = some r → am_G d μ mc ms Q (pc + 3) ls (.int (am_b q) :: st) h kc nc) : am_G d μ mc ms Q pc ls stk h kc nc := by
  obtain ⟨q0, hq0, hf⟩ := Option.bind_eq_some_iff.mp hf
  refine g_callVs (hct q0 hq0) hY hi hsel hw ho hcC hd hst hn hcat hdd hkc hkn (fun v h' hq => ?_)
  obtain ⟨rfl, rfl⟩ := hq
  exact kk _ hf
theorem x_sbald {o : Nat} {i : Int32} {K : Int32 → Option τ} (hf : (am_rd (am_sb o) (am_sl o) i).bind K = some r) (ho : o < 4) (hd : decode μ.2.1 pc = .ok (.baload, 1)) (kk : ∀ x, K x = some r → am_G d μ mc ms Q (pc + 1) ls (.int x :: st) h kc nc) : am_G d μ mc ms Q pc ls (.int i :: .retAddr (10 + o) :: st) h kc nc := by
  obtain ⟨x, hx, hf⟩ := Option.bind_eq_some_iff.mp hf
  unfold am_rd at hx
  split at hx
  · cases hx
  · rename_i hin
    cases hx
    exact g_sbald ho hin hd (kk _ hf)
theorem x_sld {L : Nat} {xs : Nat → Int32} {i : Int32} {K : Int32 → Option τ} (hf : (am_rd xs L i).bind K = some r) (hσ : μ.2.2.2.2 = some (L, xs)) (hd : decode μ.2.1 pc = .ok (.iaload, 1)) (kk : ∀ x, K x = some r → am_G d μ mc ms Q (pc + 1) ls (.int x :: st) h kc nc) : am_G d μ mc ms Q pc ls (.int i :: .retAddr 100 :: st) h kc nc := by
  obtain ⟨x, hx, hf⟩ := Option.bind_eq_some_iff.mp hf
  unfold am_rd at hx
  split at hx
  · cases hx
  · rename_i hin
    cases hx
    exact g_sld hσ hin hd (kk _ hf)
theorem x_tabIn {dflt lo hi : Int} {offs : Array Int} {len : Nat} {x : Int32} {off : Int} {tgt : Nat} (hd : decode μ.2.1 pc = .ok (.tableswitch dflt lo hi offs, len)) (h1 : ¬ x.toInt < lo) (h2 : ¬ hi < x.toInt) (ho : offs[(x.toInt - lo).toNat]? = some off) (ht : (pc : Int) + off = (tgt : Int)) (kk : am_G d μ mc ms Q tgt ls st h kc nc) : am_G d μ mc ms Q pc ls (.int x :: st) h kc nc := by
  intro p l e R s m args below meth c H locs arr w hc hk hr hS hl
  exact lv_tableIn hc.1 hc.2.1 hd h1 h2 ho ht (kk _ _ _ _ _ _ _ _ _ _ _ _ _ w hc hk hr hS hl)
theorem x_tabOut {dflt lo hi : Int} {offs : Array Int} {len : Nat} {x : Int32} {tgt : Nat} (hd : decode μ.2.1 pc = .ok (.tableswitch dflt lo hi offs, len)) (hx : x.toInt < lo ∨ hi < x.toInt) (ht : (pc : Int) + dflt = (tgt : Int)) (kk : am_G d μ mc ms Q tgt ls st h kc nc) : am_G d μ mc ms Q pc ls (.int x :: st) h kc nc := by
  intro p l e R s m args below meth c H locs arr w hc hk hr hS hl
  exact lv_tableOut hc.1 hc.2.1 hd hx ht (kk _ _ _ _ _ _ _ _ _ _ _ _ _ w hc hk hr hS hl)
theorem am_tabNe {lo hi : Int} {x : Int32} (hb : -2147483648 ≤ lo ∧ hi < 2147483648) (h : ∀ n : Nat, n < (hi - lo + 1).toNat → x ≠ Int32.ofInt (lo + n)) : x.toInt < lo ∨ hi < x.toInt := by
  by_cases h1 : x.toInt < lo
  · exact Or.inl h1
  · by_cases h2 : hi < x.toInt
    · exact Or.inr h2
    · exfalso
      refine h (x.toInt - lo).toNat (by omega) ?_
      apply Int32.toInt_inj.mp
      rw [Int32.toInt_ofInt_of_le (by omega) (by omega)]
      omega
end XR
