/-! ===== what a law says: its codes run over a stack ===== -/
def am_ex (X : List Nat) (h h' : am_H) : Prop := h'.1 = h.1 ∧ h'.2.2 = h.2.2 ∧ ∀ a, a ∉ X → h'.2.1 a = h.2.1 a
theorem am_ex.rf {X : List Nat} {h : am_H} : am_ex X h h := ⟨rfl, rfl, fun _ _ => rfl⟩
theorem am_ex.tr {X Y Z : List Nat} {h h' h'' : am_H} (a : am_ex X h h') (b : am_ex Y h' h'') (hX : ∀ x ∈ X, x ∈ Z) (hY : ∀ y ∈ Y, y ∈ Z) : am_ex Z h h'' :=
  ⟨b.1.trans a.1, b.2.1.trans a.2.1, fun q hq => (b.2.2 q (fun c => hq (hY q c))).trans (a.2.2 q (fun c => hq (hX q c)))⟩
theorem am_ex.sI {X : List Nat} {h : am_H} {o j : Nat} {x : Int32} (ho : o ∈ X) : am_ex X h (am_sI h o j x) :=
  ⟨rfl, rfl, fun a ha => by rw [sI_row, if_neg (fun c => ha (by rw [c]; exact ho))]⟩
theorem am_ex.rI {X : List Nat} {h : am_H} {o : Nat} {f : Nat → Int32} (ho : o ∈ X) : am_ex X h (am_rI h o f) :=
  ⟨rfl, rfl, fun a ha => by rw [rI_row, if_neg (fun c => ha (by rw [c]; exact ho))]⟩
def sp_btw (c a b : Int32) : Int32 := (f_Mod_between c a b am_e).getD 0
theorem n_between (c a b : Int32) (h : am_H) : f_Mod_between c a b h = some (sp_btw c a b) := by
  have e : f_Mod_between c a b h = f_Mod_between c a b am_e := rfl
  unfold sp_btw
  rw [e]
  unfold f_Mod_between
  repeat' split
  all_goals first
    | rfl
    | (simp only [Option.bind_some]; repeat' split)
  all_goals rfl
def sp_run : List Int32 → (Nat → Int32) → List Int32 → List Int32
  | [], _, st => st
  | c :: cs, w, st =>
    if c < 3000 then sp_run cs w ((if c < 1000 then c else w (c - 1000).toNatClampNeg) :: st)
    else if c = 3006 then (match st with
      | a :: r => sp_run cs w ((1 - a) :: r)
      | [] => [])
    else (match st with
      | b :: a :: r => sp_run cs w (sp_btw c a b :: r)
      | _ => [])
/-- a row holds a stack -/
def sp_st (row : Nat → Int32) : List Int32 → Prop
  | [] => True
  | x :: r => row r.length = x ∧ sp_st row r
theorem sp_st_up {row : Nat → Int32} {k : Nat} {v : Int32} : ∀ (r : List Int32), r.length ≤ k → sp_st row r → sp_st (va_up row k v) r
  | [], _, _ => trivial
  | x :: r, hk, h => ⟨by rw [up_n (by simp at hk; omega)]; exact h.1, sp_st_up r (by simp at hk; omega) h.2⟩
theorem nI_sub {a b : Nat} (h : b ≤ a) : nI a - nI b = nI (a - b) := by
  obtain ⟨c, rfl⟩ : ∃ c, a = b + c := ⟨a - b, by omega⟩
  rw [← nI_add b c, show b + c - b = c by omega]
  have : ∀ x y : Int32, x + y - x = y := fun x y => by rw [Int32.add_comm, Int32.add_sub_cancel]
  exact this _ _
theorem nI_m1 {a : Nat} (h : 1 ≤ a) : nI a + (-1 : Int32) = nI (a - 1) := by
  rw [← nI_sub h]
  show _ = nI a - 1
  rw [Int32.sub_eq_add_neg]
