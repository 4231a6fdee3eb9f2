/-! ===== the pure part: reading and writing rows by numbers ===== -/
theorem n_rd {α : Type} {f : Nat → α} {L i : Nat} (h : i < L) (hL : L < 2 ^ 31) : am_rd f L (nI i) = some (f i) := by
  unfold am_rd
  rw [if_neg (nI_in h hL), nI_clamp (by omega)]
theorem n_wr {h : am_H} {o L i : Nat} {x : Int32} (hi : i < L) (hL : L < 2 ^ 31) : am_wr h o L (nI i) x = some (am_sI h o i x) := by
  unfold am_wr
  rw [if_neg (nI_in hi hL), nI_clamp (by omega)]
theorem n_wrJ {h : am_H} {o L i : Nat} {x : Int64} (hi : i < L) (hL : L < 2 ^ 31) : am_wrJ h o L (nI i) x = some (am_sJ h o i x) := by
  unfold am_wrJ
  rw [if_neg (nI_in hi hL), nI_clamp (by omega)]
theorem n_el {a s L i : Nat} (hi : i < L) (hL : L < 2 ^ 31) : am_el a s L (nI i) = some (a + s * i) := by
  unfold am_el
  rw [if_neg (nI_in hi hL), nI_clamp (by omega)]
theorem n_cp {h : am_H} {o0 n0 o1 n1 n : Nat} (h0 : n ≤ n0) (h1 : n ≤ n1) (hn : n < 2 ^ 31) : am_cp h o0 n0 0 o1 n1 0 (nI n) = some (am_rI h o1 (fun k => if k < n then h.2.1 o0 k else h.2.1 o1 k)) := by
  have e0 : (0 : Int32).toNatClampNeg = 0 := rfl
  unfold am_cp
  rw [nI_clamp hn, e0, if_neg]
  · congr 2
    funext k
    simp [va_cpy]
  · rintro (c | c | c | c | c)
    · exact absurd c (by decide)
    · exact absurd c (by decide)
    · exact absurd c (nI_pos hn)
    · omega
    · omega
/-! rows of a changed heap -/
theorem rI_row {h : am_H} {o a : Nat} {f : Nat → Int32} : (am_rI h o f).2.1 a = if a = o then f else h.2.1 a := rfl
theorem rI_J {h : am_H} {o : Nat} {f : Nat → Int32} : (am_rI h o f).2.2 = h.2.2 := rfl
theorem sI_row {h : am_H} {o j a : Nat} {x : Int32} : (am_sI h o j x).2.1 a = if a = o then va_up (h.2.1 o) j x else h.2.1 a := rfl
theorem sI_J {h : am_H} {o j : Nat} {x : Int32} : (am_sI h o j x).2.2 = h.2.2 := rfl
theorem rI_rI {h : am_H} {o : Nat} {f g : Nat → Int32} : am_rI (am_rI h o f) o g = am_rI h o g := by
  unfold am_rI
  congr 2
  funext a
  by_cases c : a = o <;> simp [c]
theorem rI_self {h : am_H} {o : Nat} : am_rI h o (h.2.1 o) = h := by
  unfold am_rI
  have e : (fun a => if a = o then h.2.1 o else h.2.1 a) = h.2.1 := by
    funext a
    by_cases c : a = o <;> simp [c]
  rw [e]
theorem rI_eq {h : am_H} {o : Nat} {f g : Nat → Int32} (e : ∀ j, f j = g j) : am_rI h o f = am_rI h o g := by
  rw [show f = g from funext e]
theorem rI_sI {h : am_H} {o j : Nat} {f : Nat → Int32} {x : Int32} : am_sI (am_rI h o f) o j x = am_rI h o (va_up f j x) := by
  unfold am_sI
  rw [rI_rI, rI_row, if_pos rfl]
theorem up_s {α : Type} {f : Nat → α} {k : Nat} {x : α} : va_up f k x k = x := va_up_self f k x
theorem up_n {α : Type} {f : Nat → α} {k j : Nat} {x : α} (h : j ≠ k) : va_up f k x j = f j := va_up_ne f x h
/-- a counting loop over a state: i goes up to N, a step changes the state; what it answers at the end -/
theorem loop_to {σ : Type} (F : Nat → Int32 → σ → Option (Int32 × σ)) (N : Nat) (I : Nat → σ → Prop) (hend : ∀ n s, F (n + 1) (nI N) s = some (nI N, s))
    (hstep : ∀ n i s, i < N → I i s → ∃ s', F (n + 1) (nI i) s = F n (nI (i + 1)) s' ∧ I (i + 1) s') : ∀ (k i n : Nat) (s : σ), i + k = N → k < n → I i s → ∃ s', F n (nI i) s = some (nI N, s') ∧ I N s' := by
  intro k
  induction k with
  | zero =>
    intro i n s hi hn hI
    obtain ⟨m, rfl⟩ : ∃ m, n = m + 1 := ⟨n - 1, by omega⟩
    obtain rfl : i = N := by omega
    exact ⟨s, hend m s, hI⟩
  | succ k ih =>
    intro i n s hi hn hI
    obtain ⟨m, rfl⟩ : ∃ m, n = m + 1 := ⟨n - 1, by omega⟩
    obtain ⟨s', e, hI'⟩ := hstep m i s (by omega) hI
    rw [e]
    exact ih (i + 1) m s' (by omega) (by omega) hI'
theorem loop_0to {σ : Type} (F : Nat → Int32 → σ → Option (Int32 × σ)) (N : Nat) (hN : N < am_fu) (I : Nat → σ → Prop) (s : σ) (h0 : I 0 s) (hend : ∀ n s, F (n + 1) (nI N) s = some (nI N, s))
    (hstep : ∀ n i s, i < N → I i s → ∃ s', F (n + 1) (nI i) s = F n (nI (i + 1)) s' ∧ I (i + 1) s') : ∃ s', F am_fu 0 s = some (nI N, s') ∧ I N s' := loop_to F N I hend hstep N 0 am_fu s (by omega) hN h0
/-! the first plain state of the reference -/
def am_pl (f : Nat → Int32) (j : Nat) : Int32 := if j = 1 then 2 else if j = 2 then 1 else if 16 ≤ j ∧ j < 26 then -1 else if j < 1137 then 0 else f j
theorem n_plain {o L : Nat} {h : am_H} (hL : 1137 ≤ L) (hL2 : L < 2 ^ 31) : f_Mod_plain o L h = some (am_rI h o (am_pl (h.2.1 o))) := by
  have a1 : ∃ s', f_Mod_plain_L2 o L am_fu 0 h = some (nI 1137, s') ∧ s' = am_rI h o (fun j => if j < 1137 then 0 else h.2.1 o j) := by
    refine loop_0to (f_Mod_plain_L2 o L) 1137 (by decide) (fun i s => s = am_rI h o (fun j => if j < i then 0 else h.2.1 o j)) h ?_ (fun n s => ?_) (fun n i s hi hs => ?_)
    · exact (rI_self.symm).trans (rI_eq (fun j => by simp))
    · rw [f_Mod_plain_L2, if_pos (show (1137 : Int32) ≤ nI 1137 by decide)]
    · refine ⟨_, ?_, rfl⟩
      rw [f_Mod_plain_L2, if_neg (show ¬ (1137 : Int32) ≤ nI i from nI_ge (b := 1137) hi (by decide)), n_wr (by omega) hL2, Option.bind_some, hs, rI_sI, nI_1]
      congr 1
      refine rI_eq (fun j => ?_)
      by_cases c : j = i
      · subst c; rw [up_s, if_pos (by omega)]
      · rw [up_n c]
        by_cases c2 : j < i
        · rw [if_pos c2, if_pos (by omega)]
        · rw [if_neg c2, if_neg (by omega)]
  obtain ⟨s1, e1, rfl⟩ := a1
  unfold f_Mod_plain
  rw [e1, Option.bind_some]
  show (am_wr _ o L (nI 1) 2).bind _ = _
  rw [n_wr (by omega) hL2, Option.bind_some]
  show (am_wr _ o L (nI 2) 1).bind _ = _
  rw [n_wr (by omega) hL2, Option.bind_some, rI_sI, rI_sI]
  obtain ⟨s2, e2, hs2⟩ := loop_0to (f_Mod_plain_L29 o L) 5 (by decide) (fun i s => s = am_rI h o (fun j => if (16 ≤ j ∧ j < 16 + i) ∨ (21 ≤ j ∧ j < 21 + i) then -1 else va_up (va_up (fun j => if j < 1137 then (0 : Int32) else h.2.1 o j) 1 2) 2 1 j)) (am_rI h o (va_up (va_up (fun j => if j < 1137 then (0 : Int32) else h.2.1 o j) 1 2) 2 1))
    (rI_eq (fun j => by rw [if_neg (by omega)]))
    (fun n s => by rw [f_Mod_plain_L29, if_pos (show (5 : Int32) ≤ nI 5 by decide)])
    (fun n i s hi hs => by
      refine ⟨_, ?_, rfl⟩
      rw [f_Mod_plain_L29, if_neg (show ¬ (5 : Int32) ≤ nI i from nI_ge (b := 5) hi (by decide))]
      rw [show (16 : Int32) + nI i = nI (16 + i) from nI_add 16 i, show (21 : Int32) + nI i = nI (21 + i) from nI_add 21 i, n_wr (by omega) hL2, Option.bind_some, n_wr (by omega) hL2, Option.bind_some, hs, rI_sI, rI_sI, nI_1]
      congr 1
      refine rI_eq (fun j => ?_)
      by_cases c : j = 21 + i
      · subst c; rw [up_s, if_pos (by omega)]
      · rw [up_n c]
        by_cases c1 : j = 16 + i
        · subst c1; rw [up_s, if_pos (by omega)]
        · rw [up_n c1]
          by_cases c2 : (16 ≤ j ∧ j < 16 + i) ∨ (21 ≤ j ∧ j < 21 + i)
          · rw [if_pos c2, if_pos (by omega)]
          · rw [if_neg c2, if_neg (by omega)])
  rw [e2, Option.bind_some, hs2]
  congr 1
  refine rI_eq (fun j => ?_)
  unfold am_pl
  by_cases c1 : j = 1
  · subst c1; rw [if_neg (by omega), up_n (by omega), up_s, if_pos rfl]
  · by_cases c2 : j = 2
    · subst c2; rw [if_neg (by omega), up_s, if_neg (by omega), if_pos rfl]
    · rw [if_neg c1, if_neg c2]
      by_cases c3 : 16 ≤ j ∧ j < 26
      · rw [if_pos (by omega), if_pos c3]
      · rw [if_neg (by omega), if_neg c3, up_n c2, up_n c1]
theorem am_P1_ok : am_P1 := fun h _ => ⟨_, n_plain (by decide) (by decide)⟩
