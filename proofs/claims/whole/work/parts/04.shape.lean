def am_K0 : List am_K := [.inl 11, .inl 5, .inr (.int, 6), .inr (.int, 5), .inr (.int, 5), .inr (.int, 5), .inr (.int, 5), .inr (.int, 60), .inr (.int, 60), .inr (.int, 60), .inl 7, .inr (.int, 6), .inr (.int, 5), .inr (.int, 5), .inl 7, .inr (.int, 6), .inr (.int, 5), .inr (.int, 5), .inl 3, .inr (.object "MovedSpan$State", 10), .inl 7, .inr (.int, 6), .inr (.int, 5), .inr (.int, 5), .inl 7, .inr (.int, 6), .inr (.int, 5), .inr (.int, 5), .inl 7, .inr (.int, 6), .inr (.int, 5), .inr (.int, 5), .inl 7, .inr (.int, 6), .inr (.int, 5), .inr (.int, 5), .inl 7, .inr (.int, 6), .inr (.int, 5), .inr (.int, 5), .inl 7, .inr (.int, 6), .inr (.int, 5), .inr (.int, 5), .inl 7, .inr (.int, 6), .inr (.int, 5), .inr (.int, 5), .inl 7, .inr (.int, 6), .inr (.int, 5), .inr (.int, 5), .inl 7, .inr (.int, 6), .inr (.int, 5), .inr (.int, 5), .inl 7, .inr (.int, 6), .inr (.int, 5), .inr (.int, 5), .inr (.byte, 900), .inl 4, .inl 5, .inr (.int, 6), .inr (.int, 5), .inr (.int, 5), .inr (.int, 5), .inr (.int, 5), .inr (.int, 60), .inr (.int, 60), .inr (.int, 60), .inl 8, .inr (.int, 901), .inr (.int, 901), .inr (.int, 901), .inl 2, .inr (.int, 900), .inr (.int, 6), .inr (.int, 64), .inl 2, .inr (.int, 900), .inr (.int, 6), .inr (.int, 64), .inr (.object "MovedSpan$Tray", 4), .inr (.object "MovedSpan$River", 2), .inr (.object "MovedSpan$State", 2), .inl 0, .inr (.int, 61), .inr (.int, 60), .inr (.long, 9), .inr (.long, 9), .inl 10, .inr (.int, 6), .inr (.int, 6), .inr (.int, 5), .inr (.int, 35), .inl 6, .inr (.int, 12), .inr (.int, 6), .inl 1, .inr (.long, 9), .inr (.long, 9), .inl 9, .inr (.long, 40), .inl 9, .inr (.long, 40), .inl 9, .inr (.long, 40), .inl 9, .inr (.long, 40), .inl 5, .inr (.int, 6), .inr (.int, 5), .inr (.int, 5), .inr (.int, 5), .inr (.int, 5), .inr (.int, 60), .inr (.int, 60), .inr (.int, 60), .inl 7, .inr (.int, 6), .inr (.int, 5), .inr (.int, 5), .inl 5, .inr (.int, 6), .inr (.int, 5), .inr (.int, 5), .inr (.int, 5), .inr (.int, 5), .inr (.int, 60), .inr (.int, 60), .inr (.int, 60), .inl 7, .inr (.int, 6), .inr (.int, 5), .inr (.int, 5), .inl 12, .inr (.int, 3411), .inr (.boolean, 2), .inr (.int, 900), .inr (.int, 1137), .inr (.int, 900), .inr (.int, 6), .inr (.int, 19), .inr (.int, 12), .inr (.int, 12), .inr (.int, 12), .inr (.int, 61), .inr (.int, 60), .inr (.long, 9), .inr (.long, 9), .inr (.int, 6), .inr (.int, 6), .inr (.int, 60), .inr (.int, 60), .inr (.int, 60), .inr (.long, 9), .inr (.long, 9), .inr (.int, 4), .inr (.int, 4), .inr (.long, 160)]
def am_RL0 : List (Nat × Nat × Nat) := [(0, 0, 1), (0, 1, 10), (0, 2, 14), (0, 3, 18), (0, 4, 60), (0, 5, 61), (0, 6, 83), (0, 7, 84), (0, 8, 85), (0, 9, 86), (0, 10, 91), (0, 11, 96), (0, 12, 99), (1, 6, 2), (1, 7, 3), (1, 8, 4), (1, 9, 5), (1, 10, 6), (1, 11, 7), (1, 12, 8), (1, 13, 9), (10, 3, 11), (10, 4, 12), (10, 5, 13), (14, 3, 15), (14, 4, 16), (14, 5, 17), (18, 0, 19), (19, 0, 20), (19, 1, 24), (19, 2, 28), (19, 3, 32), (19, 4, 36), (19, 5, 40), (19, 6, 44), (19, 7, 48), (19, 8, 52), (19, 9, 56), (20, 3, 21), (20, 4, 22), (20, 5, 23), (24, 3, 25), (24, 4, 26), (24, 5, 27), (28, 3, 29), (28, 4, 30), (28, 5, 31), (32, 3, 33), (32, 4, 34), (32, 5, 35), (36, 3, 37), (36, 4, 38), (36, 5, 39), (40, 3, 41), (40, 4, 42), (40, 5, 43), (44, 3, 45), (44, 4, 46), (44, 5, 47), (48, 3, 49), (48, 4, 50), (48, 5, 51), (52, 3, 53), (52, 4, 54), (52, 5, 55), (56, 3, 57), (56, 4, 58), (56, 5, 59), (61, 0, 62), (61, 4, 71), (61, 5, 75), (61, 6, 79), (62, 6, 63), (62, 7, 64), (62, 8, 65), (62, 9, 66), (62, 10, 67), (62, 11, 68), (62, 12, 69), (62, 13, 70), (71, 1, 72), (71, 2, 73), (71, 3, 74), (75, 2, 76), (75, 3, 77), (75, 4, 78), (79, 2, 80), (79, 3, 81), (79, 4, 82), (83, 0, 102), (83, 1, 104), (83, 2, 106), (83, 3, 108), (84, 0, 110), (84, 1, 123), (85, 0, 119), (85, 1, 132), (86, 0, 1), (86, 1, 10), (86, 2, 87), (86, 3, 88), (91, 0, 1), (91, 1, 10), (91, 2, 86), (91, 3, 92), (91, 4, 93), (91, 10, 94), (91, 14, 95), (96, 0, 1), (96, 1, 10), (96, 2, 97), (96, 3, 98), (99, 0, 1), (99, 1, 10), (102, 3, 103), (104, 3, 105), (106, 3, 107), (108, 3, 109), (110, 6, 111), (110, 7, 112), (110, 8, 113), (110, 9, 114), (110, 10, 115), (110, 11, 116), (110, 12, 117), (110, 13, 118), (119, 3, 120), (119, 4, 121), (119, 5, 122), (123, 6, 124), (123, 7, 125), (123, 8, 126), (123, 9, 127), (123, 10, 128), (123, 11, 129), (123, 12, 130), (123, 13, 131), (132, 3, 133), (132, 4, 134), (132, 5, 135), (136, 1, 137), (136, 2, 138), (136, 3, 139), (136, 4, 140), (136, 16, 141), (136, 17, 142), (136, 18, 143), (136, 21, 144), (136, 22, 145), (136, 23, 146), (136, 24, 147), (136, 25, 148), (136, 26, 149), (136, 27, 150), (136, 28, 151), (136, 29, 152), (136, 30, 153), (136, 31, 154), (136, 32, 155), (136, 36, 156), (136, 37, 157), (136, 38, 158), (136, 39, 159), (136, 40, 160)]
def am_R0 (o j : Nat) : Option Nat := (am_RL0.find? (fun q => Nat.beq q.1 o && Nat.beq q.2.1 j)).map (·.2.2)
def am_stL : List Nat := [10, 14, 20, 24, 28, 32, 36, 40, 44, 48, 52, 56, 119, 132]
def am_rvL : List Nat := [1, 62, 110, 123]
def am_trL : List Nat := [102, 104, 106, 108]
def am_lwL : List Nat := [75, 79]
def am_rf (h : am_H) (o j : Nat) : Nat := (h.2.2.2 o j).getD 0
def am_Sh (h : am_H) : Prop := h.1 = am_K0 ∧ (∀ o j q, am_R0 o j = some q → h.2.2.2 o j = some q) ∧ (∃ q ∈ am_lwL, h.2.2.2 61 7 = some q) ∧ (∃ q ∈ [89, 90], h.2.2.2 86 4 = some q) ∧ (∃ q ∈ [89, 90], h.2.2.2 86 5 = some q) ∧ (∃ q ∈ [100, 101], h.2.2.2 99 2 = some q) ∧ (∃ q ∈ [100, 101], h.2.2.2 99 3 = some q) ∧ h.2.1 75 5 = 1 ∧ h.2.1 79 5 = 0
theorem am_Sh.k {h : am_H} (hs : am_Sh h) {o : Nat} {kd : am_K} (e : am_K0[o]? = some kd) : h.1[o]? = some kd := by rw [hs.1]; exact e
theorem am_Sh.r {h : am_H} (hs : am_Sh h) {o j q : Nat} (e : am_R0 o j = some q) : h.2.2.2 o j = some q := hs.2.1 o j q e
theorem am_Sh.rIo {h : am_H} (hs : am_Sh h) {o : Nat} {f : Nat → Int32} (h1 : o ≠ 75) (h2 : o ≠ 79) : am_Sh (am_rI h o f) :=
  ⟨hs.1, hs.2.1, hs.2.2.1, hs.2.2.2.1, hs.2.2.2.2.1, hs.2.2.2.2.2.1, hs.2.2.2.2.2.2.1, (congrFun (if_neg h1.symm : (if 75 = o then f else h.2.1 75) = h.2.1 75) 5).trans hs.2.2.2.2.2.2.2.1, (congrFun (if_neg h2.symm : (if 79 = o then f else h.2.1 79) = h.2.1 79) 5).trans hs.2.2.2.2.2.2.2.2⟩
theorem am_Sh.na {h : am_H} (hs : am_Sh h) {o L : Nat} {ty : FieldType} (ho : h.1[o]? = some (.inr (ty, L))) : o ≠ 75 ∧ o ≠ 79 := by
  rw [hs.1] at ho
  constructor
  · intro e
    rw [e, show am_K0[75]? = some (.inl 2) from rfl] at ho
    cases ho
  · intro e
    rw [e, show am_K0[79]? = some (.inl 2) from rfl] at ho
    cases ho
theorem am_Sh.rI {h : am_H} (hs : am_Sh h) {o L : Nat} {ty : FieldType} {f : Nat → Int32} (ho : h.1[o]? = some (.inr (ty, L))) : am_Sh (am_rI h o f) := hs.rIo (hs.na ho).1 (hs.na ho).2
theorem am_Sh.sI {h : am_H} (hs : am_Sh h) {o j L : Nat} {ty : FieldType} {x : Int32} (ho : h.1[o]? = some (.inr (ty, L))) : am_Sh (am_sI h o j x) := hs.rI ho
theorem am_Sh.sF {h : am_H} (hs : am_Sh h) {o c j : Nat} {x : Int32} (ho : h.1[o]? = some (.inl c)) (hfin : ((am_C c).2.1 j).2.2.2 = false) : am_Sh (am_sI h o j x) := by
  rw [hs.1] at ho
  have hj : (o = 75 ∨ o = 79) → j ≠ 5 := by
    intro e ej
    have hc : am_K0[o]? = some (.inl 2) := by rcases e with e | e <;> (rw [e]; rfl)
    rw [hc] at ho
    cases ho
    rw [ej] at hfin
    cases hfin
  refine ⟨hs.1, hs.2.1, hs.2.2.1, hs.2.2.2.1, hs.2.2.2.2.1, hs.2.2.2.2.2.1, hs.2.2.2.2.2.2.1, ?_, ?_⟩
  · by_cases e : 75 = o
    · subst e
      show (if 75 = 75 then va_up (h.2.1 75) j x else h.2.1 75) 5 = 1
      rw [if_pos rfl, va_up_ne _ _ (fun q => hj (Or.inl rfl) q.symm)]
      exact hs.2.2.2.2.2.2.2.1
    · show (if 75 = o then va_up (h.2.1 o) j x else h.2.1 75) 5 = 1
      rw [if_neg e]
      exact hs.2.2.2.2.2.2.2.1
  · by_cases e : 79 = o
    · subst e
      show (if 79 = 79 then va_up (h.2.1 79) j x else h.2.1 79) 5 = 0
      rw [if_pos rfl, va_up_ne _ _ (fun q => hj (Or.inr rfl) q.symm)]
      exact hs.2.2.2.2.2.2.2.2
    · show (if 79 = o then va_up (h.2.1 o) j x else h.2.1 79) 5 = 0
      rw [if_neg e]
      exact hs.2.2.2.2.2.2.2.2
theorem am_Sh.ks {h : am_H} (hs : am_Sh h) {o : Nat} (ho : o ∈ am_lwL) : h.2.1 o 5 = (if decide (o = 75) = true then 1 else 0) := by
  have e : o = 75 ∨ o = 79 := by simpa [am_lwL] using ho
  rcases e with rfl | rfl
  · exact hs.2.2.2.2.2.2.2.1
  · exact hs.2.2.2.2.2.2.2.2
theorem am_Sh.sJ {h : am_H} (hs : am_Sh h) {o j : Nat} {x : Int64} : am_Sh (am_sJ h o j x) := hs
theorem am_rf_of {h : am_H} {o j q : Nat} (e : h.2.2.2 o j = some q) : h.2.2.2 o j = some (am_rf h o j) := by unfold am_rf; rw [e]; rfl
theorem am_rf_eq {h : am_H} {o j q : Nat} (e : h.2.2.2 o j = some q) : am_rf h o j = q := by unfold am_rf; rw [e]; rfl
theorem am_Sh.law {h : am_H} (hs : am_Sh h) : h.2.2.2 61 7 = some (am_rf h 61 7) ∧ am_rf h 61 7 ∈ (am_lwL : List Nat) := by
  obtain ⟨q, hq, e⟩ := hs.2.2.1
  exact ⟨am_rf_of e, by rw [am_rf_eq e]; exact hq⟩
theorem am_Sh.cnt {h : am_H} (hs : am_Sh h) : h.2.2.2 86 4 = some (am_rf h 86 4) ∧ am_rf h 86 4 ∈ ([89, 90] : List Nat) := by
  obtain ⟨q, hq, e⟩ := hs.2.2.2.1
  exact ⟨am_rf_of e, by rw [am_rf_eq e]; exact hq⟩
theorem am_Sh.lat {h : am_H} (hs : am_Sh h) : h.2.2.2 86 5 = some (am_rf h 86 5) ∧ am_rf h 86 5 ∈ ([89, 90] : List Nat) := by
  obtain ⟨q, hq, e⟩ := hs.2.2.2.2.1
  exact ⟨am_rf_of e, by rw [am_rf_eq e]; exact hq⟩
theorem am_Sh.now {h : am_H} (hs : am_Sh h) : h.2.2.2 99 2 = some (am_rf h 99 2) ∧ am_rf h 99 2 ∈ ([100, 101] : List Nat) := by
  obtain ⟨q, hq, e⟩ := hs.2.2.2.2.2.1
  exact ⟨am_rf_of e, by rw [am_rf_eq e]; exact hq⟩
theorem am_Sh.ltr {h : am_H} (hs : am_Sh h) : h.2.2.2 99 3 = some (am_rf h 99 3) ∧ am_rf h 99 3 ∈ ([100, 101] : List Nat) := by
  obtain ⟨q, hq, e⟩ := hs.2.2.2.2.2.2.1
  exact ⟨am_rf_of e, by rw [am_rf_eq e]; exact hq⟩
theorem am_Sh.p_law {h : am_H} (hs : am_Sh h) {q : Nat} (hq : q ∈ (am_lwL : List Nat)) : am_Sh (am_sR h 61 7 (some q)) := by
  refine ⟨hs.1, fun a b c e => ?_, ⟨q, hq, by simp [am_sR, am_rR, va_up]⟩, (by obtain ⟨z, hz, e⟩ := hs.2.2.2.1; exact ⟨z, hz, by simp [am_sR, am_rR, va_up, e]⟩), (by obtain ⟨z, hz, e⟩ := hs.2.2.2.2.1; exact ⟨z, hz, by simp [am_sR, am_rR, va_up, e]⟩), (by obtain ⟨z, hz, e⟩ := hs.2.2.2.2.2.1; exact ⟨z, hz, by simp [am_sR, am_rR, va_up, e]⟩), (by obtain ⟨z, hz, e⟩ := hs.2.2.2.2.2.2.1; exact ⟨z, hz, by simp [am_sR, am_rR, va_up, e]⟩), hs.2.2.2.2.2.2.2⟩
  have h1 := hs.2.1 a b c e
  by_cases ea : a = 61
  · by_cases eb : b = 7
    · subst ea; subst eb; rw [show am_R0 61 7 = none from by decide +kernel] at e; cases e
    · subst ea; simp [am_sR, am_rR, va_up, eb, h1]
  · simp [am_sR, am_rR, ea, h1]
theorem am_Sh.p_cnt {h : am_H} (hs : am_Sh h) {q : Nat} (hq : q ∈ ([89, 90] : List Nat)) : am_Sh (am_sR h 86 4 (some q)) := by
  refine ⟨hs.1, fun a b c e => ?_, (by obtain ⟨z, hz, e⟩ := hs.2.2.1; exact ⟨z, hz, by simp [am_sR, am_rR, va_up, e]⟩), ⟨q, hq, by simp [am_sR, am_rR, va_up]⟩, (by obtain ⟨z, hz, e⟩ := hs.2.2.2.2.1; exact ⟨z, hz, by simp [am_sR, am_rR, va_up, e]⟩), (by obtain ⟨z, hz, e⟩ := hs.2.2.2.2.2.1; exact ⟨z, hz, by simp [am_sR, am_rR, va_up, e]⟩), (by obtain ⟨z, hz, e⟩ := hs.2.2.2.2.2.2.1; exact ⟨z, hz, by simp [am_sR, am_rR, va_up, e]⟩), hs.2.2.2.2.2.2.2⟩
  have h1 := hs.2.1 a b c e
  by_cases ea : a = 86
  · by_cases eb : b = 4
    · subst ea; subst eb; rw [show am_R0 86 4 = none from by decide +kernel] at e; cases e
    · subst ea; simp [am_sR, am_rR, va_up, eb, h1]
  · simp [am_sR, am_rR, ea, h1]
theorem am_Sh.p_lat {h : am_H} (hs : am_Sh h) {q : Nat} (hq : q ∈ ([89, 90] : List Nat)) : am_Sh (am_sR h 86 5 (some q)) := by
  refine ⟨hs.1, fun a b c e => ?_, (by obtain ⟨z, hz, e⟩ := hs.2.2.1; exact ⟨z, hz, by simp [am_sR, am_rR, va_up, e]⟩), (by obtain ⟨z, hz, e⟩ := hs.2.2.2.1; exact ⟨z, hz, by simp [am_sR, am_rR, va_up, e]⟩), ⟨q, hq, by simp [am_sR, am_rR, va_up]⟩, (by obtain ⟨z, hz, e⟩ := hs.2.2.2.2.2.1; exact ⟨z, hz, by simp [am_sR, am_rR, va_up, e]⟩), (by obtain ⟨z, hz, e⟩ := hs.2.2.2.2.2.2.1; exact ⟨z, hz, by simp [am_sR, am_rR, va_up, e]⟩), hs.2.2.2.2.2.2.2⟩
  have h1 := hs.2.1 a b c e
  by_cases ea : a = 86
  · by_cases eb : b = 5
    · subst ea; subst eb; rw [show am_R0 86 5 = none from by decide +kernel] at e; cases e
    · subst ea; simp [am_sR, am_rR, va_up, eb, h1]
  · simp [am_sR, am_rR, ea, h1]
theorem am_Sh.p_now {h : am_H} (hs : am_Sh h) {q : Nat} (hq : q ∈ ([100, 101] : List Nat)) : am_Sh (am_sR h 99 2 (some q)) := by
  refine ⟨hs.1, fun a b c e => ?_, (by obtain ⟨z, hz, e⟩ := hs.2.2.1; exact ⟨z, hz, by simp [am_sR, am_rR, va_up, e]⟩), (by obtain ⟨z, hz, e⟩ := hs.2.2.2.1; exact ⟨z, hz, by simp [am_sR, am_rR, va_up, e]⟩), (by obtain ⟨z, hz, e⟩ := hs.2.2.2.2.1; exact ⟨z, hz, by simp [am_sR, am_rR, va_up, e]⟩), ⟨q, hq, by simp [am_sR, am_rR, va_up]⟩, (by obtain ⟨z, hz, e⟩ := hs.2.2.2.2.2.2.1; exact ⟨z, hz, by simp [am_sR, am_rR, va_up, e]⟩), hs.2.2.2.2.2.2.2⟩
  have h1 := hs.2.1 a b c e
  by_cases ea : a = 99
  · by_cases eb : b = 2
    · subst ea; subst eb; rw [show am_R0 99 2 = none from by decide +kernel] at e; cases e
    · subst ea; simp [am_sR, am_rR, va_up, eb, h1]
  · simp [am_sR, am_rR, ea, h1]
theorem am_Sh.p_ltr {h : am_H} (hs : am_Sh h) {q : Nat} (hq : q ∈ ([100, 101] : List Nat)) : am_Sh (am_sR h 99 3 (some q)) := by
  refine ⟨hs.1, fun a b c e => ?_, (by obtain ⟨z, hz, e⟩ := hs.2.2.1; exact ⟨z, hz, by simp [am_sR, am_rR, va_up, e]⟩), (by obtain ⟨z, hz, e⟩ := hs.2.2.2.1; exact ⟨z, hz, by simp [am_sR, am_rR, va_up, e]⟩), (by obtain ⟨z, hz, e⟩ := hs.2.2.2.2.1; exact ⟨z, hz, by simp [am_sR, am_rR, va_up, e]⟩), (by obtain ⟨z, hz, e⟩ := hs.2.2.2.2.2.1; exact ⟨z, hz, by simp [am_sR, am_rR, va_up, e]⟩), ⟨q, hq, by simp [am_sR, am_rR, va_up]⟩, hs.2.2.2.2.2.2.2⟩
  have h1 := hs.2.1 a b c e
  by_cases ea : a = 99
  · by_cases eb : b = 3
    · subst ea; subst eb; rw [show am_R0 99 3 = none from by decide +kernel] at e; cases e
    · subst ea; simp [am_sR, am_rR, va_up, eb, h1]
  · simp [am_sR, am_rR, ea, h1]
theorem k_0 : am_K0[0]? = some (.inl 11) := rfl
theorem k_1 : am_K0[1]? = some (.inl 5) := rfl
theorem k_2 : am_K0[2]? = some (.inr (.int, 6)) := rfl
theorem k_3 : am_K0[3]? = some (.inr (.int, 5)) := rfl
theorem k_4 : am_K0[4]? = some (.inr (.int, 5)) := rfl
theorem k_5 : am_K0[5]? = some (.inr (.int, 5)) := rfl
theorem k_6 : am_K0[6]? = some (.inr (.int, 5)) := rfl
theorem k_7 : am_K0[7]? = some (.inr (.int, 60)) := rfl
theorem k_8 : am_K0[8]? = some (.inr (.int, 60)) := rfl
theorem k_9 : am_K0[9]? = some (.inr (.int, 60)) := rfl
theorem k_10 : am_K0[10]? = some (.inl 7) := rfl
theorem k_11 : am_K0[11]? = some (.inr (.int, 6)) := rfl
theorem k_12 : am_K0[12]? = some (.inr (.int, 5)) := rfl
theorem k_13 : am_K0[13]? = some (.inr (.int, 5)) := rfl
theorem k_14 : am_K0[14]? = some (.inl 7) := rfl
theorem k_15 : am_K0[15]? = some (.inr (.int, 6)) := rfl
theorem k_16 : am_K0[16]? = some (.inr (.int, 5)) := rfl
theorem k_17 : am_K0[17]? = some (.inr (.int, 5)) := rfl
theorem k_18 : am_K0[18]? = some (.inl 3) := rfl
theorem k_19 : am_K0[19]? = some (.inr (.object "MovedSpan$State", 10)) := rfl
theorem k_20 : am_K0[20]? = some (.inl 7) := rfl
theorem k_21 : am_K0[21]? = some (.inr (.int, 6)) := rfl
theorem k_22 : am_K0[22]? = some (.inr (.int, 5)) := rfl
theorem k_23 : am_K0[23]? = some (.inr (.int, 5)) := rfl
theorem k_24 : am_K0[24]? = some (.inl 7) := rfl
theorem k_25 : am_K0[25]? = some (.inr (.int, 6)) := rfl
theorem k_26 : am_K0[26]? = some (.inr (.int, 5)) := rfl
theorem k_27 : am_K0[27]? = some (.inr (.int, 5)) := rfl
theorem k_28 : am_K0[28]? = some (.inl 7) := rfl
theorem k_29 : am_K0[29]? = some (.inr (.int, 6)) := rfl
theorem k_30 : am_K0[30]? = some (.inr (.int, 5)) := rfl
theorem k_31 : am_K0[31]? = some (.inr (.int, 5)) := rfl
theorem k_32 : am_K0[32]? = some (.inl 7) := rfl
theorem k_33 : am_K0[33]? = some (.inr (.int, 6)) := rfl
theorem k_34 : am_K0[34]? = some (.inr (.int, 5)) := rfl
theorem k_35 : am_K0[35]? = some (.inr (.int, 5)) := rfl
theorem k_36 : am_K0[36]? = some (.inl 7) := rfl
theorem k_37 : am_K0[37]? = some (.inr (.int, 6)) := rfl
theorem k_38 : am_K0[38]? = some (.inr (.int, 5)) := rfl
theorem k_39 : am_K0[39]? = some (.inr (.int, 5)) := rfl
theorem k_40 : am_K0[40]? = some (.inl 7) := rfl
theorem k_41 : am_K0[41]? = some (.inr (.int, 6)) := rfl
theorem k_42 : am_K0[42]? = some (.inr (.int, 5)) := rfl
theorem k_43 : am_K0[43]? = some (.inr (.int, 5)) := rfl
theorem k_44 : am_K0[44]? = some (.inl 7) := rfl
theorem k_45 : am_K0[45]? = some (.inr (.int, 6)) := rfl
theorem k_46 : am_K0[46]? = some (.inr (.int, 5)) := rfl
theorem k_47 : am_K0[47]? = some (.inr (.int, 5)) := rfl
theorem k_48 : am_K0[48]? = some (.inl 7) := rfl
theorem k_49 : am_K0[49]? = some (.inr (.int, 6)) := rfl
theorem k_50 : am_K0[50]? = some (.inr (.int, 5)) := rfl
theorem k_51 : am_K0[51]? = some (.inr (.int, 5)) := rfl
theorem k_52 : am_K0[52]? = some (.inl 7) := rfl
theorem k_53 : am_K0[53]? = some (.inr (.int, 6)) := rfl
theorem k_54 : am_K0[54]? = some (.inr (.int, 5)) := rfl
theorem k_55 : am_K0[55]? = some (.inr (.int, 5)) := rfl
theorem k_56 : am_K0[56]? = some (.inl 7) := rfl
theorem k_57 : am_K0[57]? = some (.inr (.int, 6)) := rfl
theorem k_58 : am_K0[58]? = some (.inr (.int, 5)) := rfl
theorem k_59 : am_K0[59]? = some (.inr (.int, 5)) := rfl
theorem k_60 : am_K0[60]? = some (.inr (.byte, 900)) := rfl
theorem k_61 : am_K0[61]? = some (.inl 4) := rfl
theorem k_62 : am_K0[62]? = some (.inl 5) := rfl
theorem k_63 : am_K0[63]? = some (.inr (.int, 6)) := rfl
theorem k_64 : am_K0[64]? = some (.inr (.int, 5)) := rfl
theorem k_65 : am_K0[65]? = some (.inr (.int, 5)) := rfl
theorem k_66 : am_K0[66]? = some (.inr (.int, 5)) := rfl
theorem k_67 : am_K0[67]? = some (.inr (.int, 5)) := rfl
theorem k_68 : am_K0[68]? = some (.inr (.int, 60)) := rfl
theorem k_69 : am_K0[69]? = some (.inr (.int, 60)) := rfl
theorem k_70 : am_K0[70]? = some (.inr (.int, 60)) := rfl
theorem k_71 : am_K0[71]? = some (.inl 8) := rfl
theorem k_72 : am_K0[72]? = some (.inr (.int, 901)) := rfl
theorem k_73 : am_K0[73]? = some (.inr (.int, 901)) := rfl
theorem k_74 : am_K0[74]? = some (.inr (.int, 901)) := rfl
theorem k_75 : am_K0[75]? = some (.inl 2) := rfl
theorem k_76 : am_K0[76]? = some (.inr (.int, 900)) := rfl
theorem k_77 : am_K0[77]? = some (.inr (.int, 6)) := rfl
theorem k_78 : am_K0[78]? = some (.inr (.int, 64)) := rfl
theorem k_79 : am_K0[79]? = some (.inl 2) := rfl
theorem k_80 : am_K0[80]? = some (.inr (.int, 900)) := rfl
theorem k_81 : am_K0[81]? = some (.inr (.int, 6)) := rfl
theorem k_82 : am_K0[82]? = some (.inr (.int, 64)) := rfl
theorem k_83 : am_K0[83]? = some (.inr (.object "MovedSpan$Tray", 4)) := rfl
theorem k_84 : am_K0[84]? = some (.inr (.object "MovedSpan$River", 2)) := rfl
theorem k_85 : am_K0[85]? = some (.inr (.object "MovedSpan$State", 2)) := rfl
theorem k_86 : am_K0[86]? = some (.inl 0) := rfl
theorem k_87 : am_K0[87]? = some (.inr (.int, 61)) := rfl
theorem k_88 : am_K0[88]? = some (.inr (.int, 60)) := rfl
theorem k_89 : am_K0[89]? = some (.inr (.long, 9)) := rfl
theorem k_90 : am_K0[90]? = some (.inr (.long, 9)) := rfl
theorem k_91 : am_K0[91]? = some (.inl 10) := rfl
theorem k_92 : am_K0[92]? = some (.inr (.int, 6)) := rfl
theorem k_93 : am_K0[93]? = some (.inr (.int, 6)) := rfl
theorem k_94 : am_K0[94]? = some (.inr (.int, 5)) := rfl
theorem k_95 : am_K0[95]? = some (.inr (.int, 35)) := rfl
theorem k_96 : am_K0[96]? = some (.inl 6) := rfl
theorem k_97 : am_K0[97]? = some (.inr (.int, 12)) := rfl
theorem k_98 : am_K0[98]? = some (.inr (.int, 6)) := rfl
theorem k_99 : am_K0[99]? = some (.inl 1) := rfl
theorem k_100 : am_K0[100]? = some (.inr (.long, 9)) := rfl
theorem k_101 : am_K0[101]? = some (.inr (.long, 9)) := rfl
theorem k_102 : am_K0[102]? = some (.inl 9) := rfl
theorem k_103 : am_K0[103]? = some (.inr (.long, 40)) := rfl
theorem k_104 : am_K0[104]? = some (.inl 9) := rfl
theorem k_105 : am_K0[105]? = some (.inr (.long, 40)) := rfl
theorem k_106 : am_K0[106]? = some (.inl 9) := rfl
theorem k_107 : am_K0[107]? = some (.inr (.long, 40)) := rfl
theorem k_108 : am_K0[108]? = some (.inl 9) := rfl
theorem k_109 : am_K0[109]? = some (.inr (.long, 40)) := rfl
theorem k_110 : am_K0[110]? = some (.inl 5) := rfl
theorem k_111 : am_K0[111]? = some (.inr (.int, 6)) := rfl
theorem k_112 : am_K0[112]? = some (.inr (.int, 5)) := rfl
theorem k_113 : am_K0[113]? = some (.inr (.int, 5)) := rfl
theorem k_114 : am_K0[114]? = some (.inr (.int, 5)) := rfl
theorem k_115 : am_K0[115]? = some (.inr (.int, 5)) := rfl
theorem k_116 : am_K0[116]? = some (.inr (.int, 60)) := rfl
theorem k_117 : am_K0[117]? = some (.inr (.int, 60)) := rfl
theorem k_118 : am_K0[118]? = some (.inr (.int, 60)) := rfl
theorem k_119 : am_K0[119]? = some (.inl 7) := rfl
theorem k_120 : am_K0[120]? = some (.inr (.int, 6)) := rfl
theorem k_121 : am_K0[121]? = some (.inr (.int, 5)) := rfl
theorem k_122 : am_K0[122]? = some (.inr (.int, 5)) := rfl
theorem k_123 : am_K0[123]? = some (.inl 5) := rfl
theorem k_124 : am_K0[124]? = some (.inr (.int, 6)) := rfl
theorem k_125 : am_K0[125]? = some (.inr (.int, 5)) := rfl
theorem k_126 : am_K0[126]? = some (.inr (.int, 5)) := rfl
theorem k_127 : am_K0[127]? = some (.inr (.int, 5)) := rfl
theorem k_128 : am_K0[128]? = some (.inr (.int, 5)) := rfl
theorem k_129 : am_K0[129]? = some (.inr (.int, 60)) := rfl
theorem k_130 : am_K0[130]? = some (.inr (.int, 60)) := rfl
theorem k_131 : am_K0[131]? = some (.inr (.int, 60)) := rfl
theorem k_132 : am_K0[132]? = some (.inl 7) := rfl
theorem k_133 : am_K0[133]? = some (.inr (.int, 6)) := rfl
theorem k_134 : am_K0[134]? = some (.inr (.int, 5)) := rfl
theorem k_135 : am_K0[135]? = some (.inr (.int, 5)) := rfl
theorem k_136 : am_K0[136]? = some (.inl 12) := rfl
theorem k_137 : am_K0[137]? = some (.inr (.int, 3411)) := rfl
theorem k_138 : am_K0[138]? = some (.inr (.boolean, 2)) := rfl
theorem k_139 : am_K0[139]? = some (.inr (.int, 900)) := rfl
theorem k_140 : am_K0[140]? = some (.inr (.int, 1137)) := rfl
theorem k_141 : am_K0[141]? = some (.inr (.int, 900)) := rfl
theorem k_142 : am_K0[142]? = some (.inr (.int, 6)) := rfl
theorem k_143 : am_K0[143]? = some (.inr (.int, 19)) := rfl
theorem k_144 : am_K0[144]? = some (.inr (.int, 12)) := rfl
theorem k_145 : am_K0[145]? = some (.inr (.int, 12)) := rfl
theorem k_146 : am_K0[146]? = some (.inr (.int, 12)) := rfl
theorem k_147 : am_K0[147]? = some (.inr (.int, 61)) := rfl
theorem k_148 : am_K0[148]? = some (.inr (.int, 60)) := rfl
theorem k_149 : am_K0[149]? = some (.inr (.long, 9)) := rfl
theorem k_150 : am_K0[150]? = some (.inr (.long, 9)) := rfl
theorem k_151 : am_K0[151]? = some (.inr (.int, 6)) := rfl
theorem k_152 : am_K0[152]? = some (.inr (.int, 6)) := rfl
theorem k_153 : am_K0[153]? = some (.inr (.int, 60)) := rfl
theorem k_154 : am_K0[154]? = some (.inr (.int, 60)) := rfl
theorem k_155 : am_K0[155]? = some (.inr (.int, 60)) := rfl
theorem k_156 : am_K0[156]? = some (.inr (.long, 9)) := rfl
theorem k_157 : am_K0[157]? = some (.inr (.long, 9)) := rfl
theorem k_158 : am_K0[158]? = some (.inr (.int, 4)) := rfl
theorem k_159 : am_K0[159]? = some (.inr (.int, 4)) := rfl
theorem k_160 : am_K0[160]? = some (.inr (.long, 160)) := rfl
theorem r_0_0 : am_R0 0 0 = some 1 := by decide +kernel
theorem r_0_1 : am_R0 0 1 = some 10 := by decide +kernel
theorem r_0_2 : am_R0 0 2 = some 14 := by decide +kernel
theorem r_0_3 : am_R0 0 3 = some 18 := by decide +kernel
theorem r_0_4 : am_R0 0 4 = some 60 := by decide +kernel
theorem r_0_5 : am_R0 0 5 = some 61 := by decide +kernel
theorem r_0_6 : am_R0 0 6 = some 83 := by decide +kernel
theorem r_0_7 : am_R0 0 7 = some 84 := by decide +kernel
theorem r_0_8 : am_R0 0 8 = some 85 := by decide +kernel
theorem r_0_9 : am_R0 0 9 = some 86 := by decide +kernel
theorem r_0_10 : am_R0 0 10 = some 91 := by decide +kernel
theorem r_0_11 : am_R0 0 11 = some 96 := by decide +kernel
theorem r_0_12 : am_R0 0 12 = some 99 := by decide +kernel
theorem r_1_6 : am_R0 1 6 = some 2 := by decide +kernel
theorem r_1_7 : am_R0 1 7 = some 3 := by decide +kernel
theorem r_1_8 : am_R0 1 8 = some 4 := by decide +kernel
theorem r_1_9 : am_R0 1 9 = some 5 := by decide +kernel
theorem r_1_10 : am_R0 1 10 = some 6 := by decide +kernel
theorem r_1_11 : am_R0 1 11 = some 7 := by decide +kernel
theorem r_1_12 : am_R0 1 12 = some 8 := by decide +kernel
theorem r_1_13 : am_R0 1 13 = some 9 := by decide +kernel
theorem r_10_3 : am_R0 10 3 = some 11 := by decide +kernel
theorem r_10_4 : am_R0 10 4 = some 12 := by decide +kernel
theorem r_10_5 : am_R0 10 5 = some 13 := by decide +kernel
theorem r_14_3 : am_R0 14 3 = some 15 := by decide +kernel
theorem r_14_4 : am_R0 14 4 = some 16 := by decide +kernel
theorem r_14_5 : am_R0 14 5 = some 17 := by decide +kernel
theorem r_18_0 : am_R0 18 0 = some 19 := by decide +kernel
theorem r_19_0 : am_R0 19 0 = some 20 := by decide +kernel
theorem r_19_1 : am_R0 19 1 = some 24 := by decide +kernel
theorem r_19_2 : am_R0 19 2 = some 28 := by decide +kernel
theorem r_19_3 : am_R0 19 3 = some 32 := by decide +kernel
theorem r_19_4 : am_R0 19 4 = some 36 := by decide +kernel
theorem r_19_5 : am_R0 19 5 = some 40 := by decide +kernel
theorem r_19_6 : am_R0 19 6 = some 44 := by decide +kernel
theorem r_19_7 : am_R0 19 7 = some 48 := by decide +kernel
theorem r_19_8 : am_R0 19 8 = some 52 := by decide +kernel
theorem r_19_9 : am_R0 19 9 = some 56 := by decide +kernel
theorem r_20_3 : am_R0 20 3 = some 21 := by decide +kernel
theorem r_20_4 : am_R0 20 4 = some 22 := by decide +kernel
theorem r_20_5 : am_R0 20 5 = some 23 := by decide +kernel
theorem r_24_3 : am_R0 24 3 = some 25 := by decide +kernel
theorem r_24_4 : am_R0 24 4 = some 26 := by decide +kernel
theorem r_24_5 : am_R0 24 5 = some 27 := by decide +kernel
theorem r_28_3 : am_R0 28 3 = some 29 := by decide +kernel
theorem r_28_4 : am_R0 28 4 = some 30 := by decide +kernel
theorem r_28_5 : am_R0 28 5 = some 31 := by decide +kernel
theorem r_32_3 : am_R0 32 3 = some 33 := by decide +kernel
theorem r_32_4 : am_R0 32 4 = some 34 := by decide +kernel
theorem r_32_5 : am_R0 32 5 = some 35 := by decide +kernel
theorem r_36_3 : am_R0 36 3 = some 37 := by decide +kernel
theorem r_36_4 : am_R0 36 4 = some 38 := by decide +kernel
theorem r_36_5 : am_R0 36 5 = some 39 := by decide +kernel
theorem r_40_3 : am_R0 40 3 = some 41 := by decide +kernel
theorem r_40_4 : am_R0 40 4 = some 42 := by decide +kernel
theorem r_40_5 : am_R0 40 5 = some 43 := by decide +kernel
theorem r_44_3 : am_R0 44 3 = some 45 := by decide +kernel
theorem r_44_4 : am_R0 44 4 = some 46 := by decide +kernel
theorem r_44_5 : am_R0 44 5 = some 47 := by decide +kernel
theorem r_48_3 : am_R0 48 3 = some 49 := by decide +kernel
theorem r_48_4 : am_R0 48 4 = some 50 := by decide +kernel
theorem r_48_5 : am_R0 48 5 = some 51 := by decide +kernel
theorem r_52_3 : am_R0 52 3 = some 53 := by decide +kernel
theorem r_52_4 : am_R0 52 4 = some 54 := by decide +kernel
theorem r_52_5 : am_R0 52 5 = some 55 := by decide +kernel
theorem r_56_3 : am_R0 56 3 = some 57 := by decide +kernel
theorem r_56_4 : am_R0 56 4 = some 58 := by decide +kernel
theorem r_56_5 : am_R0 56 5 = some 59 := by decide +kernel
theorem r_61_0 : am_R0 61 0 = some 62 := by decide +kernel
theorem r_61_4 : am_R0 61 4 = some 71 := by decide +kernel
theorem r_61_5 : am_R0 61 5 = some 75 := by decide +kernel
theorem r_61_6 : am_R0 61 6 = some 79 := by decide +kernel
theorem r_62_6 : am_R0 62 6 = some 63 := by decide +kernel
theorem r_62_7 : am_R0 62 7 = some 64 := by decide +kernel
theorem r_62_8 : am_R0 62 8 = some 65 := by decide +kernel
theorem r_62_9 : am_R0 62 9 = some 66 := by decide +kernel
theorem r_62_10 : am_R0 62 10 = some 67 := by decide +kernel
theorem r_62_11 : am_R0 62 11 = some 68 := by decide +kernel
theorem r_62_12 : am_R0 62 12 = some 69 := by decide +kernel
theorem r_62_13 : am_R0 62 13 = some 70 := by decide +kernel
theorem r_71_1 : am_R0 71 1 = some 72 := by decide +kernel
theorem r_71_2 : am_R0 71 2 = some 73 := by decide +kernel
theorem r_71_3 : am_R0 71 3 = some 74 := by decide +kernel
theorem r_75_2 : am_R0 75 2 = some 76 := by decide +kernel
theorem r_75_3 : am_R0 75 3 = some 77 := by decide +kernel
theorem r_75_4 : am_R0 75 4 = some 78 := by decide +kernel
theorem r_79_2 : am_R0 79 2 = some 80 := by decide +kernel
theorem r_79_3 : am_R0 79 3 = some 81 := by decide +kernel
theorem r_79_4 : am_R0 79 4 = some 82 := by decide +kernel
theorem r_83_0 : am_R0 83 0 = some 102 := by decide +kernel
theorem r_83_1 : am_R0 83 1 = some 104 := by decide +kernel
theorem r_83_2 : am_R0 83 2 = some 106 := by decide +kernel
theorem r_83_3 : am_R0 83 3 = some 108 := by decide +kernel
theorem r_84_0 : am_R0 84 0 = some 110 := by decide +kernel
theorem r_84_1 : am_R0 84 1 = some 123 := by decide +kernel
theorem r_85_0 : am_R0 85 0 = some 119 := by decide +kernel
theorem r_85_1 : am_R0 85 1 = some 132 := by decide +kernel
theorem r_86_0 : am_R0 86 0 = some 1 := by decide +kernel
theorem r_86_1 : am_R0 86 1 = some 10 := by decide +kernel
theorem r_86_2 : am_R0 86 2 = some 87 := by decide +kernel
theorem r_86_3 : am_R0 86 3 = some 88 := by decide +kernel
theorem r_91_0 : am_R0 91 0 = some 1 := by decide +kernel
theorem r_91_1 : am_R0 91 1 = some 10 := by decide +kernel
theorem r_91_2 : am_R0 91 2 = some 86 := by decide +kernel
theorem r_91_3 : am_R0 91 3 = some 92 := by decide +kernel
theorem r_91_4 : am_R0 91 4 = some 93 := by decide +kernel
theorem r_91_10 : am_R0 91 10 = some 94 := by decide +kernel
theorem r_91_14 : am_R0 91 14 = some 95 := by decide +kernel
theorem r_96_0 : am_R0 96 0 = some 1 := by decide +kernel
theorem r_96_1 : am_R0 96 1 = some 10 := by decide +kernel
theorem r_96_2 : am_R0 96 2 = some 97 := by decide +kernel
theorem r_96_3 : am_R0 96 3 = some 98 := by decide +kernel
theorem r_99_0 : am_R0 99 0 = some 1 := by decide +kernel
theorem r_99_1 : am_R0 99 1 = some 10 := by decide +kernel
theorem r_102_3 : am_R0 102 3 = some 103 := by decide +kernel
theorem r_104_3 : am_R0 104 3 = some 105 := by decide +kernel
theorem r_106_3 : am_R0 106 3 = some 107 := by decide +kernel
theorem r_108_3 : am_R0 108 3 = some 109 := by decide +kernel
theorem r_110_6 : am_R0 110 6 = some 111 := by decide +kernel
theorem r_110_7 : am_R0 110 7 = some 112 := by decide +kernel
theorem r_110_8 : am_R0 110 8 = some 113 := by decide +kernel
theorem r_110_9 : am_R0 110 9 = some 114 := by decide +kernel
theorem r_110_10 : am_R0 110 10 = some 115 := by decide +kernel
theorem r_110_11 : am_R0 110 11 = some 116 := by decide +kernel
theorem r_110_12 : am_R0 110 12 = some 117 := by decide +kernel
theorem r_110_13 : am_R0 110 13 = some 118 := by decide +kernel
theorem r_119_3 : am_R0 119 3 = some 120 := by decide +kernel
theorem r_119_4 : am_R0 119 4 = some 121 := by decide +kernel
theorem r_119_5 : am_R0 119 5 = some 122 := by decide +kernel
theorem r_123_6 : am_R0 123 6 = some 124 := by decide +kernel
theorem r_123_7 : am_R0 123 7 = some 125 := by decide +kernel
theorem r_123_8 : am_R0 123 8 = some 126 := by decide +kernel
theorem r_123_9 : am_R0 123 9 = some 127 := by decide +kernel
theorem r_123_10 : am_R0 123 10 = some 128 := by decide +kernel
theorem r_123_11 : am_R0 123 11 = some 129 := by decide +kernel
theorem r_123_12 : am_R0 123 12 = some 130 := by decide +kernel
theorem r_123_13 : am_R0 123 13 = some 131 := by decide +kernel
theorem r_132_3 : am_R0 132 3 = some 133 := by decide +kernel
theorem r_132_4 : am_R0 132 4 = some 134 := by decide +kernel
theorem r_132_5 : am_R0 132 5 = some 135 := by decide +kernel
theorem r_136_1 : am_R0 136 1 = some 137 := by decide +kernel
theorem r_136_2 : am_R0 136 2 = some 138 := by decide +kernel
theorem r_136_3 : am_R0 136 3 = some 139 := by decide +kernel
theorem r_136_4 : am_R0 136 4 = some 140 := by decide +kernel
theorem r_136_16 : am_R0 136 16 = some 141 := by decide +kernel
theorem r_136_17 : am_R0 136 17 = some 142 := by decide +kernel
theorem r_136_18 : am_R0 136 18 = some 143 := by decide +kernel
theorem r_136_21 : am_R0 136 21 = some 144 := by decide +kernel
theorem r_136_22 : am_R0 136 22 = some 145 := by decide +kernel
theorem r_136_23 : am_R0 136 23 = some 146 := by decide +kernel
theorem r_136_24 : am_R0 136 24 = some 147 := by decide +kernel
theorem r_136_25 : am_R0 136 25 = some 148 := by decide +kernel
theorem r_136_26 : am_R0 136 26 = some 149 := by decide +kernel
theorem r_136_27 : am_R0 136 27 = some 150 := by decide +kernel
theorem r_136_28 : am_R0 136 28 = some 151 := by decide +kernel
theorem r_136_29 : am_R0 136 29 = some 152 := by decide +kernel
theorem r_136_30 : am_R0 136 30 = some 153 := by decide +kernel
theorem r_136_31 : am_R0 136 31 = some 154 := by decide +kernel
theorem r_136_32 : am_R0 136 32 = some 155 := by decide +kernel
theorem r_136_36 : am_R0 136 36 = some 156 := by decide +kernel
theorem r_136_37 : am_R0 136 37 = some 157 := by decide +kernel
theorem r_136_38 : am_R0 136 38 = some 158 := by decide +kernel
theorem r_136_39 : am_R0 136 39 = some 159 := by decide +kernel
theorem r_136_40 : am_R0 136 40 = some 160 := by decide +kernel
theorem k_Rv {o : Nat} (ho : o ∈ am_rvL) : am_K0[o]? = some (.inl 5) := by
  revert o; decide +kernel
theorem k_Rv_6 {o : Nat} (ho : o ∈ am_rvL) : am_K0[o + 1]? = some (.inr (.int, 6)) := by
  revert o; decide +kernel
theorem r_Rv_6 {o : Nat} (ho : o ∈ am_rvL) : am_R0 o 6 = some (o + 1) := by
  revert o; decide +kernel
theorem k_Rv_7 {o : Nat} (ho : o ∈ am_rvL) : am_K0[o + 2]? = some (.inr (.int, 5)) := by
  revert o; decide +kernel
theorem r_Rv_7 {o : Nat} (ho : o ∈ am_rvL) : am_R0 o 7 = some (o + 2) := by
  revert o; decide +kernel
theorem k_Rv_8 {o : Nat} (ho : o ∈ am_rvL) : am_K0[o + 3]? = some (.inr (.int, 5)) := by
  revert o; decide +kernel
theorem r_Rv_8 {o : Nat} (ho : o ∈ am_rvL) : am_R0 o 8 = some (o + 3) := by
  revert o; decide +kernel
theorem k_Rv_9 {o : Nat} (ho : o ∈ am_rvL) : am_K0[o + 4]? = some (.inr (.int, 5)) := by
  revert o; decide +kernel
theorem r_Rv_9 {o : Nat} (ho : o ∈ am_rvL) : am_R0 o 9 = some (o + 4) := by
  revert o; decide +kernel
theorem k_Rv_10 {o : Nat} (ho : o ∈ am_rvL) : am_K0[o + 5]? = some (.inr (.int, 5)) := by
  revert o; decide +kernel
theorem r_Rv_10 {o : Nat} (ho : o ∈ am_rvL) : am_R0 o 10 = some (o + 5) := by
  revert o; decide +kernel
theorem k_Rv_11 {o : Nat} (ho : o ∈ am_rvL) : am_K0[o + 6]? = some (.inr (.int, 60)) := by
  revert o; decide +kernel
theorem r_Rv_11 {o : Nat} (ho : o ∈ am_rvL) : am_R0 o 11 = some (o + 6) := by
  revert o; decide +kernel
theorem k_Rv_12 {o : Nat} (ho : o ∈ am_rvL) : am_K0[o + 7]? = some (.inr (.int, 60)) := by
  revert o; decide +kernel
theorem r_Rv_12 {o : Nat} (ho : o ∈ am_rvL) : am_R0 o 12 = some (o + 7) := by
  revert o; decide +kernel
theorem k_Rv_13 {o : Nat} (ho : o ∈ am_rvL) : am_K0[o + 8]? = some (.inr (.int, 60)) := by
  revert o; decide +kernel
theorem r_Rv_13 {o : Nat} (ho : o ∈ am_rvL) : am_R0 o 13 = some (o + 8) := by
  revert o; decide +kernel
theorem k_St {o : Nat} (ho : o ∈ am_stL) : am_K0[o]? = some (.inl 7) := by
  revert o; decide +kernel
theorem k_St_3 {o : Nat} (ho : o ∈ am_stL) : am_K0[o + 1]? = some (.inr (.int, 6)) := by
  revert o; decide +kernel
theorem r_St_3 {o : Nat} (ho : o ∈ am_stL) : am_R0 o 3 = some (o + 1) := by
  revert o; decide +kernel
theorem k_St_4 {o : Nat} (ho : o ∈ am_stL) : am_K0[o + 2]? = some (.inr (.int, 5)) := by
  revert o; decide +kernel
theorem r_St_4 {o : Nat} (ho : o ∈ am_stL) : am_R0 o 4 = some (o + 2) := by
  revert o; decide +kernel
theorem k_St_5 {o : Nat} (ho : o ∈ am_stL) : am_K0[o + 3]? = some (.inr (.int, 5)) := by
  revert o; decide +kernel
theorem r_St_5 {o : Nat} (ho : o ∈ am_stL) : am_R0 o 5 = some (o + 3) := by
  revert o; decide +kernel
theorem k_Tr {o : Nat} (ho : o ∈ am_trL) : am_K0[o]? = some (.inl 9) := by
  revert o; decide +kernel
theorem k_Tr_3 {o : Nat} (ho : o ∈ am_trL) : am_K0[o + 1]? = some (.inr (.long, 40)) := by
  revert o; decide +kernel
theorem r_Tr_3 {o : Nat} (ho : o ∈ am_trL) : am_R0 o 3 = some (o + 1) := by
  revert o; decide +kernel
theorem k_Lw {o : Nat} (ho : o ∈ am_lwL) : am_K0[o]? = some (.inl 2) := by
  revert o; decide +kernel
theorem k_Lw_2 {o : Nat} (ho : o ∈ am_lwL) : am_K0[o + 1]? = some (.inr (.int, 900)) := by
  revert o; decide +kernel
theorem r_Lw_2 {o : Nat} (ho : o ∈ am_lwL) : am_R0 o 2 = some (o + 1) := by
  revert o; decide +kernel
theorem k_Lw_3 {o : Nat} (ho : o ∈ am_lwL) : am_K0[o + 2]? = some (.inr (.int, 6)) := by
  revert o; decide +kernel
theorem r_Lw_3 {o : Nat} (ho : o ∈ am_lwL) : am_R0 o 3 = some (o + 2) := by
  revert o; decide +kernel
theorem k_Lw_4 {o : Nat} (ho : o ∈ am_lwL) : am_K0[o + 3]? = some (.inr (.int, 64)) := by
  revert o; decide +kernel
theorem r_Lw_4 {o : Nat} (ho : o ∈ am_lwL) : am_R0 o 4 = some (o + 3) := by
  revert o; decide +kernel
theorem e_19 {i : Nat} (hi : i < 10) : am_R0 19 i = some (20 + 4 * i) ∧ 20 + 4 * i ∈ am_stL := by
  revert i; decide +kernel
theorem e_83 {i : Nat} (hi : i < 4) : am_R0 83 i = some (102 + 2 * i) ∧ 102 + 2 * i ∈ am_trL := by
  revert i; decide +kernel
theorem e_84 {i : Nat} (hi : i < 2) : am_R0 84 i = some (110 + 13 * i) ∧ 110 + 13 * i ∈ am_rvL := by
  revert i; decide +kernel
theorem e_85 {i : Nat} (hi : i < 2) : am_R0 85 i = some (119 + 13 * i) ∧ 119 + 13 * i ∈ am_stL := by
  revert i; decide +kernel
