-- deps: 31.law 32.nat 33.bit 34.spec 35.riv 36.let 37.mod 38.mod 39.it 40.ahead 41.rel 42.ask 43.why 44.meet 45.err 46.err
/-! ===== a counting loop ===== -/
theorem lpc {α β : Type} (F : Nat → α → Option β) (N : Nat) (I : Nat → α → Prop) (Q : β → Prop)
    (hs : ∀ n t a, t < N → I t a → ∃ a', F (n + 1) a = F n a' ∧ I (t + 1) a')
    (he : ∀ n a, I N a → ∃ b, F (n + 1) a = some b ∧ Q b) (hN : N < am_fu) (a : α) (h0 : I 0 a) : ∃ b, F am_fu a = some b ∧ Q b :=
  lp F (fun m a => ∃ t, m + t = N ∧ I t a) Q (fun n m a hI => by
    obtain ⟨t, h1, h2⟩ := hI
    by_cases c : t < N
    · obtain ⟨a', e, i⟩ := hs n t a c h2
      exact .inr ⟨m - 1, a', by omega, e, t + 1, by omega, i⟩
    · have : t = N := by omega
      subst this
      exact .inl (he n a h2)) am_fu N a hN ⟨0, by omega, h0⟩
theorem lq2 {α1 α2 β : Type} (F : Nat → α1 → α2 → Option β) (I : Nat → α1 → α2 → Prop) (Q : β → Prop)
    (hs : ∀ n m a1 a2, I m a1 a2 → (∃ b, F (n + 1) a1 a2 = some b ∧ Q b) ∨ (∃ m' b1 b2, m' < m ∧ F (n + 1) a1 a2 = F n b1 b2 ∧ I m' b1 b2)) (n m : Nat) (a1 : α1) (a2 : α2) (hm : m < n) (hI : I m a1 a2) : ∃ b, F n a1 a2 = some b ∧ Q b :=
  lp (fun n (x : α1 × α2) => F n x.1 x.2) (fun m x => I m x.1 x.2) Q (fun n m x hI => by
    rcases hs n m x.1 x.2 hI with h | ⟨m', b1, b2, h1, h2, h3⟩
    · exact .inl h
    · exact .inr ⟨m', (b1, b2), h1, h2, h3⟩) n m (a1, a2) hm hI
theorem lpc2 {α1 α2 β : Type} (F : Nat → α1 → α2 → Option β) (N : Nat) (I : Nat → α1 → α2 → Prop) (Q : β → Prop)
    (hs : ∀ n t a1 a2, t < N → I t a1 a2 → ∃ b1 b2, F (n + 1) a1 a2 = F n b1 b2 ∧ I (t + 1) b1 b2)
    (he : ∀ n a1 a2, I N a1 a2 → ∃ b, F (n + 1) a1 a2 = some b ∧ Q b) (hN : N < am_fu) (a1 : α1) (a2 : α2) (h0 : I 0 a1 a2) : ∃ b, F am_fu a1 a2 = some b ∧ Q b :=
  lpc (fun n (x : α1 × α2) => F n x.1 x.2) N (fun m x => I m x.1 x.2) Q (fun n t x ht hI => by
    obtain ⟨b1, b2, h2, h3⟩ := hs n t x.1 x.2 ht hI
    exact ⟨(b1, b2), h2, h3⟩) (fun n x hI => he n x.1 x.2 hI) hN (a1, a2) h0
theorem lq3 {α1 α2 α3 β : Type} (F : Nat → α1 → α2 → α3 → Option β) (I : Nat → α1 → α2 → α3 → Prop) (Q : β → Prop)
    (hs : ∀ n m a1 a2 a3, I m a1 a2 a3 → (∃ b, F (n + 1) a1 a2 a3 = some b ∧ Q b) ∨ (∃ m' b1 b2 b3, m' < m ∧ F (n + 1) a1 a2 a3 = F n b1 b2 b3 ∧ I m' b1 b2 b3)) (n m : Nat) (a1 : α1) (a2 : α2) (a3 : α3) (hm : m < n) (hI : I m a1 a2 a3) : ∃ b, F n a1 a2 a3 = some b ∧ Q b :=
  lp (fun n (x : α1 × α2 × α3) => F n x.1 x.2.1 x.2.2) (fun m x => I m x.1 x.2.1 x.2.2) Q (fun n m x hI => by
    rcases hs n m x.1 x.2.1 x.2.2 hI with h | ⟨m', b1, b2, b3, h1, h2, h3⟩
    · exact .inl h
    · exact .inr ⟨m', (b1, b2, b3), h1, h2, h3⟩) n m (a1, a2, a3) hm hI
theorem lpc3 {α1 α2 α3 β : Type} (F : Nat → α1 → α2 → α3 → Option β) (N : Nat) (I : Nat → α1 → α2 → α3 → Prop) (Q : β → Prop)
    (hs : ∀ n t a1 a2 a3, t < N → I t a1 a2 a3 → ∃ b1 b2 b3, F (n + 1) a1 a2 a3 = F n b1 b2 b3 ∧ I (t + 1) b1 b2 b3)
    (he : ∀ n a1 a2 a3, I N a1 a2 a3 → ∃ b, F (n + 1) a1 a2 a3 = some b ∧ Q b) (hN : N < am_fu) (a1 : α1) (a2 : α2) (a3 : α3) (h0 : I 0 a1 a2 a3) : ∃ b, F am_fu a1 a2 a3 = some b ∧ Q b :=
  lpc (fun n (x : α1 × α2 × α3) => F n x.1 x.2.1 x.2.2) N (fun m x => I m x.1 x.2.1 x.2.2) Q (fun n t x ht hI => by
    obtain ⟨b1, b2, b3, h2, h3⟩ := hs n t x.1 x.2.1 x.2.2 ht hI
    exact ⟨(b1, b2, b3), h2, h3⟩) (fun n x hI => he n x.1 x.2.1 x.2.2 hI) hN (a1, a2, a3) h0
theorem lq4 {α1 α2 α3 α4 β : Type} (F : Nat → α1 → α2 → α3 → α4 → Option β) (I : Nat → α1 → α2 → α3 → α4 → Prop) (Q : β → Prop)
    (hs : ∀ n m a1 a2 a3 a4, I m a1 a2 a3 a4 → (∃ b, F (n + 1) a1 a2 a3 a4 = some b ∧ Q b) ∨ (∃ m' b1 b2 b3 b4, m' < m ∧ F (n + 1) a1 a2 a3 a4 = F n b1 b2 b3 b4 ∧ I m' b1 b2 b3 b4)) (n m : Nat) (a1 : α1) (a2 : α2) (a3 : α3) (a4 : α4) (hm : m < n) (hI : I m a1 a2 a3 a4) : ∃ b, F n a1 a2 a3 a4 = some b ∧ Q b :=
  lp (fun n (x : α1 × α2 × α3 × α4) => F n x.1 x.2.1 x.2.2.1 x.2.2.2) (fun m x => I m x.1 x.2.1 x.2.2.1 x.2.2.2) Q (fun n m x hI => by
    rcases hs n m x.1 x.2.1 x.2.2.1 x.2.2.2 hI with h | ⟨m', b1, b2, b3, b4, h1, h2, h3⟩
    · exact .inl h
    · exact .inr ⟨m', (b1, b2, b3, b4), h1, h2, h3⟩) n m (a1, a2, a3, a4) hm hI
theorem lpc4 {α1 α2 α3 α4 β : Type} (F : Nat → α1 → α2 → α3 → α4 → Option β) (N : Nat) (I : Nat → α1 → α2 → α3 → α4 → Prop) (Q : β → Prop)
    (hs : ∀ n t a1 a2 a3 a4, t < N → I t a1 a2 a3 a4 → ∃ b1 b2 b3 b4, F (n + 1) a1 a2 a3 a4 = F n b1 b2 b3 b4 ∧ I (t + 1) b1 b2 b3 b4)
    (he : ∀ n a1 a2 a3 a4, I N a1 a2 a3 a4 → ∃ b, F (n + 1) a1 a2 a3 a4 = some b ∧ Q b) (hN : N < am_fu) (a1 : α1) (a2 : α2) (a3 : α3) (a4 : α4) (h0 : I 0 a1 a2 a3 a4) : ∃ b, F am_fu a1 a2 a3 a4 = some b ∧ Q b :=
  lpc (fun n (x : α1 × α2 × α3 × α4) => F n x.1 x.2.1 x.2.2.1 x.2.2.2) N (fun m x => I m x.1 x.2.1 x.2.2.1 x.2.2.2) Q (fun n t x ht hI => by
    obtain ⟨b1, b2, b3, b4, h2, h3⟩ := hs n t x.1 x.2.1 x.2.2.1 x.2.2.2 ht hI
    exact ⟨(b1, b2, b3, b4), h2, h3⟩) (fun n x hI => he n x.1 x.2.1 x.2.2.1 x.2.2.2 hI) hN (a1, a2, a3, a4) h0
/-! ===== what the class may use as scratch ===== -/
def scr (a : Nat) : Prop := (14 ≤ a ∧ a ≤ 17) ∨ (86 ≤ a ∧ a ≤ 90) ∨ a = 92 ∨ (94 ≤ a ∧ a ≤ 101)
def keT (h h' : am_H) : Prop := (∀ a, ¬ scr a → h'.2.1 a = h.2.1 a ∧ h'.2.2.1 a = h.2.2.1 a) ∧ (tRef h → tRef h')
theorem keT.rf {h : am_H} : keT h h := ⟨fun _ _ => ⟨rfl, rfl⟩, id⟩
theorem keT.tr {h h' h'' : am_H} (a : keT h h') (b : keT h' h'') : keT h h'' := ⟨fun x hx => ⟨(b.1 x hx).1.trans (a.1 x hx).1, (b.1 x hx).2.trans (a.1 x hx).2⟩, fun q => b.2 (a.2 q)⟩
theorem keT.fr {h h' : am_H} (k : keT h h') : frT h h' := fun a ha => k.1 a (by unfold scr; omega)
theorem am_ex.keT {X : List Nat} {h h' : am_H} (x : am_ex X h h') (hX : ∀ a ∈ X, scr a) : keT h h' :=
  ⟨fun a ha => ⟨x.2.2 a (fun c => ha (hX a c)), by rw [x.2.1]⟩, by unfold tRef am_rf; rw [x.2.1]; exact id⟩
theorem RT.ke {g : sG} {h h' : am_H} (R : RT g h) (k : keT h h') : RT g h' := by
  obtain ⟨R1, R2, ⟨e, q1, q2, q3, q4⟩, ⟨m, i1, i2, i3⟩, ⟨t1, t2⟩, ⟨f1, f2⟩, R7, R8, R9, R10⟩ := R
  have e : ∀ a, ¬ scr a → h'.2.1 a = h.2.1 a := fun a ha => (k.1 a ha).1
  have s91 : ¬ scr 91 := by unfold scr; omega
  refine ⟨R1.cg (fun a _ _ => e a (by unfold scr; omega)), R2.cg (fun a _ _ => e a (by unfold scr; omega)), ⟨_, q1, ?_, ?_, fun i hi => (q4 i hi).cg (fun a _ _ => e a (by unfold scr; omega))⟩, ⟨m, i1, ?_, fun i hi => ⟨(i3 i hi).1, fun q hq => ⟨((i3 i hi).2 q hq).1.cg (fun a _ _ => e a (by unfold scr; omega)), ((i3 i hi).2 q hq).2.cg (fun a _ _ => e a (by unfold scr; omega))⟩⟩⟩, ⟨?_, ?_⟩, ⟨?_, ?_⟩, ?_, ?_, ?_, k.2 R10⟩
  · rw [e 18 (by unfold scr; omega)]; exact q2
  · rw [e 18 (by unfold scr; omega)]; exact q3
  · rw [e 0 (by unfold scr; omega)]; exact i2
  · rw [e 0 (by unfold scr; omega)]; exact t1
  · rw [e 60 (by unfold scr; omega)]; exact t2
  · rw [e 61 (by unfold scr; omega)]; exact f1
  · rw [e 61 (by unfold scr; omega)]; exact f2
  · intro i hi
    rw [e (102 + 2 * i) (by unfold scr; omega), (k.1 (103 + 2 * i) (by unfold scr; omega)).2]
    exact R7 i hi
  · unfold tBest; rw [e 91 s91, e 93 (by unfold scr; omega)]; exact R8
  · unfold tGood; rw [e 91 s91]; exact R9
/-- a call that only asks, and writes into scratch -/
theorem ok2_of {α : Type} {b : Nat} {t m : am_H → Option (α × am_H)} (H : ∀ g h, VG b g → RT g h → RM g h → ∃ x, (∃ h', t h = some (x, h') ∧ keT h h') ∧ (∀ h', RM g h' → (∀ a, 136 ≤ a → h'.2.1 a = h.2.1 a) → ∃ h'', m h' = some (x, h'') ∧ keM h' h'')) : ok2 b t m := by
  intro h ⟨g, v, T, M⟩
  obtain ⟨x, ⟨h', e1, k1⟩, e2⟩ := H g h v T M
  have M' := M.cg k1.fr
  obtain ⟨h'', e3, k3⟩ := e2 h' M' (fun a ha => (k1.fr a ha).1)
  exact ⟨x, h', h'', e1, e3, g, v.up (by omega), (T.ke k1).cg k3.1, M'.ke k3⟩
theorem tV.ex {X : List Nat} {h h' : am_H} {r : sR} {s : sS} (V : tV h r s) (x : am_ex X h h') (hX : ∀ a ∈ X, 14 ≤ a) : tV h' r s :=
  ⟨V.1, V.2.1, V.2.2.1.cg (fun a _ _ => x.2.2 a (fun c => by have := hX a c; omega)), V.2.2.2.cg (fun a _ _ => x.2.2 a (fun c => by have := hX a c; omega))⟩
theorem tW.up {h : am_H} {q : Nat} {r : sR} {wk : Nat → Option Nat} {t : Nat} {l : Option Nat} (T : tW h q r wk) (hl : ∀ g, l = some g → g < rG r) : tW (am_sI h q t (oI l)) q r (va_up wk t l) := by
  refine ⟨fun k hk g hg => ?_, fun k hk => ?_⟩
  · by_cases c : k = t
    · subst c; rw [up_s] at hg; exact hl g hg
    · rw [up_n c] at hg; exact T.1 k hk g hg
  · rw [sI_row, if_pos rfl]
    by_cases c : k = t
    · subst c; rw [up_s, up_s]
    · rw [up_n c, up_n c]; exact T.2 k hk
theorem up_up {α : Type} {f : Nat → α} {k : Nat} {x y : α} : va_up (va_up f k x) k y = va_up f k y := by
  funext j
  by_cases c : j = k
  · subst c; rw [up_s, up_s]
  · rw [up_n c, up_n c, up_n c]
theorem up_id {α : Type} {f : Nat → α} {k : Nat} : va_up f k (f k) = f := by
  funext j
  by_cases c : j = k
  · subst c; rw [up_s]
  · rw [up_n c]
theorem sI_rI {h : am_H} {o j : Nat} {x : Int32} : am_sI h o j x = am_rI h o (va_up (h.2.1 o) j x) := by
  have := @rI_sI h o j (h.2.1 o) x
  rw [rI_self] at this
  exact this
theorem sI_sI {h : am_H} {o j : Nat} {x y : Int32} : am_sI (am_sI h o j x) o j y = am_sI h o j y := by
  rw [sI_rI (h := h), rI_sI, up_up, ← sI_rI]
theorem sI_back {h : am_H} {o j : Nat} {x : Int32} : am_sI (am_sI h o j x) o j (h.2.1 o j) = h := by
  rw [sI_sI, sI_rI, up_id, rI_self]
/-! ===== another week ===== -/
def sWk (s : sS) (w : Nat → Option Nat) : sS := (s.1, w, s.2.2)
theorem it_w {r : sR} {s : sS} {w wk : Nat → Option Nat} {p fr x : Nat} : ∀ n, it r (sWk s w) wk p fr x n = it r s wk p fr x n
  | 0 => rfl
  | n + 1 => by
    show stp r (sWk s w) wk p (fr + n) (it r (sWk s w) wk p fr x n) = stp r s wk p (fr + n) (it r s wk p fr x n)
    rw [it_w n]
    rfl
theorem iT_w {r : sR} {s : sS} {w wk : Nat → Option Nat} {p n : Nat} : iT r (sWk s w) wk p n = iT r s wk p n := by
  unfold iT
  simp only [it_w]
  rfl
theorem inT_w {r : sR} {s : sS} {w wk : Nat → Option Nat} : inT r (sWk s w) wk = inT r s wk := by
  unfold inT
  simp only [iT_w]
theorem cds_cg {A B : Nat → Int32} {a : Nat} (ha : 237 ≤ a) (e : ∀ j, 237 ≤ j → B j = A j) (n : Nat) : cds B a n = cds A a n := by
  unfold cds
  exact List.map_congr_left (fun i _ => e _ (by omega))
theorem lwf_cg {A B : Nat → Int32} {law : Nat} (hl : law < 2) (e : ∀ j, j < 26 ∨ 237 ≤ j → B j = A j) (h : lwf A law) : lwf B law := by
  unfold lwf at h ⊢
  rw [e (5 + law) (by omega), e (7 + law) (by omega), e (9 + law) (by omega)]
  rcases h with h | ⟨h, f, m, h1, h2, h3, h4⟩
  · exact .inl h
  · exact .inr ⟨h, f, m, h1, h2, h3, by rw [cds_cg (by omega) (fun j hj => e j (.inr hj))]; exact h4⟩
theorem slet_cg {A B : Nat → Int32} {law p g k f d : Nat} (hl : law < 2) (hp : p < 5) (e : ∀ j, j < 26 ∨ 237 ≤ j → B j = A j) : slet B law p g k f d = slet A law p g k f d := by
  unfold slet
  have w : wrd B p g k f d = wrd A p g k f d := by
    funext i
    unfold wrd
    rw [e (11 + p) (by omega)]
  rw [e (5 + law) (by omega), e (7 + law) (by omega), e (9 + law) (by omega), cds_cg (by omega) (fun j hj => e j (.inr hj)), w]
theorem mR.cg {A B : Nat → Int32} {r : sR} (hr : vR r) (h : mR A r) (e : ∀ j, j < 26 ∨ 237 ≤ j → B j = A j) : mR B r := by
  have hP := hr.2.2.1
  obtain ⟨h0, h1, h2, h3, h4, h5, ⟨h6, h7⟩, h8, h9⟩ := h
  refine ⟨by rw [e 0 (by omega)]; exact h0, by rw [e 1 (by omega)]; exact h1, by rw [e 2 (by omega)]; exact h2, by rw [e 3 (by omega)]; exact h3, by rw [e 4 (by omega)]; exact h4, fun p hp => ?_, ⟨lwf_cg (by omega) e h6, lwf_cg (by omega) e h7⟩, fun p s k f hp hs hk hf => ?_, fun p g k f d hp hg hk hf => ?_⟩
  · rw [e (11 + p) (by omega), e (16 + p) (by omega), e (21 + p) (by omega)]
    exact h5 p hp
  · rw [slet_cg (by omega) (by omega) e]; exact h8 p s k f hp hs hk hf
  · rw [slet_cg (by omega) (by omega) e]; exact h9 p g k f d hp hg hk hf
theorem mV.wks {A B : Nat → Int32} {r : sR} {s : sS} {wk : Nat → Option Nat} (V : mV A r s) (e : ∀ j, j < 29 ∨ 35 ≤ j → B j = A j) (hw : vW r wk) (hb : ∀ k, k < rW r → B (29 + k) = oI (wk k)) : mV B r (sWk s wk) := by
  refine ⟨V.1, ⟨V.2.1.1, V.2.1.2.1, V.2.1.2.2.1, hw, V.2.1.2.2.2.2⟩, mR.cg V.1 V.2.2.1 (fun j hj => e j (by omega)), ?_, ?_, ?_, hb, fun p hp => ⟨?_, ?_⟩⟩
  · rw [e 26 (by omega)]; exact V.ho
  · rw [e 27 (by omega)]; exact V.fo
  · rw [e 28 (by omega)]; exact V.dn
  · show B (35 + p) = _
    rw [e (35 + p) (by omega)]; exact V.sp hp
  · show B (40 + p) = _
    rw [e (40 + p) (by omega)]; exact V.ac hp
theorem vW.up {r : sR} {wk : Nat → Option Nat} {t : Nat} {l : Option Nat} (w : vW r wk) (hl : ∀ g, l = some g → g < rG r) : vW r (va_up wk t l) := fun k hk g hg => by
  by_cases c : k = t
  · subst c; rw [up_s] at hg; exact hl g hg
  · rw [up_n c] at hg; exact w k hk g hg
theorem mV.up {A : Nat → Int32} {r : sR} {s : sS} {k : Nat} {l : Option Nat} (V : mV A r s) (hk : k < rW r) (hl : ∀ g, l = some g → g < rG r) : mV (va_up A (29 + k) (oI l)) r (sWk s (va_up (sW s) k l)) := by
  have hW := V.hW
  refine V.wks (fun j hj => up_n (by omega)) (V.vw.up hl) (fun i hi => ?_)
  by_cases c : i = k
  · subst c; rw [up_s, up_s]
  · rw [up_n (by omega), up_n c]; exact V.wk hi
theorem mT.cg {p : Nat} {r : sR} {h h' : am_H} (M : mT p r h) (e : ∀ a, 144 ≤ a → a ≤ 146 → h'.2.1 a = h.2.1 a) : mT p r h' := by
  unfold mT at M ⊢
  rw [e 144 (by omega) (by omega), e 145 (by omega) (by omega), e 146 (by omega) (by omega)]
  exact M
theorem iT_done {r : sR} {s : sS} {wk : Nat → Option Nat} {p n : Nat} (h : (sD s).testBit p = true) : iT r s wk p n = true := by
  unfold iT
  rw [h]
  rfl
theorem bts_0 {n : Nat} {c : Nat → Bool} (h : ∀ j, j < n → c j = false) : bts n c = 0 := by
  rw [bts_eq h]
  induction n with
  | zero => rfl
  | succ n ih => rw [bts_s, ih (fun j hj => h j (by omega))]; simp
theorem bts6 {n : Nat} {c : Nat → Bool} (hn : n ≤ 6) : bts n c < 64 := Nat.lt_of_lt_of_le (bts_lt n c) (Nat.pow_le_pow_right (by omega) (n := 2) (i := n) (j := 6) hn)
/-! ===== needs ===== -/
def ndc (r : sR) (s : sS) (p k : Nat) : Bool := !iT r s (va_up (sW s) k none) p 0
def nds (r : sR) (s : sS) (p : Nat) : Int32 := if iT r s (sW s) p 0 then nI (bts (rW r) (ndc r s p)) else -1
theorem n_takeWeek {h : am_H} {r : sR} {s : sS} (V : tV h r s) : ∃ h', f_Weeks_takeWeek h = some h' ∧ am_ex [92] h h' ∧ tW h' 92 r (sW s) := by
  have hW := V.hW
  unfold f_Weeks_takeWeek
  have e : am_cp h 11 6 0 92 6 0 6 = _ := n_cp (h := h) (o0 := 11) (o1 := 92) (n0 := 6) (n1 := 6) (n := 6) (by decide) (by decide) (by decide)
  rw [e, Option.bind_some]
  refine ⟨_, rfl, am_ex.rI (by decide), V.vw, fun k hk => ?_⟩
  rw [rI_row, if_pos rfl, if_pos (by omega)]
  exact V.wk hk
theorem n_tNeeds {h : am_H} {r : sR} {s : sS} {p : Nat} (V : tV h r s) (hp : p < rP r) (he : (rTo r p).isSome = true) : ∃ h', f_Weeks_hoursNeeded (nI p) h = some (nds r s p, h') ∧ am_ex [92] h h' := by
  have hW := V.hW
  unfold f_Weeks_hoursNeeded nds
  rw [n_isDone V hp, Option.bind_some]
  cases hd : (sD s).testBit p with
  | true =>
    rw [if_tt, iT_done hd, if_tt, bts_0 (fun j _ => by unfold ndc; rw [iT_done hd]; rfl)]
    exact ⟨h, rfl, am_ex.rf⟩
  | false =>
    rw [if_ff, n_comes V V.tW hp he, Option.bind_some]
    have hc : ∀ wk, iT r s wk p 0 = cm r s wk p := fun wk => by rw [iT_cm, hd, Bool.false_or]
    rw [hc]
    cases hcm : cm r s (sW s) p with
    | false =>
      rw [if_ff, if_ff]
      exact ⟨h, rfl, am_ex.rf⟩
    | true =>
      rw [if_tt, if_tt]
      obtain ⟨h0, a1, a2, a3⟩ := n_takeWeek V
      rw [a1, Option.bind_some]
      obtain ⟨b, e1, e2, e3⟩ := lpc (fun k (a : Int32 × Int32 × am_H) => f_Weeks_hoursNeeded_L35 (nI p) k a.1 a.2.1 a.2.2) (rW r)
        (fun t a => a.1 = nI (bts t (ndc r s p)) ∧ a.2.1 = nI t ∧ am_ex [92] h a.2.2 ∧ tW a.2.2 92 r (sW s))
        (fun b => b.1 = nI (bts (rW r) (ndc r s p)) ∧ am_ex [92] h b.2.2)
        (fun n t a ht hI => by
          obtain ⟨a1, a2, a3⟩ := a
          obtain ⟨i1, i2, i3, i4⟩ := hI
          simp only at i1 i2 i3 i4
          subst i1 i2
          have V2 := V.ex i3 (by decide)
          simp only
          rw [f_Weeks_hoursNeeded_L35, V2.w, if_neg (nI_ge ht (by omega)), n_wr (by omega) (by decide), Option.bind_some]
          have x1 : am_ex [92] h (am_sI a3 92 t (-1)) := i3.tr (am_ex.sI (X := [92]) (by decide)) (fun _ z => z) (fun _ z => z)
          have V3 := V.ex x1 (by decide)
          have T3 : tW (am_sI a3 92 t (-1)) 92 r (va_up (sW s) t none) := i4.up (l := none) (fun g hg => by cases hg)
          rw [n_comes V3 T3 hp he, Option.bind_some, n_rd (by omega) (by decide), Option.bind_some, V3.wk ht, n_wr (by omega) (by decide), Option.bind_some]
          have T4 := T3.up (t := t) (V.vw t ht)
          rw [up_up, up_id] at T4
          refine ⟨(nI (bts (t + 1) (ndc r s p)), nI (t + 1), am_sI (am_sI a3 92 t (-1)) 92 t (oI (sW s t))), ?_, rfl, rfl, x1.tr (am_ex.sI (X := [92]) (by decide)) (fun _ z => z) (fun _ z => z), T4⟩
          have hn : ndc r s p t = !cm r s (va_up (sW s) t none) p := by unfold ndc; rw [hc]
          rw [bts_s, hn, shl1 (by omega), nI_or, nI_1]
          cases cm r s (va_up (sW s) t none) p <;> simp)
        (fun n a hI => by
          obtain ⟨a1, a2, a3⟩ := a
          obtain ⟨i1, i2, i3, i4⟩ := hI
          simp only at i1 i2 i3 i4
          subst i1 i2
          have V2 := V.ex i3 (by decide)
          simp only
          rw [f_Weeks_hoursNeeded_L35, V2.w, if_pos (nI_le (Nat.le_refl _) (by omega))]
          exact ⟨_, rfl, rfl, i3⟩) (by unfold am_fu; omega) (0, 0, h0) ⟨rfl, rfl, a2, a3⟩
      have e1' : f_Weeks_hoursNeeded_L35 (nI p) am_fu 0 0 h0 = some b := e1
      rw [e1', Option.bind_some, e2]
      exact ⟨_, rfl, e3⟩
theorem n_mNeeds {h : am_H} {r : sR} {s : sS} {p : Nat} (V : mV (h.2.1 137) r s) (M : mT p r h) (hp : p < rP r) (he : (rTo r p).isSome = true) : ∃ y, f_Mod_needs_L48 (nI p) am_fu 0 0 h = some (nI (bts (rW r) (ndc r s p)), y, h) := by
  have hW := V.hW
  obtain ⟨b, e1, e2, e3⟩ := lpc (fun k (a : Int32 × Int32 × am_H) => f_Mod_needs_L48 (nI p) k a.1 a.2.1 a.2.2) (rW r)
    (fun t a => a = (nI (bts t (ndc r s p)), nI t, h))
    (fun b => b.1 = nI (bts (rW r) (ndc r s p)) ∧ b.2.2 = h)
    (fun n t a ht hI => by
      subst hI
      have e29 : (29 : Int32) + nI t = nI (29 + t) := nI_add 29 t
      simp only
      rw [f_Mod_needs_L48, rd_lit (by decide) (by decide), Option.bind_some, V.w, if_neg (nI_ge ht (by omega)), e29, n_rd (by omega) (by decide), Option.bind_some, n_wr (by omega) (by decide), Option.bind_some]
      have V3 : mV ((am_sI h 137 (29 + t) (-1)).2.1 137) r (sWk s (va_up (sW s) t none)) := by
        rw [sI_row, if_pos rfl]
        exact V.up (l := none) ht (fun g hg => by cases hg)
      have M3 : mT p r (am_sI h 137 (29 + t) (-1)) := M.cg (fun a _ _ => by rw [sI_row, if_neg (by omega)])
      have e0 : f_Mod_isInTime (nI p) 0 (am_sI h 137 (29 + t) (-1)) = _ := n_isInTime (later := 0) V3 M3 hp he (by omega)
      rw [e0, Option.bind_some, iT_w, n_wr (by omega) (by decide)]
      simp only [am_let, Option.bind_some]
      rw [sI_back]
      refine ⟨(nI (bts (t + 1) (ndc r s p)), nI (t + 1), h), ?_, rfl⟩
      have hn : ndc r s p t = !iT r s (va_up (sW s) t none) p 0 := rfl
      have e5 : sW (sWk s (va_up (sW s) t none)) = va_up (sW s) t none := rfl
      rw [bts_s, hn, shl1 (by omega), nI_1, ← nI_or, e5]
      cases iT r s (va_up (sW s) t none) p 0 <;> rfl)
    (fun n a hI => by
      subst hI
      simp only
      rw [f_Mod_needs_L48, rd_lit (by decide) (by decide), Option.bind_some, V.w, if_pos (nI_le (Nat.le_refl _) (by omega))]
      exact ⟨_, rfl, rfl, rfl⟩) (by unfold am_fu; omega) (0, 0, h) rfl
  obtain ⟨b1, b2, b3⟩ := b
  simp only at e2 e3
  subst e2 e3
  exact ⟨_, e1⟩
theorem per2 {h : am_H} {r : sR} {s : sS} (T : tV h r s) (x : Int32) : (∃ p, p < rP r ∧ x = nI p ∧ f_River_hasPerson 1 x h = some true ∧ ∀ {h' : am_H}, mV (h'.2.1 137) r s → f_Mod_isPerson x.toInt64 h' = some true) ∨ (f_River_hasPerson 1 x h = some false ∧ ∀ {h' : am_H}, mV (h'.2.1 137) r s → f_Mod_isPerson x.toInt64 h' = some false) := by
  have hP := T.hP
  rcases of_lt x (P := rP r) (by omega) with ⟨p, hp, rfl⟩ | ⟨q, _⟩
  · exact .inl ⟨p, hp, rfl, n_hasPerson T.1 T.2.2.1 hp, fun M => n_isPerson M hp⟩
  · exact .inr ⟨n_hasPerson' T.2.2.1 q, fun M => n_isPerson' M q⟩
theorem spt2 {h h0 : am_H} {r : sR} {s : sS} (T : tV h r s) (M0 : mV (h0.2.1 137) r s) (x : Int32) : (∃ q, vSp (rG r) q ∧ x = nI q ∧ f_River_hasSpot 1 x h = some true ∧ ∀ {h' : am_H}, mV (h'.2.1 137) r s → f_Mod_isSpot x.toInt64 h' = some true) ∨ (f_River_hasSpot 1 x h = some false ∧ ∀ {h' : am_H}, mV (h'.2.1 137) r s → f_Mod_isSpot x.toInt64 h' = some false) := by
  rcases spt T M0 x with ⟨q, hq, rfl, e3, e4⟩ | ⟨e3, e4⟩
  · refine .inl ⟨q, hq, rfl, e3, fun M => ?_⟩
    rcases spt T M (nI q) with ⟨_, _, _, _, f4⟩ | ⟨f3, _⟩
    · exact f4
    · rw [e3] at f3; cases f3
  · refine .inr ⟨e3, fun M => ?_⟩
    rcases spt T M x with ⟨_, _, _, f3, _⟩ | ⟨_, f4⟩
    · rw [e3] at f3; cases f3
    · exact f4
theorem s0M {b : Nat} {g : sG} {h : am_H} (M : RM g h) (v : VG b g) (hb : b ≤ 90000) : keM h (am_sI h 136 0 0) ∧ mV ((am_sI h 136 0 0).2.1 137) g.1.1 g.1.2.1 := ⟨keM.s0 (by decide), (M.ke (keM.s0 (by decide))).mV v (by omega)⟩
theorem isSome_f {α : Type} {o : Option α} (h : o.isSome = false) : o = none := by
  cases o with
  | none => rfl
  | some _ => cases h
theorem ok_needs (b : Nat) (hb : b ≤ 90000) (x : Int32) : ok2 b (f_Top_needs x) (f_Mod_needs x) := by
  refine ok2_of (fun g h v T M0 => ?_)
  have TV := T.tV v (by omega)
  have hP := TV.hP
  have hG := TV.hG
  unfold f_Top_needs f_Mod_needs
  simp only [am_let]
  rcases per2 TV x with ⟨p, hp, rfl, e1, e2⟩ | ⟨e1, e2⟩
  · rw [e1, Option.bind_some, if_tt, n_rd (by omega) (by decide), Option.bind_some, TV.to hp]
    cases hc : (rTo g.1.1 p).isSome with
    | false =>
      rw [isSome_f hc, oI_none, if_pos rfl]
      refine ⟨_, ⟨h, rfl, keT.rf⟩, fun h' M _ => ?_⟩
      obtain ⟨k0, MV⟩ := s0M M v hb
      rw [e2 MV, Option.bind_some, if_tt, n_isErrand MV hp, Option.bind_some, hc, if_ff]
      exact ⟨_, rfl, k0⟩
    | true =>
      obtain ⟨q, hq⟩ := Option.isSome_iff_exists.mp hc
      have hq1 := ((TV.1.2.2.2.2.2 p hp).2.1 q hq).1
      obtain ⟨h1, a1, a2⟩ := n_tNeeds TV hp hc
      rw [hq, oI_some, if_neg (nI_nm1 (by omega)), a1, Option.bind_some]
      refine ⟨_, ⟨h1, rfl, a2.keT (by unfold scr; simp)⟩, fun h' M _ => ?_⟩
      obtain ⟨k0, MV⟩ := s0M M v hb
      obtain ⟨h2, c1, c2, c3⟩ := n_laysLets hp MV
      have MV2 := MV.ex c2 (by decide)
      have e0 : f_Mod_isInTime (nI p) 0 h2 = _ := n_isInTime (later := 0) MV2 c3 hp hc (by omega)
      rw [e2 MV, Option.bind_some, if_tt, n_isErrand MV hp, Option.bind_some, hc, if_tt, c1, Option.bind_some, e0, Option.bind_some]
      obtain ⟨y, d1⟩ := n_mNeeds MV2 c3 hp hc
      rw [d1]
      unfold nds
      cases iT g.1.1 g.1.2.1 (sW g.1.2.1) p 0 with
      | true => exact ⟨_, rfl, k0.tr (c2.keM (by decide))⟩
      | false => exact ⟨_, rfl, k0.tr (c2.keM (by decide))⟩
  · rw [e1, Option.bind_some, if_ff]
    refine ⟨_, ⟨h, rfl, keT.rf⟩, fun h' M _ => ?_⟩
    obtain ⟨k0, MV⟩ := s0M M v hb
    rw [e2 MV, Option.bind_some, if_ff]
    exact ⟨_, rfl, k0⟩
