-- deps: 31.law 32.nat 33.bit 34.spec 35.riv 36.let 37.mod 38.mod 39.it 40.ahead
/-! ===== what is asked of weeks ===== -/
/-- an errand in time, if one begins later by so many hours -/
def iT (r : sR) (s : sS) (wk : Nat → Option Nat) (p later : Nat) : Bool := (sD s).testBit p || (match rTo r p, rBy r p with
  | some g, some b => (match ff (fun n => (it r s wk p later (1 <<< sP s p) n).testBit g) 0 61 with
    | some n => decide (sH s + later + n ≤ b)
    | none => false)
  | _, _ => false)
/-- how many below n have it -/
def cnt (c : Nat → Bool) : Nat → Nat
  | 0 => 0
  | n + 1 => cnt c n + (if c n then 1 else 0)
def errs (r : sR) : Nat := cnt (fun p => (rTo r p).isSome) (rP r)
def inT (r : sR) (s : sS) (wk : Nat → Option Nat) : Nat := cnt (fun p => (rTo r p).isSome && iT r s wk p 0) (rP r)
def mvs (W : Nat) (wk : Nat → Option Nat) : Nat := cnt (fun k => decide (wk k ≠ wk ((k + W - 1) % W))) W
def chc (G c : Nat) : Option Nat := if c = G then none else some c
abbrev sA : Type := Option (Nat × Nat × (Nat → Option Nat)) × Nat
def lay (r : sR) (s : sS) (wk : Nat → Option Nat) (a : sA) : sA :=
  (match a.1 with
   | none => some (inT r s wk, mvs (rW r) wk, wk)
   | some (bn, bm, bw) => if inT r s wk < bn ∨ inT r s wk = bn ∧ bm ≤ mvs (rW r) wk then some (bn, bm, bw) else some (inT r s wk, mvs (rW r) wk, wk),
   a.2 + (if inT r s wk = errs r then 1 else 0))
/-- all weeks, the first hour's gaps first, then resting -/
def gwk (r : sR) (s : sS) : Nat → (Nat → Option Nat) → sA → sA
  | 0, wk, a => lay r s wk a
  | m + 1, wk, a => (List.range (rG r + 1)).foldl (fun a c => gwk r s m (va_up wk (rW r - (m + 1)) (chc (rG r) c)) a) a
def aW (r : sR) (s : sS) : sA := gwk r s (rW r) (fun _ => none) (none, 0)
/-! ===== the whole state of a run ===== -/
/-- river, state, how many to undo and they; images; tape; fault; trays -/
abbrev sG : Type := (sR × sS × Nat × (Nat → sS)) × (Nat → Option (sR × sS)) × (Nat × (Nat → Nat)) × (Nat × Option Nat) × (Nat → Option (Nat × Nat × (Nat → Int64)))
def sb (x : Nat) : Int32 := (nI x).toInt8.toInt32
def VG (b : Nat) (g : sG) : Prop := vR g.1.1 ∧ vS b g.1.1 g.1.2.1 ∧ g.1.2.2.1 ≤ 10 ∧ (∀ i, i < g.1.2.2.1 → vS b g.1.1 (g.1.2.2.2 i)) ∧
  (∀ i, i < 2 → ∀ q, g.2.1 i = some q → vR q.1 ∧ vS b q.1 q.2) ∧ (g.2.2.1.1 ≤ 900 ∧ ∀ i, i < g.2.2.1.1 → g.2.2.1.2 i < 256) ∧ (g.2.2.2.1.1 ≤ 4 ∧ ∀ x, g.2.2.2.1.2 = some x → x ≤ 900) ∧
  (∀ i, i < 4 → ∀ q, g.2.2.2.2 i = some q → q.1 ≤ 3 ∧ q.2.1 ≤ 40)
def tPast (g : sG) (h : am_H) : Prop := ∃ e, e < 10 ∧ h.2.1 18 1 = nI e ∧ h.2.1 18 2 = nI g.1.2.2.1 ∧ ∀ i, i < g.1.2.2.1 → tS (20 + 4 * ((e + i) % 10)) g.1.1 (g.1.2.2.2 i) h
def tImg (g : sG) (h : am_H) : Prop := ∃ m, m < 4 ∧ h.2.1 0 14 = nI m ∧ ∀ i, i < 2 → m.testBit i = (g.2.1 i).isSome ∧ ∀ q, g.2.1 i = some q → tR (110 + 13 * i) q.1 h ∧ tS (119 + 13 * i) q.1 q.2 h
def tTape (g : sG) (h : am_H) : Prop := h.2.1 0 13 = nI g.2.2.1.1 ∧ ∀ i, i < g.2.2.1.1 → h.2.1 60 i = sb (g.2.2.1.2 i)
def tFlt (g : sG) (h : am_H) : Prop := h.2.1 61 1 = nI g.2.2.2.1.1 ∧ h.2.1 61 2 = oI g.2.2.2.1.2
def tTry (g : sG) (h : am_H) : Prop := ∀ i, i < 4 → (g.2.2.2.2 i = none → h.2.1 (102 + 2 * i) 0 = 0) ∧ ∀ q, g.2.2.2.2 i = some q → h.2.1 (102 + 2 * i) 0 = 1 ∧ h.2.1 (102 + 2 * i) 1 = nI q.2.1 ∧ h.2.1 (102 + 2 * i) 2 = nI q.1 ∧ ∀ k, k < q.2.1 → h.2.2.1 (103 + 2 * i) k = q.2.2 k
def tBest (r : sR) (s : sS) (h : am_H) : Prop := h.2.1 91 8 = 0 ∨ h.2.1 91 8 = 1 ∧ ∃ n m wk, (aW r s).1 = some (n, m, wk) ∧ h.2.1 91 5 = nI n ∧ h.2.1 91 6 = nI m ∧ ∀ k, k < rW r → h.2.1 93 k = oI (wk k)
def tGood (r : sR) (s : sS) (h : am_H) : Prop := h.2.1 91 9 = 0 ∨ h.2.1 91 9 = 1 ∧ h.2.1 91 7 = nI (aW r s).2
def tRef (h : am_H) : Prop := (am_rf h 86 4 = 89 ∧ am_rf h 86 5 = 90 ∨ am_rf h 86 4 = 90 ∧ am_rf h 86 5 = 89) ∧ (am_rf h 99 2 = 100 ∧ am_rf h 99 3 = 101 ∨ am_rf h 99 2 = 101 ∧ am_rf h 99 3 = 100)
def RT (g : sG) (h : am_H) : Prop := tR 1 g.1.1 h ∧ tS 10 g.1.1 g.1.2.1 h ∧ tPast g h ∧ tImg g h ∧ tTape g h ∧ tFlt g h ∧ tTry g h ∧ tBest g.1.1 g.1.2.1 h ∧ tGood g.1.1 g.1.2.1 h ∧ tRef h
def mPast (g : sG) (A : Nat → Int32) : Prop := A 45 = nI g.1.2.2.1 ∧ ∀ i, i < g.1.2.2.1 → mS A (46 + 19 * i) g.1.1 (g.1.2.2.2 i)
def mImg (g : sG) (h : am_H) : Prop := ∀ i, i < 2 → (g.2.1 i = none → h.2.1 138 i = 0) ∧ ∀ q, g.2.1 i = some q → h.2.1 138 i = 1 ∧ mR (fun j => h.2.1 137 (1137 * (i + 1) + j)) q.1 ∧ mS (h.2.1 137) (1137 * (i + 1) + 26) q.1 q.2
def mTape (g : sG) (h : am_H) : Prop := h.2.1 136 5 = nI g.2.2.1.1 ∧ ∀ i, i < g.2.2.1.1 → h.2.1 139 i = nI (g.2.2.1.2 i)
def mFlt (g : sG) (h : am_H) : Prop := h.2.1 136 13 = nI g.2.2.2.1.1 ∧ h.2.1 136 14 = oI g.2.2.2.1.2
def mTry (g : sG) (h : am_H) : Prop := ∀ i, i < 4 → (g.2.2.2.2 i = none → h.2.1 158 i = -1) ∧ ∀ q, g.2.2.2.2 i = some q → h.2.1 158 i = nI q.1 ∧ h.2.1 159 i = nI q.2.1 ∧ ∀ k, k < q.2.1 → h.2.2.1 160 (40 * i + k) = q.2.2 k
def RM (g : sG) (h : am_H) : Prop := mR (h.2.1 137) g.1.1 ∧ mS (h.2.1 137) 26 g.1.1 g.1.2.1 ∧ mPast g (h.2.1 137) ∧ mImg g h ∧ mTape g h ∧ mFlt g h ∧ mTry g h
/-- what the class leaves alone; what the reference leaves alone -/
def frT (h h' : am_H) : Prop := ∀ a, 136 ≤ a → h'.2.1 a = h.2.1 a ∧ h'.2.2.1 a = h.2.2.1 a
def frM (h h' : am_H) : Prop := (∀ a, a < 136 → h'.2.1 a = h.2.1 a ∧ h'.2.2.1 a = h.2.2.1 a) ∧ h'.2.2.2 = h.2.2.2
theorem frT.rf {h : am_H} : frT h h := fun _ _ => ⟨rfl, rfl⟩
theorem frT.tr {h h' h'' : am_H} (a : frT h h') (b : frT h' h'') : frT h h'' := fun x hx => ⟨(b x hx).1.trans (a x hx).1, (b x hx).2.trans (a x hx).2⟩
theorem frM.rf {h : am_H} : frM h h := ⟨fun _ _ => ⟨rfl, rfl⟩, rfl⟩
theorem frM.tr {h h' h'' : am_H} (a : frM h h') (b : frM h' h'') : frM h h'' := ⟨fun x hx => ⟨(b.1 x hx).1.trans (a.1 x hx).1, (b.1 x hx).2.trans (a.1 x hx).2⟩, b.2.trans a.2⟩
theorem am_ex.frT {X : List Nat} {h h' : am_H} (x : am_ex X h h') (hX : ∀ a ∈ X, a < 136) : frT h h' := fun a ha => ⟨x.2.2 a (fun c => by have := hX a c; omega), by rw [x.2.1]⟩
theorem am_ex.frM {X : List Nat} {h h' : am_H} (x : am_ex X h h') (hX : ∀ a ∈ X, 136 ≤ a) : frM h h' := ⟨fun a ha => ⟨x.2.2 a (fun c => by have := hX a c; omega), by rw [x.2.1]⟩, by rw [x.2.1]⟩
theorem tR.cg {o : Nat} {r : sR} {h h' : am_H} (T : tR o r h) (e : ∀ a, o ≤ a → a ≤ o + 8 → h'.2.1 a = h.2.1 a) : tR o r h' := by
  unfold tR at T ⊢
  rw [e o (by omega) (by omega), e (o + 3) (by omega) (by omega), e (o + 4) (by omega) (by omega), e (o + 5) (by omega) (by omega), e (o + 6) (by omega) (by omega), e (o + 7) (by omega) (by omega), e (o + 8) (by omega) (by omega)]
  exact T
theorem tS.cg {o : Nat} {r : sR} {s : sS} {h h' : am_H} (T : tS o r s h) (e : ∀ a, o ≤ a → a ≤ o + 3 → h'.2.1 a = h.2.1 a) : tS o r s h' := by
  unfold tS at T ⊢
  rw [e o (by omega) (by omega), e (o + 1) (by omega) (by omega), e (o + 2) (by omega) (by omega), e (o + 3) (by omega) (by omega)]
  exact T
theorem RT.cg {g : sG} {h h' : am_H} (R : RT g h) (f : frM h h') : RT g h' := by
  obtain ⟨R1, R2, ⟨e, q1, q2, q3, q4⟩, ⟨m, i1, i2, i3⟩, ⟨t1, t2⟩, ⟨f1, f2⟩, R7, R8, R9, R10⟩ := R
  have e : ∀ a, a < 136 → h'.2.1 a = h.2.1 a := fun a ha => (f.1 a ha).1
  refine ⟨R1.cg (fun a _ _ => e a (by omega)), R2.cg (fun a _ _ => e a (by omega)), ⟨_, q1, ?_, ?_, fun i hi => (q4 i hi).cg (fun a _ _ => e a (by omega))⟩, ⟨m, i1, ?_, fun i hi => ⟨(i3 i hi).1, fun q hq => ⟨((i3 i hi).2 q hq).1.cg (fun a _ _ => e a (by omega)), ((i3 i hi).2 q hq).2.cg (fun a _ _ => e a (by omega))⟩⟩⟩, ⟨?_, ?_⟩, ⟨?_, ?_⟩, ?_, ?_, ?_, ?_⟩
  · rw [e 18 (by omega)]; exact q2
  · rw [e 18 (by omega)]; exact q3
  · rw [e 0 (by omega)]; exact i2
  · rw [e 0 (by omega)]; exact t1
  · rw [e 60 (by omega)]; exact t2
  · rw [e 61 (by omega)]; exact f1
  · rw [e 61 (by omega)]; exact f2
  · intro i hi
    rw [e (102 + 2 * i) (by omega), (f.1 (103 + 2 * i) (by omega)).2]
    exact R7 i hi
  · unfold tBest; rw [e 91 (by omega), e 93 (by omega)]; exact R8
  · unfold tGood; rw [e 91 (by omega)]; exact R9
  · unfold tRef am_rf; rw [f.2]; exact R10
theorem RM.cg {g : sG} {h h' : am_H} (R : RM g h) (f : frT h h') : RM g h' := by
  unfold RM mImg mTape mFlt mTry at R ⊢
  rw [(f 136 (by omega)).1, (f 137 (by omega)).1, (f 138 (by omega)).1, (f 139 (by omega)).1, (f 158 (by omega)).1, (f 159 (by omega)).1, (f 160 (by omega)).2]
  exact R
/-- the reference changed only what nobody asks for -/
def keM (h h' : am_H) : Prop := frM h h' ∧ (∀ a, (137 ≤ a ∧ a ≤ 139) ∨ 158 ≤ a → h'.2.1 a = h.2.1 a) ∧ h'.2.2.1 160 = h.2.2.1 160 ∧ h'.2.1 136 5 = h.2.1 136 5 ∧ h'.2.1 136 13 = h.2.1 136 13 ∧ h'.2.1 136 14 = h.2.1 136 14
theorem keM.rf {h : am_H} : keM h h := ⟨frM.rf, fun _ _ => rfl, rfl, rfl, rfl, rfl⟩
theorem keM.tr {h h' h'' : am_H} (a : keM h h') (b : keM h' h'') : keM h h'' := ⟨a.1.tr b.1, fun x hx => (b.2.1 x hx).trans (a.2.1 x hx), b.2.2.1.trans a.2.2.1, b.2.2.2.1.trans a.2.2.2.1, b.2.2.2.2.1.trans a.2.2.2.2.1, b.2.2.2.2.2.trans a.2.2.2.2.2⟩
theorem RM.ke {g : sG} {h h' : am_H} (R : RM g h) (k : keM h h') : RM g h' := by
  unfold RM mImg mTape mFlt mTry at R ⊢
  rw [k.2.1 137 (by omega), k.2.1 138 (by omega), k.2.1 139 (by omega), k.2.1 158 (by omega), k.2.1 159 (by omega), k.2.2.1, k.2.2.2.1, k.2.2.2.2.1, k.2.2.2.2.2]
  exact R
theorem am_ex.keM {X : List Nat} {h h' : am_H} (x : am_ex X h h') (hX : ∀ a ∈ X, 140 ≤ a ∧ a < 158) : keM h h' :=
  ⟨x.frM (fun a ha => by have := hX a ha; omega), fun a ha => x.2.2 a (fun c => by have := hX a c; omega), by rw [x.2.1], by rw [x.2.2 136 (fun c => by have := hX _ c; omega)], by rw [x.2.2 136 (fun c => by have := hX _ c; omega)], by rw [x.2.2 136 (fun c => by have := hX _ c; omega)]⟩
theorem keM.s0 {h : am_H} {j : Nat} {x : Int32} (hj : j ≠ 5 ∧ j ≠ 13 ∧ j ≠ 14) : keM h (am_sI h 136 j x) :=
  ⟨⟨fun a ha => ⟨by rw [sI_row, if_neg (by omega)], rfl⟩, rfl⟩, fun a ha => by rw [sI_row, if_neg (by omega)], rfl, by rw [sI_row, if_pos rfl, up_n (fun c => hj.1 c.symm)], by rw [sI_row, if_pos rfl, up_n (fun c => hj.2.1 c.symm)], by rw [sI_row, if_pos rfl, up_n (fun c => hj.2.2 c.symm)]⟩
theorem RM.mV {b : Nat} {g : sG} {h : am_H} (R : RM g h) (v : VG b g) (hb : b ≤ 100000) : mV (h.2.1 137) g.1.1 g.1.2.1 := ⟨v.1, ⟨Nat.le_trans v.2.1.1 hb, v.2.1.2⟩, R.1, R.2.1⟩
theorem RT.tV {b : Nat} {g : sG} {h : am_H} (R : RT g h) (v : VG b g) (hb : b ≤ 100000) : tV h g.1.1 g.1.2.1 := ⟨v.1, ⟨Nat.le_trans v.2.1.1 hb, v.2.1.2⟩, R.1, R.2.1⟩
/-- both sides in one state -/
def RR (b : Nat) (h : am_H) : Prop := ∃ g, VG b g ∧ RT g h ∧ RM g h
/-- a call answers alike, and both sides go on in one state -/
def ok1 (b : Nat) (t : am_H → Option Int32) (m : am_H → Option (Int32 × am_H)) : Prop := ∀ h, RR b h → ∃ x h', t h = some x ∧ m h = some (x, h') ∧ RR (b + 48) h'
def ok2 {α : Type} (b : Nat) (t m : am_H → Option (α × am_H)) : Prop := ∀ h, RR b h → ∃ x h' h'', t h = some (x, h') ∧ m h' = some (x, h'') ∧ RR (b + 48) h''
theorem vS.up {b b' : Nat} {r : sR} {s : sS} (h : vS b r s) (hb : b ≤ b') : vS b' r s := ⟨Nat.le_trans h.1 hb, h.2⟩
theorem VG.up {b b' : Nat} {g : sG} (v : VG b g) (hb : b ≤ b') : VG b' g :=
  ⟨v.1, v.2.1.up hb, v.2.2.1, fun i hi => (v.2.2.2.1 i hi).up hb, fun i hi q hq => ⟨(v.2.2.2.2.1 i hi q hq).1, (v.2.2.2.2.1 i hi q hq).2.up hb⟩, v.2.2.2.2.2⟩
/-- a call that only asks -/
theorem ok1_of {b : Nat} {t : am_H → Option Int32} {m : am_H → Option (Int32 × am_H)} (H : ∀ g h, VG b g → RT g h → RM g h → ∃ x h', t h = some x ∧ m h = some (x, h') ∧ keM h h') : ok1 b t m := by
  intro h ⟨g, v, T, M⟩
  obtain ⟨x, h', e1, e2, k⟩ := H g h v T M
  exact ⟨x, h', e1, e2, g, v.up (by omega), T.cg k.1, M.ke k⟩
