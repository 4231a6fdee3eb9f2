-- deps: 31.law 32.nat 33.bit 34.spec 35.riv 36.let 37.mod 38.mod 39.it 40.ahead 41.rel 42.ask 43.why 44.meet 45.err 46.err 47.wk 48.chg 50.ways 51.way 52.tray 57.undo 67.wth
/-! ===== all weeks, one after another ===== -/
def Ag (i : Nat) (v w : Nat → Option Nat) : Prop := ∀ k, k < i → v k = w k
theorem bt_irr {r : sR} {s : sS} {w : Nat → Option Nat} : ¬ bt r s w w := fun h => by
  rcases h with h | ⟨_, h | ⟨_, h⟩⟩
  · omega
  · omega
  · exact lxl_as h h
theorem dg_chc {G c : Nat} : dg G (chc G c) = c := by
  unfold chc
  by_cases h : c = G
  · rw [if_pos h, h]; rfl
  · rw [if_neg h]; rfl
theorem chc_dg {G : Nat} {o : Option Nat} (h : ∀ g, o = some g → g < G) : chc G (dg G o) = o ∧ dg G o ≤ G := by
  cases o with
  | none => exact ⟨if_pos rfl, Nat.le_refl _⟩
  | some g =>
    have := h g rfl
    exact ⟨if_neg (by show ¬ g = G; omega), by show g ≤ G; omega⟩
theorem fl_s {α : Type} (f : α → Nat → α) (a : α) (c : Nat) : (List.range (c + 1)).foldl f a = f ((List.range c).foldl f a) c := by
  rw [List.range_succ, List.foldl_append]
  rfl
theorem gwk_ok {r : sR} {s : sS} (hr : vR r) : ∀ m wk (a : sA), m ≤ rW r → vW r wk → (∀ x, a.1 = some x → x.1 = inT r s x.2.2 ∧ x.2.1 = mvs (rW r) x.2.2 ∧ vW r x.2.2 ∧ ∀ v, vW r v → Ag (rW r - m) v wk → lxl r x.2.2 v) →
    ∃ w, (gwk r s m wk a).1 = some (inT r s w, mvs (rW r) w, w) ∧ vW r w ∧ (∀ v, vW r v → Ag (rW r - m) v wk → ¬ bt r s v w) ∧ ((∃ x, a.1 = some x ∧ w = x.2.2) ∨ Ag (rW r - m) w wk) ∧ (∀ x, a.1 = some x → w = x.2.2 ∨ bt r s w x.2.2)
  | 0, wk, a, hm, hv, ha => by
    show ∃ w, (lay r s wk a).1 = _ ∧ _
    have eqv : ∀ v, Ag (rW r - 0) v wk → ∀ k, k < rW r → wk k = v k := fun v h k hk => (h k (by omega)).symm
    have self : ∀ v, vW r v → Ag (rW r - 0) v wk → ¬ bt r s v wk := fun v h1 h2 h3 => bt_irr (bt_cg hr (fun k hk => (eqv v h2 k hk).symm) h3)
    cases e : a.1 with
    | none =>
      refine ⟨wk, ?_, hv, self, .inr (fun k _ => rfl), fun x hx => by cases hx⟩
      unfold lay
      rw [e]
    | some x =>
      obtain ⟨a1, a2, a3, a4⟩ := ha x e
      obtain ⟨bn, bm, bw⟩ := x
      simp only at a1 a2 a3 a4
      subst a1 a2
      by_cases c : inT r s wk < inT r s bw ∨ inT r s wk = inT r s bw ∧ mvs (rW r) bw ≤ mvs (rW r) wk
      · refine ⟨bw, ?_, a3, fun v h1 h2 h3 => ?_, .inl ⟨_, rfl, rfl⟩, fun x hx => by cases hx; exact .inl rfl⟩
        · unfold lay
          rw [e]
          simp only
          rw [if_pos c]
        · have h4 := bt_cg hr (fun k hk => (eqv v h2 k hk).symm) h3
          have h5 := a4 wk hv (fun k _ => rfl)
          rcases h4 with q | ⟨q1, q | ⟨q2, q3⟩⟩
          · omega
          · omega
          · exact lxl_as h5 q3
      · refine ⟨wk, ?_, hv, self, .inr (fun k _ => rfl), fun x hx => ?_⟩
        · unfold lay
          rw [e]
          simp only
          rw [if_neg c]
        · cases hx
          right
          by_cases q : inT r s bw < inT r s wk
          · exact .inl q
          · refine .inr ⟨?_, .inl ?_⟩
            · show inT r s wk = inT r s bw
              omega
            · show mvs (rW r) wk < mvs (rW r) bw
              omega
  | m + 1, wk, a, hm, hv, ha => by
    have hG := hr.1
    have hi : rW r - (m + 1) < rW r := by omega
    generalize hI : rW r - (m + 1) = i at *
    have him : rW r - m = i + 1 := by omega
    -- so many choices
    have key : ∀ c, c ≤ rG r + 1 → (c = 0 ∧ True ∨ 0 < c ∧ ∃ w, ((List.range c).foldl (fun a c => gwk r s m (va_up wk i (chc (rG r) c)) a) a).1 = some (inT r s w, mvs (rW r) w, w) ∧ vW r w ∧ (∀ v, vW r v → Ag i v wk → dg (rG r) (v i) < c → ¬ bt r s v w) ∧ ((∃ x, a.1 = some x ∧ w = x.2.2) ∨ Ag i w wk ∧ dg (rG r) (w i) < c) ∧ (∀ x, a.1 = some x → w = x.2.2 ∨ bt r s w x.2.2)) := by
      intro c
      induction c with
      | zero => intro _; exact .inl ⟨rfl, trivial⟩
      | succ c ih =>
        intro hc
        right
        refine ⟨by omega, ?_⟩
        rw [fl_s]
        have hv2 : vW r (va_up wk i (chc (rG r) c)) := hv.up (chc_v (by omega))
        have pre : ∀ v, Ag (rW r - m) v (va_up wk i (chc (rG r) c)) ↔ Ag i v wk ∧ v i = chc (rG r) c := fun v => by
          rw [him]
          constructor
          · intro h
            refine ⟨fun k hk => ?_, ?_⟩
            · rw [h k (by omega), up_n (by omega)]
            · rw [h i (by omega), up_s]
          · rintro ⟨h1, h2⟩ k hk
            by_cases q : k = i
            · rw [q, up_s]; exact h2
            · rw [up_n q]; exact h1 k (by omega)
        have dgc : ∀ v, vW r v → dg (rG r) (v i) = c → v i = chc (rG r) c := fun v h1 h2 => by
          rw [← h2]; exact (chc_dg (h1 i hi)).1.symm
        rcases ih (by omega) with ⟨c0, _⟩ | ⟨c0, w, w1, w2, w3, w4, w5⟩
        · subst c0
          obtain ⟨w', b1, b2, b3, b4, b5⟩ := gwk_ok hr m _ a (by omega) hv2 (fun x hx => ⟨(ha x hx).1, (ha x hx).2.1, (ha x hx).2.2.1, fun v h1 h2 => (ha x hx).2.2.2 v h1 ((pre v).mp h2).1⟩)
          refine ⟨w', b1, b2, fun v h1 h2 h3 => b3 v h1 ((pre v).mpr ⟨h2, dgc v h1 (by omega)⟩), ?_, b5⟩
          rcases b4 with b4 | b4
          · exact .inl b4
          · right
            obtain ⟨q1, q2⟩ := (pre w').mp b4
            exact ⟨q1, by rw [q2, dg_chc]; omega⟩
        · obtain ⟨w', b1, b2, b3, b4, b5⟩ := gwk_ok hr m _ ((List.range c).foldl (fun a c => gwk r s m (va_up wk i (chc (rG r) c)) a) a) (by omega) hv2 (fun x hx => by
            rw [w1] at hx
            cases hx
            refine ⟨rfl, rfl, w2, fun v h1 h2 => ?_⟩
            obtain ⟨q1, q2⟩ := (pre v).mp h2
            rcases w4 with ⟨y, y1, y2⟩ | ⟨y1, y2⟩
            · rw [y2]
              exact (ha y y1).2.2.2 v h1 q1
            · exact ⟨i, hi, fun k hk => (y1 k hk).trans (q1 k hk).symm, by rw [q2, dg_chc]; exact y2⟩)
          have imp := b5 _ w1
          refine ⟨w', b1, b2, fun v h1 h2 h3 h4 => ?_, ?_, fun x hx => ?_⟩
          · by_cases q : dg (rG r) (v i) = c
            · exact b3 v h1 ((pre v).mpr ⟨h2, dgc v h1 q⟩) h4
            · rcases imp with e | e
              · rw [e] at h4
                exact w3 v h1 h2 (by omega) h4
              · exact w3 v h1 h2 (by omega) (bt_tr h4 e)
          · rcases b4 with ⟨y, y1, y2⟩ | b4
            · rw [w1] at y1
              cases y1
              rw [y2]
              rcases w4 with w4 | ⟨w4, w6⟩
              · exact .inl w4
              · refine .inr ⟨w4, ?_⟩
                show dg (rG r) (w i) < c + 1
                omega
            · right
              obtain ⟨q1, q2⟩ := (pre w').mp b4
              exact ⟨q1, by rw [q2, dg_chc]; omega⟩
          · rcases imp with e | e
            · rw [e]; exact w5 x hx
            · rcases w5 x hx with e2 | e2
              · rw [← e2]; exact .inr e
              · exact .inr (bt_tr e e2)
    rcases key (rG r + 1) (Nat.le_refl _) with ⟨c0, _⟩ | ⟨_, w, w1, w2, w3, w4, w5⟩
    · omega
    · refine ⟨w, ?_, w2, fun v h1 h2 => w3 v h1 h2 ?_, ?_, w5⟩
      · rw [gwk, hI]; exact w1
      · have := (chc_dg (h1 i hi)).2
        omega
      · rcases w4 with w4 | w4
        · exact .inl w4
        · exact .inr w4.1
theorem aW_ok {r : sR} {s : sS} (hr : vR r) : ∃ w, (aW r s).1 = some (inT r s w, mvs (rW r) w, w) ∧ vW r w ∧ ∀ v, vW r v → ¬ bt r s v w := by
  obtain ⟨w, w1, w2, w3, _, _⟩ := gwk_ok (s := s) hr (rW r) (fun _ => none) (none, 0) (Nat.le_refl _) (fun k hk g hg => by cases hg) (fun x hx => by cases hx)
  exact ⟨w, w1, w2, fun v hv => w3 v hv (fun k hk => by omega)⟩
/-! how many are good -/
def smN (g : Nat → Nat) : Nat → Nat
  | 0 => 0
  | n + 1 => smN g n + g n
def gdf (r : sR) (s : sS) (wk : Nat → Option Nat) : Nat := if inT r s wk = errs r then 1 else 0
def Sm (r : sR) (f : (Nat → Option Nat) → Nat) : List Nat → (Nat → Option Nat) → Nat
  | [], wk => f wk
  | k :: L, wk => smN (fun c => Sm r f L (va_up wk k (chc (rG r) c))) (rG r + 1)
def ixl (W : Nat) : Nat → List Nat
  | 0 => []
  | m + 1 => (W - (m + 1)) :: ixl W m
theorem smN_cg {f g : Nat → Nat} : ∀ {n : Nat}, (∀ c, c < n → f c = g c) → smN f n = smN g n
  | 0, _ => rfl
  | n + 1, h => by rw [smN, smN, smN_cg (fun c hc => h c (by omega)), h n (by omega)]
theorem gwk_c {r : sR} {s : sS} : ∀ m wk (a : sA), (gwk r s m wk a).2 = a.2 + Sm r (gdf r s) (ixl (rW r) m) wk
  | 0, wk, a => rfl
  | m + 1, wk, a => by
    have key : ∀ c, ((List.range c).foldl (fun a c => gwk r s m (va_up wk (rW r - (m + 1)) (chc (rG r) c)) a) a).2 = a.2 + smN (fun c => Sm r (gdf r s) (ixl (rW r) m) (va_up wk (rW r - (m + 1)) (chc (rG r) c))) c := by
      intro c
      induction c with
      | zero => rfl
      | succ c ih => rw [fl_s, gwk_c m, ih, smN, Nat.add_assoc]
    rw [gwk, key]
    rfl
/-! the reference's search -/
theorem n_errandsMany {h : am_H} {r : sR} {s : sS} (V : mV (h.2.1 137) r s) : f_Mod_errandsMany h = some (nI (errs r)) := by
  have hP := V.hP
  obtain ⟨c, f1, f2⟩ := lpc2 (fun m (a1 : Int32) (a2 : Int32) => f_Mod_errandsMany_L4 m a1 a2 h) (rP r)
    (fun t a1 a2 => a1 = nI (cnt (fun p => (rTo r p).isSome) t) ∧ a2 = nI t) (fun c => c.1 = nI (errs r))
    (fun m t a1 a2 ht hI => by
      obtain ⟨rfl, rfl⟩ := hI
      have e00 : ∀ n, nI n + (0 : Int32) = nI n := fun n => nI_add n 0
      rw [f_Mod_errandsMany_L4, rd_lit (by decide) (by decide), Option.bind_some, V.p, if_neg (nI_ge ht (by omega)), n_isErrand V ht, Option.bind_some, nI_up, nI_up, e00]
      cases e : (rTo r t).isSome with
      | false => exact ⟨_, _, rfl, by simp [cnt_s, e], rfl⟩
      | true => exact ⟨_, _, rfl, by simp [cnt_s, e], rfl⟩)
    (fun m a1 a2 hI => by
      obtain ⟨rfl, rfl⟩ := hI
      rw [f_Mod_errandsMany_L4, rd_lit (by decide) (by decide), Option.bind_some, V.p, if_pos (nI_le (Nat.le_refl _) (by omega))]
      exact ⟨_, rfl, rfl⟩) (by unfold am_fu; omega) 0 0 ⟨rfl, rfl⟩
  unfold f_Mod_errandsMany
  rw [f1, Option.bind_some, f2]
def mG (h h' : am_H) : Prop := am_ex [136, 137, 144, 145, 146, 152] h h' ∧ (∀ j, j < 29 ∨ 35 ≤ j → h'.2.1 137 j = h.2.1 137 j) ∧ ∀ j, j < 33 ∨ 35 < j → h'.2.1 136 j = h.2.1 136 j
theorem mG.rf {h : am_H} : mG h h := ⟨am_ex.rf, fun _ _ => rfl, fun _ _ => rfl⟩
theorem mG.tr {h h' h'' : am_H} (a : mG h h') (b : mG h' h'') : mG h h'' := ⟨a.1.tr b.1 (fun _ z => z) (fun _ z => z), fun j hj => (b.2.1 j hj).trans (a.2.1 j hj), fun j hj => (b.2.2 j hj).trans (a.2.2 j hj)⟩
theorem mG.s6 {h : am_H} {j : Nat} {x : Int32} (hj : 33 ≤ j ∧ j ≤ 35) : mG h (am_sI h 136 j x) := ⟨am_ex.sI (by decide), fun i _ => by rw [sI_row, if_neg (by decide)], fun i hi => by rw [sI_row, if_pos rfl, up_n (by omega)]⟩
theorem mG.s7 {h : am_H} {j : Nat} {x : Int32} (hj : 29 ≤ j ∧ j < 35) : mG h (am_sI h 137 j x) := ⟨am_ex.sI (by decide), fun i hi => by rw [sI_row, if_pos rfl, up_n (by omega)], fun i _ => by rw [sI_row, if_neg (by decide)]⟩
theorem mG.ex {h h' : am_H} {X : List Nat} (x : am_ex X h h') (hX : ∀ a ∈ X, a = 144 ∨ a = 145 ∨ a = 146 ∨ a = 152) : mG h h' :=
  ⟨x.tr am_ex.rf (Y := []) (fun a ha => by have := hX a ha; simp; omega) (by decide), fun j _ => by rw [x.2.2 137 (fun c => by have := hX _ c; omega)], fun j _ => by rw [x.2.2 136 (fun c => by have := hX _ c; omega)]⟩
def mA (h : am_H) (r : sR) (a : sA) : Prop := (a.1 = none → h.2.1 136 33 = -1) ∧ (∀ x, a.1 = some x → (x.1 ≤ 5 ∧ x.2.1 ≤ 6) ∧ h.2.1 136 33 = nI x.1 ∧ h.2.1 136 34 = nI x.2.1 ∧ ∀ k, k < rW r → h.2.1 152 k = oI (x.2.2 k)) ∧ h.2.1 136 35 = nI a.2
theorem mvs_le {r : sR} {w : Nat → Option Nat} (hr : vR r) : mvs (rW r) w ≤ 6 := Nat.le_trans (cnt_le _ _) hr.2.1.2
theorem n_lw69 {h : am_H} {r : sR} {s : sS} {v1 v2 : Int32} (V : mV (h.2.1 137) r s) : ∃ y h', f_Mod_laysWeek_L69 am_fu v1 v2 0 h = some (y, h') ∧ am_ex [152] h h' ∧ ∀ k, k < rW r → h'.2.1 152 k = oI (sW s k) := by
  have hW := V.hW
  obtain ⟨c, f1, f2, f3⟩ := lpc2 (fun m (a1 : Int32) (a2 : am_H) => f_Mod_laysWeek_L69 m v1 v2 a1 a2) (rW r)
    (fun t a1 a2 => a1 = nI t ∧ am_ex [152] h a2 ∧ ∀ k, k < t → a2.2.1 152 k = oI (sW s k))
    (fun c => am_ex [152] h c.2 ∧ ∀ k, k < rW r → c.2.2.1 152 k = oI (sW s k))
    (fun m t a1 a2 ht hI => by
      obtain ⟨rfl, x1, r1⟩ := hI
      have V2 := V.ex x1 (by decide)
      have e29 : (29 : Int32) + nI t = nI (29 + t) := nI_add 29 t
      rw [f_Mod_laysWeek_L69, rd_lit (by decide) (by decide), Option.bind_some, V2.w, if_neg (nI_ge ht (by omega)), e29, n_rd (by omega) (by decide), Option.bind_some, V2.wk ht, n_wr (by omega) (by decide), Option.bind_some]
      refine ⟨_, _, rfl, nI_up, x1.tr (am_ex.sI (X := [152]) (by decide)) (fun _ z => z) (fun _ z => z), fun k hk => ?_⟩
      rw [sI_row, if_pos rfl]
      by_cases c : k = t
      · subst c; rw [up_s]
      · rw [up_n c]; exact r1 k (by omega))
    (fun m a1 a2 hI => by
      obtain ⟨rfl, x1⟩ := hI
      have V2 := V.ex x1.1 (by decide)
      rw [f_Mod_laysWeek_L69, rd_lit (by decide) (by decide), Option.bind_some, V2.w, if_pos (nI_le (Nat.le_refl _) (by omega))]
      exact ⟨_, rfl, x1⟩) (by unfold am_fu; omega) 0 h ⟨rfl, am_ex.rf, fun k hk => by omega⟩
  obtain ⟨c1, c2⟩ := c
  exact ⟨c1, c2, f1, f2, f3⟩
theorem n_laysWeek {h : am_H} {r : sR} {s : sS} {wk : Nat → Option Nat} {a : sA} (V : mV (h.2.1 137) r (sWk s wk)) (K : mK r h) (A : mA h r a) :
    ∃ h', f_Mod_laysWeek h = some h' ∧ mG h h' ∧ mA h' r (lay r s wk a) ∧ h'.2.1 137 = h.2.1 137 := by
  have hr := V.1
  have hle := inT_le (s := s) (wk := wk) hr
  have hml := mvs_le (w := wk) hr
  obtain ⟨h1, c1, c2⟩ := n_inTimeMany V K
  rw [inT_w] at c1
  have c1' : f_Mod_inTimeMany h = some (nI (inT r s wk), h1) := c1
  have V1 := V.ex c2 (by decide)
  have G1 : mG h h1 := mG.ex c2 (by decide)
  have m2 : f_Mod_movesNow h1 = some (nI (mvs (rW r) wk)) := n_movesNow V1
  have e2 := n_errandsMany V1
  have hel : errs r ≤ 5 := Nat.le_trans (cnt_le _ _) hr.2.2.1
  obtain ⟨A1, A2, A3⟩ := A
  have r6 : h1.2.1 136 = h.2.1 136 := c2.2.2 136 (by decide)
  have hsum : h1.2.1 136 35 + (if nI (inT r s wk) = nI (errs r) then (1 : Int32) else (0 : Int32)) = nI (lay r s wk a).2 := by
    rw [r6, A3]
    unfold lay
    by_cases c : inT r s wk = errs r
    · rw [if_pos (by rw [c]), if_pos c]; exact nI_up
    · rw [if_neg (fun q => c ((nI_eq (by omega) (by omega)).mp q)), if_neg c]; exact nI_add _ 0
  unfold f_Mod_laysWeek
  rw [c1', Option.bind_some]
  simp only
  rw [m2, Option.bind_some, e2, Option.bind_some]
  simp only [am_let]
  rw [hsum]
  generalize hN : (lay r s wk a).2 = N at *
  have G2 : mG h (am_sI h1 136 35 (nI N)) := G1.tr (mG.s6 (by omega))
  have b33 : (am_sI h1 136 35 (nI N)).2.1 136 33 = h.2.1 136 33 := by rw [sI_row, if_pos rfl, up_n (by decide), r6]
  have b34 : (am_sI h1 136 35 (nI N)).2.1 136 34 = h.2.1 136 34 := by rw [sI_row, if_pos rfl, up_n (by decide), r6]
  have r137 : (am_sI h1 136 35 (nI N)).2.1 137 = h.2.1 137 := by rw [sI_row, if_neg (by decide), c2.2.2 137 (by decide)]
  rw [b33, b34]
  -- the week is laid
  have rep : (lay r s wk a).1 = some (inT r s wk, mvs (rW r) wk, wk) → ∃ h', ((f_Mod_laysWeek_L69 am_fu (nI (inT r s wk)) (nI (mvs (rW r) wk)) 0 (am_sI (am_sI (am_sI h1 136 35 (nI N)) 136 33 (nI (inT r s wk))) 136 34 (nI (mvs (rW r) wk)))).bind fun q => some q.2) = some h' ∧ mG h h' ∧ mA h' r (lay r s wk a) ∧ h'.2.1 137 = h.2.1 137 := fun hl => by
    have G3 : mG h (am_sI (am_sI (am_sI h1 136 35 (nI N)) 136 33 (nI (inT r s wk))) 136 34 (nI (mvs (rW r) wk))) := (G2.tr (mG.s6 (by omega))).tr (mG.s6 (by omega))
    have r137' : (am_sI (am_sI (am_sI h1 136 35 (nI N)) 136 33 (nI (inT r s wk))) 136 34 (nI (mvs (rW r) wk))).2.1 137 = h.2.1 137 := by rw [sI_row, if_neg (by decide), sI_row, if_neg (by decide)]; exact r137
    have V3 : mV ((am_sI (am_sI (am_sI h1 136 35 (nI N)) 136 33 (nI (inT r s wk))) 136 34 (nI (mvs (rW r) wk))).2.1 137) r (sWk s wk) := by rw [r137']; exact V
    obtain ⟨y, h4, d1, d2, d3⟩ := n_lw69 (v1 := nI (inT r s wk)) (v2 := nI (mvs (rW r) wk)) V3
    have r136 : h4.2.1 136 = (am_sI (am_sI (am_sI h1 136 35 (nI N)) 136 33 (nI (inT r s wk))) 136 34 (nI (mvs (rW r) wk))).2.1 136 := d2.2.2 136 (by decide)
    rw [d1, Option.bind_some]
    refine ⟨h4, rfl, G3.tr (mG.ex d2 (by decide)), ⟨(fun q => by rw [hl] at q; cases q), fun x hx => ?_, ?_⟩, by rw [d2.2.2 137 (by decide)]; exact r137'⟩
    · rw [hl] at hx
      cases hx
      refine ⟨⟨hle, hml⟩, ?_, ?_, d3⟩
      · rw [r136, sI_row, if_pos rfl, up_n (by decide), sI_row, if_pos rfl, up_s]
      · rw [r136, sI_row, if_pos rfl, up_s]
    · rw [r136, sI_row, if_pos rfl, up_n (by decide), sI_row, if_pos rfl, up_n (by decide), sI_row, if_pos rfl, up_s, hN]
  cases e : a.1 with
  | none =>
    have hl : (lay r s wk a).1 = some (inT r s wk, mvs (rW r) wk, wk) := by unfold lay; rw [e]
    rw [A1 e, if_neg (show ¬ nI (inT r s wk) < (-1 : Int32) from fun q => absurd (Int32.lt_trans q (by decide)) (nI_pos (by omega))), if_neg (nI_nm1 (by omega))]
    exact rep hl
  | some x =>
    obtain ⟨⟨x1, x2⟩, x3, x4, x5⟩ := A2 x e
    rw [x3, x4]
    obtain ⟨bn, bm, bw⟩ := x
    simp only at x1 x2 x3 x4 x5 ⊢
    have keep : (inT r s wk < bn ∨ inT r s wk = bn ∧ bm ≤ mvs (rW r) wk) → mA (am_sI h1 136 35 (nI N)) r (lay r s wk a) := fun hc => by
      have hl : (lay r s wk a).1 = some (bn, bm, bw) := by unfold lay; rw [e]; simp only; rw [if_pos hc]
      refine ⟨(fun q => by rw [hl] at q; cases q), fun x hx => ?_, ?_⟩
      · rw [hl] at hx
        cases hx
        refine ⟨⟨x1, x2⟩, by rw [b33]; exact x3, by rw [b34]; exact x4, fun k hk => ?_⟩
        rw [sI_row, if_neg (by decide), c2.2.2 152 (by decide)]
        exact x5 k hk
      · rw [sI_row, if_pos rfl, up_s, hN]
    have hrep : ¬ (inT r s wk < bn ∨ inT r s wk = bn ∧ bm ≤ mvs (rW r) wk) → (lay r s wk a).1 = some (inT r s wk, mvs (rW r) wk, wk) := fun hc => by
      unfold lay; rw [e]; simp only; rw [if_neg hc]
    by_cases z1 : inT r s wk < bn
    · rw [if_pos (nI_lt z1 (by omega))]
      exact ⟨_, rfl, G2, keep (.inl z1), r137⟩
    · rw [if_neg (nI_nlt (by omega) (by omega))]
      by_cases z2 : inT r s wk = bn
      · rw [if_pos (by rw [z2])]
        by_cases z3 : mvs (rW r) wk < bm
        · rw [if_pos (nI_lt z3 (by omega))]
          exact rep (hrep (by omega))
        · rw [if_neg (nI_nlt (by omega) (by omega))]
          exact ⟨_, rfl, G2, keep (.inr ⟨z2, by omega⟩), r137⟩
      · rw [if_neg (fun q => z2 ((nI_eq (by omega) (by omega)).mp q))]
        exact rep (hrep (by omega))
theorem gw_ok {h0 : am_H} {r : sR} {s : sS} (V0 : mV (h0.2.1 137) r s) : ∀ m n wk (a : sA) h, m < n → m ≤ rW r → vW r wk → mG h0 h → mK r h → mA h r a → (∀ k, k < rW r - m → h.2.1 137 (29 + k) = oI (wk k)) →
    ∃ h', f_Gw n 0 (nI (rW r - m)) h = some h' ∧ mG h0 h' ∧ mK r h' ∧ mA h' r (gwk r s m wk a) ∧ ∀ k, k < rW r - m → h'.2.1 137 (29 + k) = oI (wk k)
  | 0, n, wk, a, h, hn, hm, hv, hG, hK, hA, hk => by
    obtain ⟨n, rfl⟩ : ∃ q, n = q + 1 := ⟨n - 1, by omega⟩
    have V : mV (h.2.1 137) r (sWk s wk) := V0.wks hG.2.1 hv (fun k hk' => hk k (by omega))
    obtain ⟨h', b1, b2, b3, b4⟩ := n_laysWeek V hK hA
    have e : f_Gw (n + 1) 0 (nI (rW r - 0)) h = b_Mod_goesWeeks (f_Gw n) (nI (rW r - 0)) h := rfl
    refine ⟨h', ?_, hG.tr b2, hK.ex b2.1 (by decide) (by decide) (by decide), b3, fun k hk' => by rw [b4]; exact hk k hk'⟩
    rw [e]
    unfold b_Mod_goesWeeks
    rw [rd_lit (by decide) (by decide), Option.bind_some, V.w, if_pos (by rw [Nat.sub_zero]), b1, Option.bind_some]
  | m + 1, n, wk, a, h, hn, hm, hv, hG, hK, hA, hk => by
    obtain ⟨n, rfl⟩ : ∃ q, n = q + 1 := ⟨n - 1, by omega⟩
    have hr := V0.1
    have hW := V0.hW
    have hG4 := V0.hG
    have w2 : ∀ x, mG h0 x → x.2.1 137 2 = nI (rW r) ∧ x.2.1 137 1 = nI (rG r) := fun x hx => ⟨by rw [hx.2.1 2 (by omega)]; exact V0.w, by rw [hx.2.1 1 (by omega)]; exact V0.g⟩
    have hi : rW r - (m + 1) < rW r := by omega
    generalize hI : rW r - (m + 1) = i at *
    have him : rW r - m = i + 1 := by omega
    have e : f_Gw (n + 1) 0 (nI i) h = b_Mod_goesWeeks (f_Gw n) (nI i) h := rfl
    obtain ⟨c, f1, f2, f3, f4, f5⟩ := lpc2 (fun k (a1 : Int32) (a2 : am_H) => f_Mod_goesWeeks_L17 (f_Gw n) (nI i) k a1 a2) (rG r + 1)
      (fun t a1 a2 => a1 = nI t ∧ mG h0 a2 ∧ mK r a2 ∧ mA a2 r ((List.range t).foldl (fun a c => gwk r s m (va_up wk i (chc (rG r) c)) a) a) ∧ ∀ k, k < i → a2.2.1 137 (29 + k) = oI (wk k))
      (fun c => mG h0 c.2 ∧ mK r c.2 ∧ mA c.2 r ((List.range (rG r + 1)).foldl (fun a c => gwk r s m (va_up wk i (chc (rG r) c)) a) a) ∧ ∀ k, k < i → c.2.2.1 137 (29 + k) = oI (wk k))
      (fun k t a1 a2 ht hI2 => by
        obtain ⟨rfl, i1, i2, i3, i4⟩ := hI2
        have hch : (if nI t = nI (rG r) then (-1 : Int32) else nI t) = oI (chc (rG r) t) := by
          unfold chc
          by_cases c : t = rG r
          · rw [if_pos (by rw [c]), if_pos c]; rfl
          · rw [if_neg (fun q => c ((nI_eq (by omega) (by omega)).mp q)), if_neg c]; rfl
        have e29 : (29 : Int32) + nI i = nI (29 + i) := nI_add 29 i
        have g7 : mG h0 (am_sI a2 137 (29 + i) (oI (chc (rG r) t))) := i1.tr (mG.s7 (by omega))
        have k7 : mK r (am_sI a2 137 (29 + i) (oI (chc (rG r) t))) := i2.ex (am_ex.sI (X := [137]) (by decide)) (by decide) (by decide) (by decide)
        have a7 : mA (am_sI a2 137 (29 + i) (oI (chc (rG r) t))) r ((List.range t).foldl (fun a c => gwk r s m (va_up wk i (chc (rG r) c)) a) a) := by
          unfold mA at i3 ⊢
          rw [sI_row, if_neg (by decide), sI_row, if_neg (by decide)]
          exact i3
        obtain ⟨h8, b1, b2, b3, b4, b5⟩ := gw_ok V0 m n (va_up wk i (chc (rG r) t)) _ (am_sI a2 137 (29 + i) (oI (chc (rG r) t))) (by omega) (by omega) (hv.up (chc_v (by omega))) g7 k7 a7 (fun k hk => by
          rw [sI_row, if_pos rfl]
          by_cases z : k = i
          · rw [z, up_s, up_s]
          · rw [up_n (by omega), up_n z]; exact i4 k (by omega))
        rw [him] at b1 b5
        have b1' : f_Gw n 0 (nI i + 1) (am_sI a2 137 (29 + i) (oI (chc (rG r) t))) = some h8 := by rw [nI_up]; exact b1
        rw [f_Mod_goesWeeks_L17, rd_lit (by decide) (by decide), Option.bind_some, (w2 a2 i1).2, if_neg (nI_nlt (by omega) (by omega)), Option.bind_some, hch, e29, n_wr (by omega) (by decide), Option.bind_some, b1', Option.bind_some]
        refine ⟨_, _, rfl, nI_up, b2, b3, ?_, fun k hk => ?_⟩
        · rw [fl_s]; exact b4
        · rw [b5 k (by omega), up_n (by omega)])
      (fun k a1 a2 hI2 => by
        obtain ⟨rfl, i1, i2⟩ := hI2
        rw [f_Mod_goesWeeks_L17, rd_lit (by decide) (by decide), Option.bind_some, (w2 a2 i1).2, if_pos (nI_lt (by omega) (by omega))]
        exact ⟨_, rfl, i1, i2⟩) (by unfold am_fu; omega) 0 h ⟨rfl, hG, hK, hA, hk⟩
    refine ⟨c.2, ?_, f2, f3, ?_, f5⟩
    · rw [e]
      unfold b_Mod_goesWeeks
      rw [rd_lit (by decide) (by decide), Option.bind_some, (w2 h hG).1, if_neg (fun q => by have := (nI_eq (by omega) (by omega)).mp q; omega), f1, Option.bind_some]
    · rw [gwk, hI]; exact f4
theorem n_laysWeeks {h : am_H} {r : sR} {s : sS} (V : mV (h.2.1 137) r s) : ∃ h', f_Mod_laysWeeks h = some h' ∧ mA h' r (aW r s) ∧ h'.2.1 137 = h.2.1 137 ∧ am_ex [136, 137, 141, 142, 144, 145, 146, 151, 152, 153, 154, 155] h h' ∧ ∀ j, j < 33 ∨ 35 < j → h'.2.1 136 j = h.2.1 136 j := by
  have hr := V.1
  have hW := V.hW
  obtain ⟨h1, c1, c2, c3⟩ := n_keepsLets V
  have V1 := V.ex c2 (by decide)
  obtain ⟨b, e1, e2, e3⟩ := lpc2 (fun m (a1 : Int32) (a2 : am_H) => f_Mod_laysWeeks_L6 m a1 a2) 6
    (fun t a1 a2 => a1 = nI t ∧ am_ex [151] h1 a2 ∧ ∀ j, j < t → a2.2.1 151 j = h1.2.1 137 (29 + j))
    (fun b => am_ex [151] h1 b.2 ∧ ∀ j, j < 6 → b.2.2.1 151 j = h1.2.1 137 (29 + j))
    (fun m t a1 a2 ht hI => by
      obtain ⟨rfl, x1, r1⟩ := hI
      have e29 : (29 : Int32) + nI t = nI (29 + t) := nI_add 29 t
      rw [f_Mod_laysWeeks_L6, if_neg (show ¬ (6 : Int32) ≤ nI t from nI_ge (b := 6) ht (by decide)), e29, n_rd (by omega) (by decide), Option.bind_some, n_wr ht (by decide), Option.bind_some]
      refine ⟨_, _, rfl, nI_up, x1.tr (am_ex.sI (X := [151]) (by decide)) (fun _ z => z) (fun _ z => z), fun j hj => ?_⟩
      rw [sI_row, if_pos rfl]
      by_cases c : j = t
      · subst c; rw [up_s, x1.2.2 137 (by decide)]
      · rw [up_n c]; exact r1 j (by omega))
    (fun m a1 a2 hI => by
      obtain ⟨rfl, x1⟩ := hI
      rw [f_Mod_laysWeeks_L6, if_pos (show (6 : Int32) ≤ nI 6 by decide)]
      exact ⟨_, rfl, x1⟩) (by decide) 0 h1 ⟨rfl, am_ex.rf, fun j hj => by omega⟩
  obtain ⟨b1, b2⟩ := b
  simp only at e2 e3
  generalize hh8 : am_sI (am_sI (am_sI b2 136 33 (-1)) 136 34 0) 136 35 0 = h8
  have G8 : mG b2 h8 := by rw [← hh8]; exact ((mG.s6 (by omega)).tr (mG.s6 (by omega))).tr (mG.s6 (by omega))
  have r8 : ∀ a, a ≠ 136 → h8.2.1 a = b2.2.1 a := fun a ha => by rw [← hh8, sI_row, if_neg ha, sI_row, if_neg ha, sI_row, if_neg ha]
  have V8 : mV (h8.2.1 137) r s := by rw [r8 137 (by decide)]; exact V1.ex e2 (by decide)
  have K8 : mK r h8 := (c3.ex e2 (by decide) (by decide) (by decide)).ex G8.1 (by decide) (by decide) (by decide)
  have A8 : mA h8 r (none, 0) := by
    refine ⟨fun _ => ?_, (fun x hx => by cases hx), ?_⟩
    · rw [← hh8, sI_row, if_pos rfl, up_n (by decide), sI_row, if_pos rfl, up_n (by decide), sI_row, if_pos rfl, up_s]
    · rw [← hh8, sI_row, if_pos rfl, up_s]; rfl
  obtain ⟨h9, g1, g2, g3, g4, g5⟩ := gw_ok V8 (rW r) 60 (fun _ => none) (none, 0) h8 (by omega) (Nat.le_refl _) (fun k hk g hg => by cases hg) mG.rf K8 A8 (fun k hk => by omega)
  have g1' : f_Mod_goesWeeks 0 h8 = some h9 := by
    have : rW r - rW r = 0 := Nat.sub_self _
    rw [this] at g1
    exact g1
  obtain ⟨d, f1, f2, f3, f4⟩ := lpc2 (fun m (a1 : Int32) (a2 : am_H) => f_Mod_laysWeeks_L55 m a1 a2) 6
    (fun t a1 a2 => a1 = nI t ∧ am_ex [137] h9 a2 ∧ (∀ j, j < 29 ∨ 35 ≤ j → a2.2.1 137 j = h9.2.1 137 j) ∧ ∀ j, j < t → a2.2.1 137 (29 + j) = h9.2.1 151 j)
    (fun d => am_ex [137] h9 d.2 ∧ (∀ j, j < 29 ∨ 35 ≤ j → d.2.2.1 137 j = h9.2.1 137 j) ∧ ∀ j, j < 6 → d.2.2.1 137 (29 + j) = h9.2.1 151 j)
    (fun m t a1 a2 ht hI => by
      obtain ⟨rfl, x1, r1, r2⟩ := hI
      have e29 : (29 : Int32) + nI t = nI (29 + t) := nI_add 29 t
      rw [f_Mod_laysWeeks_L55, if_neg (show ¬ (6 : Int32) ≤ nI t from nI_ge (b := 6) ht (by decide)), n_rd ht (by decide), Option.bind_some, e29, n_wr (by omega) (by decide), Option.bind_some]
      refine ⟨_, _, rfl, nI_up, x1.tr (am_ex.sI (X := [137]) (by decide)) (fun _ z => z) (fun _ z => z), fun j hj => ?_, fun j hj => ?_⟩
      · rw [sI_row, if_pos rfl, up_n (by omega)]; exact r1 j hj
      · rw [sI_row, if_pos rfl]
        by_cases c : j = t
        · subst c; rw [up_s, x1.2.2 151 (by decide)]
        · rw [up_n (by omega)]; exact r2 j (by omega))
    (fun m a1 a2 hI => by
      obtain ⟨rfl, x1⟩ := hI
      rw [f_Mod_laysWeeks_L55, if_pos (show (6 : Int32) ≤ nI 6 by decide)]
      exact ⟨_, rfl, x1⟩) (by decide) 0 h9 ⟨rfl, am_ex.rf, fun _ _ => rfl, fun j hj => by omega⟩
  have r137 : d.2.2.1 137 = h.2.1 137 := by
    funext j
    by_cases q : j < 29 ∨ 35 ≤ j
    · rw [f3 j q, g2.2.1 j q, r8 137 (by decide), e2.2.2 137 (by decide), c2.2.2 137 (by decide)]
    · have := f4 (j - 29) (by omega)
      rw [show 29 + (j - 29) = j by omega] at this
      rw [this, g2.1.2.2 151 (by decide), r8 151 (by decide), e3 (j - 29) (by omega), show 29 + (j - 29) = j by omega, c2.2.2 137 (by decide)]
  have XX : am_ex [136, 137, 141, 142, 144, 145, 146, 151, 152, 153, 154, 155] h d.2 := (((c2.tr e2 (Z := [136, 137, 141, 142, 144, 145, 146, 151, 152, 153, 154, 155]) (by decide) (by decide)).tr G8.1 (fun _ z => z) (by decide)).tr g2.1 (fun _ z => z) (by decide)).tr f2 (fun _ z => z) (by decide)
  have r136 : d.2.2.1 136 = h9.2.1 136 := f2.2.2 136 (by decide)
  refine ⟨d.2, ?_, ?_, r137, XX, fun j hj => ?_⟩
  · unfold f_Mod_laysWeeks
    simp only [am_let]
    rw [c1, Option.bind_some, e1, Option.bind_some]
    simp only
    rw [hh8, g1', Option.bind_some, f1, Option.bind_some]
  · have g4' : mA h9 r (aW r s) := g4
    unfold mA at g4' ⊢
    rw [r136, f2.2.2 152 (by decide)]
    exact g4'
  · rw [r136, g2.2.2 j hj, G8.2.2 j hj, e2.2.2 136 (by decide), c2.2.2 136 (by decide)]
theorem laysWeeks_ke {h h' : am_H} (x : am_ex [136, 137, 141, 142, 144, 145, 146, 151, 152, 153, 154, 155] h h') (e : h'.2.1 137 = h.2.1 137) (e6 : ∀ j, j < 33 ∨ 35 < j → h'.2.1 136 j = h.2.1 136 j) : keM h h' :=
  ⟨x.frM (by decide), fun a ha => by
    by_cases c : a = 137
    · rw [c]; exact e
    · exact x.2.2 a (by simp; omega), by rw [x.2.1], e6 5 (by omega), e6 13 (by omega), e6 14 (by omega)⟩
