-- deps: 73.eval 74.wrd 75.tok 76.next 77.cut 78.prs
/-! ===== both readers put codes ===== -/
def lwv (o : Nat) (h : am_H) : Prop := am_rf h 61 7 = o ∧ ∃ s, s ≤ 900 ∧ h.2.1 o 1 = nI s
def fC (o : Nat) (h h' : am_H) : Prop := am_ex [61, o, o + 1] h h' ∧ h'.2.1 o 0 = h.2.1 o 0
def fM (h h' : am_H) : Prop := am_ex [136, 140] h h' ∧ (∀ j, j < 6 ∨ j = 8 ∨ 13 ≤ j → h'.2.1 136 j = h.2.1 136 j) ∧ (∀ j, j < 236 → h'.2.1 140 j = h.2.1 140 j)
theorem fC.rf {o : Nat} {h : am_H} : fC o h h := ⟨am_ex.rf, rfl⟩
theorem fC.tr {o : Nat} {h h' h'' : am_H} (a : fC o h h') (b : fC o h' h'') : fC o h h'' := ⟨a.1.tr b.1 (fun _ z => z) (fun _ z => z), b.2.trans a.2⟩
theorem fC.o1 {o : Nat} {h h' : am_H} (ho : 75 ≤ o) (a : am_ex [61] h h') : fC o h h' := ⟨am_ex.tr (Y := [61]) a am_ex.rf (fun x z => by rw [List.mem_singleton] at z; rw [z]; exact List.mem_cons_self) (fun x z => by rw [List.mem_singleton] at z; rw [z]; exact List.mem_cons_self), by rw [a.2.2 o (by simp; omega)]⟩
theorem fM.rf {h : am_H} : fM h h := ⟨am_ex.rf, fun _ _ => rfl, fun _ _ => rfl⟩
theorem fM.tr {h h' h'' : am_H} (a : fM h h') (b : fM h' h'') : fM h h'' := ⟨a.1.tr b.1 (fun _ z => z) (fun _ z => z), fun j q => (b.2.1 j q).trans (a.2.1 j q), fun j q => (b.2.2 j q).trans (a.2.2 j q)⟩
theorem nw8.fM {h h' : am_H} (a : nw8 h h') : fM h h' := ⟨am_ex.tr (Y := [136]) a.1 am_ex.rf (fun x z => by rw [List.mem_singleton] at z; rw [z]; decide) (fun x z => by rw [List.mem_singleton] at z; rw [z]; decide), a.2, fun j _ => by rw [a.row (by decide)]⟩
/-- the law that is being read: s codes, from code frm on -/
def LC (law frm s : Nat) (hc hm : am_H) : Prop := am_rf hc 61 7 = 75 + 4 * law ∧ hc.2.1 (75 + 4 * law) 1 = nI s ∧ hm.2.1 140 236 = nI (frm + s) ∧ (∀ j, j < s → hc.2.1 (75 + 4 * law + 1) j = mpc (hm.2.1 140 (237 + frm + j))) ∧ hm.2.1 136 15 = nI law
theorem rf_ex {X : List Nat} {h h' : am_H} (x : am_ex X h h') (o j : Nat) : am_rf h' o j = am_rf h o j := by unfold am_rf; rw [x.2.1]
theorem lwv.k {o : Nat} {h h' : am_H} (ho : 75 ≤ o) (L : lwv o h) (a : am_ex [61] h h') : lwv o h' := by
  obtain ⟨l1, s, l2, l3⟩ := L
  exact ⟨by rw [rf_ex a]; exact l1, s, l2, by rw [a.2.2 o (by simp; omega)]; exact l3⟩
theorem LC.k {law frm s : Nat} {hc hm hc' hm' : am_H} (L : LC law frm s hc hm) (a : am_ex [61] hc hc') (b : nw8 hm hm') : LC law frm s hc' hm' := by
  unfold LC at L ⊢
  rw [rf_ex a, a.2.2 (75 + 4 * law) (by simp; omega), a.2.2 (75 + 4 * law + 1) (by simp; omega), b.row (show 140 ≠ 136 by decide), b.2 15 (by omega)]
  exact L
theorem LC.v {law frm s : Nat} {hc hm : am_H} (L : LC law frm s hc hm) (h : s ≤ 900) : lwv (75 + 4 * law) hc := ⟨L.1, s, h, L.2.1⟩
theorem putF {o : Nat} {h : am_H} (ho : 75 ≤ o) (L : lwv o h) (c : Int32) : ∃ h', f_Law_put (am_rf h 61 7) c h = some h' ∧ lwv o h' ∧ fC o h h' ∧ h'.2.1 61 = h.2.1 61 := by
  obtain ⟨l1, s, l2, l3⟩ := L
  unfold f_Law_put
  simp only [am_let]
  rw [l1, l3]
  by_cases d : s = 900
  · subst d
    rw [if_pos (show Int32.ofNat 900 ≤ nI 900 from nI_le (a := 900) (by omega) (by omega))]
    exact ⟨h, rfl, ⟨l1, 900, by omega, l3⟩, fC.rf, rfl⟩
  · rw [if_neg (show ¬ Int32.ofNat 900 ≤ nI s from nI_ge (b := 900) (by omega) (by decide)), n_wr (by omega) (by decide), Option.bind_some]
    have e1 : (am_sI h (o + 1) s c).2.1 o 1 = nI s := by rw [sI_row, if_neg (by omega)]; exact l3
    rw [e1, nI_up]
    refine ⟨_, rfl, ⟨l1, s + 1, by omega, by rw [sI_row, if_pos rfl, up_s]⟩, ⟨(am_ex.sI (by simp)).tr (am_ex.sI (X := [61, o, o + 1]) (by simp)) (fun _ z => z) (fun _ z => z), ?_⟩, ?_⟩
    · rw [sI_row, if_pos rfl, up_n (by decide), sI_row, if_neg (by omega)]
    · rw [sI_row, if_neg (by omega), sI_row, if_neg (by omega)]
theorem mF_codes {hc hm : am_H} (j : Jf hc hm) (x : Int32) : f_Mod_codes x hm = some hm := by
  unfold f_Mod_codes
  rw [if_neg j.ne]
theorem putO {B : Nat → Nat} {n M i law frm s : Nat} {hc hm : am_H} (hlaw : law < 2) (j : Jo B n M i hc hm) (L : LC law frm s hc hm) (hb : frm + s < 900) (c : Int32) : ∃ hc' hm', f_Law_put (am_rf hc 61 7) (mpc c) hc = some hc' ∧ f_Mod_codes c hm = some hm' ∧ fC (75 + 4 * law) hc hc' ∧ fM hm hm' ∧ Jo B n M i hc' hm' ∧ LC law frm (s + 1) hc' hm' ∧ (∀ q, q < frm + s → hm'.2.1 140 (237 + q) = hm.2.1 140 (237 + q)) ∧ hm'.2.1 140 (237 + frm + s) = c := by
  have m2 := j.2.2.2.1
  obtain ⟨l1, l2, l3, l4, l5⟩ := L
  unfold f_Law_put f_Mod_codes
  simp only [am_let]
  have e236 : am_rd (hm.2.1 140) 1137 (236 : Int32) = some (nI (frm + s)) := by rw [← l3]; exact n_rd (i := 236) (by decide) (by decide)
  have e237 : (237 : Int32) + nI (frm + s) = nI (237 + frm + s) := by rw [Nat.add_assoc]; exact nI_add 237 (frm + s)
  rw [l1, l2, if_neg (show ¬ Int32.ofNat 900 ≤ nI s from nI_ge (b := 900) (by omega) (by decide)), n_wr (by omega) (by decide), Option.bind_some, if_pos m2, e236, Option.bind_some, e237, n_wr (by omega) (by decide), Option.bind_some]
  have e1 : (am_sI hc (75 + 4 * law + 1) s (mpc c)).2.1 (75 + 4 * law) 1 = nI s := by rw [sI_row, if_neg (by omega)]; exact l2
  have e2 : am_rd ((am_sI hm 140 (237 + frm + s) c).2.1 140) 1137 (236 : Int32) = some (nI (frm + s)) := by
    rw [sI_row, if_pos rfl]
    refine (n_rd (i := 236) (by decide) (by decide)).trans ?_
    rw [up_n (by omega), l3]
  have e3 : ∀ h x, am_wr h 140 1137 (236 : Int32) x = some (am_sI h 140 236 x) := fun h x => n_wr (i := 236) (by decide) (by decide)
  rw [e1, nI_up, e2, Option.bind_some, e3, Option.bind_some, nI_up]
  refine ⟨_, _, rfl, rfl, ⟨(am_ex.sI (by simp)).tr (am_ex.sI (X := [61, 75 + 4 * law, 75 + 4 * law + 1]) (by simp)) (fun _ z => z) (fun _ z => z), ?_⟩, ⟨(am_ex.sI (by decide)).tr (am_ex.sI (X := [136, 140]) (by decide)) (fun _ z => z) (fun _ z => z), ?_, ?_⟩, ?_, ⟨l1, ?_, ?_, ?_, ?_⟩, ?_, ?_⟩
  · rw [sI_row, if_pos rfl, up_n (by decide), sI_row, if_neg (by omega)]
  · intro q _
    rw [sI_row, if_neg (by decide), sI_row, if_neg (by decide)]
  · intro q hq
    rw [sI_row, if_pos rfl, up_n (by omega), sI_row, if_pos rfl, up_n (by omega)]
  · refine j.cg ?_ ?_ ?_ ?_
    · rw [sI_row, if_neg (by omega), sI_row, if_neg (by omega)]
    · intro a h1 h2
      rw [sI_row, if_neg (by omega), sI_row, if_neg (by omega)]
    · intro q _
      rw [sI_row, if_neg (by decide), sI_row, if_neg (by decide)]
    · rw [sI_row, if_neg (by decide), sI_row, if_neg (by decide)]
  · rw [sI_row, if_pos rfl, up_s]
  · rw [sI_row, if_pos rfl, up_s, Nat.add_assoc]
  · intro q hq
    have c1 : (am_sI (am_sI hc (75 + 4 * law + 1) s (mpc c)) (75 + 4 * law) 1 (nI (s + 1))).2.1 (75 + 4 * law + 1) q = va_up (hc.2.1 (75 + 4 * law + 1)) s (mpc c) q := by rw [sI_row, if_neg (by omega), sI_row, if_pos rfl]
    have c2 : (am_sI (am_sI hm 140 (237 + frm + s) c) 140 236 (nI (frm + s + 1))).2.1 140 (237 + frm + q) = va_up (hm.2.1 140) (237 + frm + s) c (237 + frm + q) := by rw [sI_row, if_pos rfl, up_n (by omega), sI_row, if_pos rfl]
    rw [c1, c2]
    by_cases d : q = s
    · subst d
      rw [up_s, up_s]
    · rw [up_n d, up_n (by omega)]
      exact l4 q (by omega)
  · rw [sI_row, if_neg (by decide), sI_row, if_neg (by decide)]
    exact l5
  · intro q hq
    rw [sI_row, if_pos rfl, up_n (by omega), sI_row, if_pos rfl, up_n (by omega)]
  · rw [sI_row, if_pos rfl, up_n (by omega), sI_row, if_pos rfl, up_s]
/-! ===== codes as they are put ===== -/
theorem tyc_app {m : Int32} : ∀ (a b : List Int32) (τ : List Bool), tyc m (a ++ b) τ = (tyc m a τ).bind (tyc m b)
  | [], b, τ => rfl
  | c :: a, b, τ => by
    rw [List.cons_append]
    unfold tyc
    by_cases c1 : c < 3000
    · rw [if_pos c1, if_pos c1]
      by_cases c2 : 0 ≤ c ∧ c < m ∧ τ.length < 64
      · rw [if_pos c2, if_pos c2]
        exact tyc_app a b _
      · rw [if_neg c2, if_neg c2]
        rfl
    · rw [if_neg c1, if_neg c1]
      by_cases c2 : c = 3006
      · rw [if_pos c2, if_pos c2]
        match τ with
        | true :: q => exact tyc_app a b _
        | false :: q => rfl
        | [] => rfl
      · rw [if_neg c2, if_neg c2]
        by_cases c3 : c = 3007 ∨ c = 3008
        · rw [if_pos c3, if_pos c3]
          match τ with
          | true :: true :: q => exact tyc_app a b _
          | true :: false :: q => rfl
          | [true] => rfl
          | false :: q => rfl
          | [] => rfl
        · rw [if_neg c3, if_neg c3]
          by_cases c4 : c = 3003 ∨ c = 3004 ∨ c = 3005
          · rw [if_pos c4, if_pos c4]
            match τ with
            | false :: false :: q => exact tyc_app a b _
            | false :: true :: q => rfl
            | [false] => rfl
            | true :: q => rfl
            | [] => rfl
          · rw [if_neg c4, if_neg c4]
            by_cases c5 : c = 3000 ∨ c = 3001 ∨ c = 3002
            · rw [if_pos c5, if_pos c5]
              match τ with
              | false :: false :: q => exact tyc_app a b _
              | false :: true :: q => rfl
              | [false] => rfl
              | true :: q => rfl
              | [] => rfl
            · rw [if_neg c5, if_neg c5]
              rfl
def seg (A : Nat → Int32) (frm s s' : Nat) : List Int32 := cds A (237 + frm + s) (s' - s)
theorem cds_app (A : Nat → Int32) : ∀ (p a q : Nat), cds A a (p + q) = cds A a p ++ cds A (a + p) q
  | 0, a, q => by rw [Nat.zero_add]; rfl
  | p + 1, a, q => by rw [show p + 1 + q = (p + q) + 1 by omega, cds_cons, cds_app A p (a + 1) q, cds_cons, List.cons_append, show a + 1 + p = a + (p + 1) by omega]
theorem cdq_cg {A A' : Nat → Int32} {a p : Nat} (h : ∀ j, a ≤ j → j < a + p → A j = A' j) : cds A a p = cds A' a p := by
  unfold cds
  apply List.map_congr_left
  intro i hi
  rw [List.mem_range] at hi
  exact h (a + i) (by omega) (by omega)
theorem seg_app {A : Nat → Int32} {frm s s1 s2 : Nat} (h1 : s ≤ s1) (h2 : s1 ≤ s2) : seg A frm s s2 = seg A frm s s1 ++ seg A frm s1 s2 := by
  unfold seg
  rw [show s2 - s = (s1 - s) + (s2 - s1) by omega, cds_app, show 237 + frm + s + (s1 - s) = 237 + frm + s1 by omega]
/-- from s codes on: what has been put turns kinds pre into kinds post -/
def PG (B : Nat → Nat) (n M law frm s : Nat) (hm : am_H) (pre post : List Bool) (hd i' s' : Nat) (hc' hm' : am_H) : Prop := Jo B n M i' hc' hm' ∧ LC law frm s' hc' hm' ∧ s ≤ s' ∧ (∀ j, j < frm + s → hm'.2.1 140 (237 + j) = hm.2.1 140 (237 + j)) ∧ ∀ τ : List Bool, τ.length + hd ≤ 64 → tyc (nI (1006 - law)) (seg (hm'.2.1 140) frm s s') (pre ++ τ) = some (post ++ τ)
theorem PG.rf {B : Nat → Nat} {n M law frm s i hd : Nat} {hc hm : am_H} {pre : List Bool} (j : Jo B n M i hc hm) (L : LC law frm s hc hm) : PG B n M law frm s hm pre pre hd i s hc hm :=
  ⟨j, L, Nat.le_refl _, fun _ _ => rfl, fun τ _ => by unfold seg; rw [Nat.sub_self]; rfl⟩
theorem PG.tr {B : Nat → Nat} {n M law frm s s1 s2 i1 i2 hd : Nat} {hm hc1 hm1 hc2 hm2 : am_H} {pre mid post : List Bool} (p : PG B n M law frm s hm pre mid hd i1 s1 hc1 hm1) (q : PG B n M law frm s1 hm1 mid post hd i2 s2 hc2 hm2) : PG B n M law frm s hm pre post hd i2 s2 hc2 hm2 := by
  obtain ⟨p1, p2, p3, p4, p5⟩ := p
  obtain ⟨q1, q2, q3, q4, q5⟩ := q
  refine ⟨q1, q2, Nat.le_trans p3 q3, fun j hj => (q4 j (by omega)).trans (p4 j hj), fun τ hτ => ?_⟩
  have e : seg (hm2.2.1 140) frm s s1 = seg (hm1.2.1 140) frm s s1 := cdq_cg (fun j j1 j2 => by
    have := q4 (j - 237) (by omega)
    rwa [show 237 + (j - 237) = j by omega] at this)
  rw [seg_app p3 q3, tyc_app, e, p5 τ hτ, Option.bind_some]
  exact q5 τ hτ
theorem PG.fr {B : Nat → Nat} {n M law frm s i' s' hd hd' : Nat} {hm hc' hm' : am_H} {pre post : List Bool} (p : PG B n M law frm s hm pre post hd i' s' hc' hm') (x : List Bool) (hx : hd + x.length ≤ hd') : PG B n M law frm s hm (pre ++ x) (post ++ x) hd' i' s' hc' hm' := by
  obtain ⟨p1, p2, p3, p4, p5⟩ := p
  refine ⟨p1, p2, p3, p4, fun τ hτ => ?_⟩
  rw [List.append_assoc, List.append_assoc]
  exact p5 (x ++ τ) (by rw [List.length_append]; omega)
theorem PG.wk {B : Nat → Nat} {n M law frm s i' s' hd hd' : Nat} {hm hc' hm' : am_H} {pre post : List Bool} (p : PG B n M law frm s hm pre post hd i' s' hc' hm') (hx : hd ≤ hd') : PG B n M law frm s hm pre post hd' i' s' hc' hm' := by
  obtain ⟨p1, p2, p3, p4, p5⟩ := p
  exact ⟨p1, p2, p3, p4, fun τ hτ => p5 τ (by omega)⟩
theorem PG.b0 {B : Nat → Nat} {n M law frm s i' s' hd : Nat} {hm hm0 hc' hm' : am_H} {pre post : List Bool} (p : PG B n M law frm s hm pre post hd i' s' hc' hm') (e : hm.2.1 140 = hm0.2.1 140) : PG B n M law frm s hm0 pre post hd i' s' hc' hm' := by
  unfold PG at p ⊢
  rw [← e]
  exact p
theorem PG.av {B : Nat → Nat} {n M law frm s i1 s1 i2 hd : Nat} {hm hc1 hm1 hc2 hm2 : am_H} {pre post : List Bool} (p : PG B n M law frm s hm pre post hd i1 s1 hc1 hm1) (j : Jo B n M i2 hc2 hm2) (a : am_ex [61] hc1 hc2) (b : nw8 hm1 hm2) : PG B n M law frm s hm pre post hd i2 s1 hc2 hm2 := by
  obtain ⟨p1, p2, p3, p4, p5⟩ := p
  have e := b.row (o := 140) (by decide)
  refine ⟨j, p2.k a b, p3, ?_, ?_⟩
  · rw [e]; exact p4
  · rw [e]; exact p5
theorem PG.put {B : Nat → Nat} {n M law frm s i1 s1 hd : Nat} {hm hc1 hm1 : am_H} {pre mid post : List Bool} (hlaw : law < 2) (p : PG B n M law frm s hm pre mid hd i1 s1 hc1 hm1) (hb : frm + s1 < 900) (c : Int32) (hc : ∀ τ : List Bool, τ.length + hd ≤ 64 → tyc (nI (1006 - law)) [c] (mid ++ τ) = some (post ++ τ)) : ∃ hc2 hm2, f_Law_put (am_rf hc1 61 7) (mpc c) hc1 = some hc2 ∧ f_Mod_codes c hm1 = some hm2 ∧ fC (75 + 4 * law) hc1 hc2 ∧ fM hm1 hm2 ∧ PG B n M law frm s hm pre post hd i1 (s1 + 1) hc2 hm2 := by
  obtain ⟨hc2, hm2, a1, a2, a3, a4, a5, a6, a7, a8⟩ := putO hlaw p.1 p.2.1 hb c
  refine ⟨hc2, hm2, a1, a2, a3, a4, p.tr ⟨a5, a6, Nat.le_succ _, a7, fun τ hτ => ?_⟩⟩
  have e : seg (hm2.2.1 140) frm s1 (s1 + 1) = [c] := by
    unfold seg
    rw [Nat.add_sub_cancel_left, cds_cons, a8]
    rfl
  rw [e]
  exact hc τ hτ
/-! ===== what a reading function does on both sides ===== -/
def RS (B : Nat → Nat) (n M law frm : Nat) (ty : Bool) (hd : Nat) (fc fm : am_H → Option am_H) : Prop :=
  (∀ hc hm, Jf hc hm → lwv (75 + 4 * law) hc → ∃ hc' hm', fc hc = some hc' ∧ fm hm = some hm' ∧ Jf hc' hm' ∧ lwv (75 + 4 * law) hc' ∧ fC (75 + 4 * law) hc hc' ∧ fM hm hm') ∧
  (∀ i s hc hm, Jo B n M i hc hm → LC law frm s hc hm → frm + s ≤ i → ∃ hc' hm', fc hc = some hc' ∧ fm hm = some hm' ∧ fC (75 + 4 * law) hc hc' ∧ fM hm hm' ∧ ((Jf hc' hm' ∧ lwv (75 + 4 * law) hc') ∨ ∃ i' s', i < i' ∧ s' + i ≤ s + i' ∧ PG B n M law frm s hm [] [ty] hd i' s' hc' hm'))
/-- a step of a loop on both sides -/
def LSt (B : Nat → Nat) (n M law frm : Nat) (ty : Bool) (hd : Nat) (FC : Nat → Int32 → am_H → Option (Int32 × am_H)) (FM : Nat → am_H → Option am_H) : Prop :=
  (∀ hc hm, Jf hc hm → ∀ f v, FC (f + 1) v hc = some (v, hc) ∧ FM (f + 1) hm = some hm) ∧
  (∀ i s hc hm, Jo B n M i hc hm → LC law frm s hc hm → frm + s ≤ i → (∀ f v, v < 900 → FC (f + 1) (nI v) hc = some (nI v, hc) ∧ FM (f + 1) hm = some hm) ∨ (∃ hc' hm', (∀ f v, v < 900 → FC (f + 1) (nI v) hc = FC f (nI (v + 1)) hc' ∧ FM (f + 1) hm = FM f hm') ∧ fC (75 + 4 * law) hc hc' ∧ fM hm hm' ∧ ((Jf hc' hm' ∧ lwv (75 + 4 * law) hc') ∨ ∃ i' s', i < i' ∧ s' + i ≤ s + i' ∧ PG B n M law frm s hm [ty] [ty] hd i' s' hc' hm')))
theorem lup {B : Nat → Nat} {n M law frm : Nat} {ty : Bool} {hd : Nat} {FC : Nat → Int32 → am_H → Option (Int32 × am_H)} {FM : Nat → am_H → Option am_H} (tk : tkM B n M) (S : LSt B n M law frm ty hd FC FM) : ∀ (c i s v fc fm : Nat) (hc hm : am_H), M - i < c → c < fc → c < fm → v < i → Jo B n M i hc hm → LC law frm s hc hm → frm + s ≤ i → ∃ w hc' hm', FC fc (nI v) hc = some (w, hc') ∧ FM fm hm = some hm' ∧ fC (75 + 4 * law) hc hc' ∧ fM hm hm' ∧ ((Jf hc' hm' ∧ lwv (75 + 4 * law) hc') ∨ ∃ i' s', i ≤ i' ∧ s' + i ≤ s + i' ∧ PG B n M law frm s hm [ty] [ty] hd i' s' hc' hm') := by
  have hM := M_le tk
  intro c
  induction c with
  | zero => intro i s v fc fm hc hm h1; omega
  | succ c ih =>
    intro i s v fc fm hc hm h1 h2 h3 h4 j L hs
    obtain ⟨fc, rfl⟩ : ∃ f', fc = f' + 1 := ⟨fc - 1, by omega⟩
    obtain ⟨fm, rfl⟩ : ∃ f', fm = f' + 1 := ⟨fm - 1, by omega⟩
    have hv : v < 900 := by have := j.1; omega
    rcases S.2 i s hc hm j L hs with q | ⟨hc', hm', q1, q2, q3, q4⟩
    · rw [(q fc v hv).1, (q fm v hv).2]
      exact ⟨_, _, _, rfl, rfl, fC.rf, fM.rf, .inr ⟨i, s, Nat.le_refl _, by omega, PG.rf j L⟩⟩
    · rw [(q1 fc v hv).1, (q1 fm v hv).2]
      rcases q4 with ⟨f1, f2⟩ | ⟨i', s', p1, p2, p3⟩
      · obtain ⟨fc, rfl⟩ : ∃ f', fc = f' + 1 := ⟨fc - 1, by omega⟩
        obtain ⟨fm, rfl⟩ : ∃ f', fm = f' + 1 := ⟨fm - 1, by omega⟩
        rw [(S.1 hc' hm' f1 fc _).1, (S.1 hc' hm' f1 fm 0).2]
        exact ⟨_, _, _, rfl, rfl, q2, q3, .inl ⟨f1, f2⟩⟩
      · have hiM := p3.1.1
        obtain ⟨w, hc2, hm2, z1, z2, z3, z4, z5⟩ := ih i' s' (v + 1) fc fm hc' hm' (by omega) (by omega) (by omega) (by omega) p3.1 p3.2.1 (by omega)
        refine ⟨w, hc2, hm2, z1, z2, q2.tr z3, q3.tr z4, ?_⟩
        rcases z5 with z5 | ⟨i2, s2, y1, y2, y3⟩
        · exact .inl z5
        · exact .inr ⟨i2, s2, by omega, by omega, p3.tr y3⟩
theorem RS.loop {B : Nat → Nat} {n M law frm : Nat} {ty : Bool} {hd0 hd : Nat} {rc rm : am_H → Option am_H} {FC : Nat → Int32 → am_H → Option (Int32 × am_H)} {FM : Nat → am_H → Option am_H} (tk : tkM B n M) (R : RS B n M law frm ty hd0 rc rm) (hh : hd0 ≤ hd) (S : LSt B n M law frm ty hd FC FM) :
    RS B n M law frm ty hd (fun h => (rc h).bind fun q1 => (FC am_fu 0 q1).bind fun q8 => some q8.2) (fun h => (rm h).bind fun q1 => (FM am_fu q1).bind fun q => some q) := by
  have hM := M_le tk
  constructor
  · intro hc hm f L
    obtain ⟨hc', hm', a1, a2, a3, a4, a5, a6⟩ := R.1 hc hm f L
    have e1 : FC am_fu 0 hc' = some (0, hc') := (S.1 hc' hm' a3 4999 0).1
    have e2 : FM am_fu hm' = some hm' := (S.1 hc' hm' a3 4999 0).2
    simp only [a1, a2, Option.bind_some, e1, e2]
    exact ⟨_, _, rfl, rfl, a3, a4, a5, a6⟩
  · intro i s hc hm j L hs
    obtain ⟨hc', hm', a1, a2, a3, a4, a5⟩ := R.2 i s hc hm j L hs
    rcases a5 with ⟨f1, f2⟩ | ⟨i', s', p1, p2, p3⟩
    · have e1 : FC am_fu 0 hc' = some (0, hc') := (S.1 hc' hm' f1 4999 0).1
      have e2 : FM am_fu hm' = some hm' := (S.1 hc' hm' f1 4999 0).2
      simp only [a1, a2, Option.bind_some, e1, e2]
      exact ⟨_, _, rfl, rfl, a3, a4, .inl ⟨f1, f2⟩⟩
    · have hiM := p3.1.1
      obtain ⟨w, hc2, hm2, z1, z2, z3, z4, z5⟩ := lup tk S (M - i' + 1) i' s' 0 am_fu am_fu hc' hm' (by omega) (by unfold am_fu; omega) (by unfold am_fu; omega) (by omega) p3.1 p3.2.1 (by omega)
      have z1' : FC am_fu 0 hc' = some (w, hc2) := z1
      simp only [a1, a2, Option.bind_some, z1', z2]
      refine ⟨_, _, rfl, rfl, a3.tr z3, a4.tr z4, ?_⟩
      rcases z5 with z5 | ⟨i2, s2, y1, y2, y3⟩
      · exact .inl z5
      · exact .inr ⟨i2, s2, by omega, by omega, (p3.wk hh).tr y3⟩
/-- one round: a token, a reading, a code -/
theorem rnd {B : Nat → Nat} {n M law frm : Nat} {ty : Bool} {hd0 hd : Nat} {rc rm : am_H → Option am_H} {K : Nat} {c : Int32} {i s : Nat} {hc hm hm' : am_H} (hlaw : law < 2) (tk : tkM B n M) (R : RS B n M law frm ty hd0 rc rm) (hh : hd0 + 1 ≤ hd) (hc0 : ∀ τ : List Bool, tyc (nI (1006 - law)) [c] (ty :: ty :: τ) = some (ty :: τ))
    (L : LC law frm s hc hm) (hs : frm + s ≤ i) (a5 : Jo B n M (i + 1) (am_sI hc 61 3 (nI (i + 1))) hm') (a6 : nw8 hm hm') : ∃ q5 q7 p4 p5, rc (am_sI hc 61 3 (nI (i + 1))) = some q5 ∧ f_Law_put (am_rf q5 61 7) (mpc c) q5 = some q7 ∧ rm hm' = some p4 ∧ f_Mod_codes c p4 = some p5 ∧ fC (75 + 4 * law) hc q7 ∧ fM hm p5 ∧ ((Jf q7 p5 ∧ lwv (75 + 4 * law) q7) ∨ ∃ i' s', i < i' ∧ s' + i ≤ s + i' ∧ PG B n M law frm s hm [ty] [ty] hd i' s' q7 p5) := by
  have hM := M_le tk
  have x0 : am_ex [61] hc (am_sI hc 61 3 (nI (i + 1))) := am_ex.sI (by decide)
  have L1 := L.k x0 a6
  obtain ⟨q5, p4, b1, b2, b3, b4, b5⟩ := R.2 (i + 1) s _ hm' a5 L1 (by omega)
  have F0 := (fC.o1 (o := 75 + 4 * law) (by omega) x0).tr b3
  have G0 := a6.fM.tr b4
  rcases b5 with ⟨f1, f2⟩ | ⟨i', s', p1, p2, p3⟩
  · obtain ⟨q7, d1, d2, d3, d4⟩ := putF (by omega) f2 (mpc c)
    exact ⟨q5, q7, p4, p4, b1, d1, b2, mF_codes f1 c, F0.tr d3, G0, .inl ⟨f1.cg (by rw [d4]) (by rw [d4]) rfl rfl, d2⟩⟩
  · have hiM := p3.1.1
    have p3' := (p3.fr [ty] (hd' := hd) (by simpa using hh)).b0 (a6.row (by decide))
    obtain ⟨q7, p5, d1, d2, d3, d4, d5⟩ := PG.put hlaw p3' (by omega) c (post := [ty]) (fun τ _ => hc0 τ)
    exact ⟨q5, q7, p4, p5, b1, d1, b2, d2, F0.tr d3, G0.tr d4, .inr ⟨i', s' + 1, by omega, by omega, d5⟩⟩
theorem stpL {B : Nat → Nat} {n M law frm : Nat} {ty : Bool} {hd0 hd : Nat} {rc rm : am_H → Option am_H} {FC : Nat → Int32 → am_H → Option (Int32 × am_H)} {FM : Nat → am_H → Option am_H} {K : Nat} {c : Int32} (hlaw : law < 2) (tk : tkM B n M) (R : RS B n M law frm ty hd0 rc rm) (hh : hd0 + 1 ≤ hd) (hk : K ∈ kds) (h0 : K ≠ 0) (h1 : K ≠ 1) (hc0 : ∀ τ : List Bool, tyc (nI (1006 - law)) [c] (ty :: ty :: τ) = some (ty :: τ))
    (hFC : ∀ f v h, FC (f + 1) v h = (if (900 : Int32) ≤ v then some (v, h) else (f_Reader_take (nI K) h).bind fun q3 => (if q3.1 = true then (rc q3.2).bind fun q5 => (f_Law_put (am_rf q5 61 7) (mpc c) q5).bind fun q7 => FC f (v + (1 : Int32)) q7 else some (v, q3.2))))
    (hFM : ∀ f h, FM (f + 1) h = (f_Mod_eats (nI (rk K)) h).bind fun q2 => (if q2.1 = true then (rm q2.2).bind fun q4 => (f_Mod_codes c q4).bind fun q5 => FM f q5 else some q2.2)) : LSt B n M law frm ty hd FC FM := by
  have hK := rk_lt K hk
  constructor
  · intro hc hm f f' v
    rw [hFC, hFM, cF_take f (by omega), mF_eats f, Option.bind_some, Option.bind_some, if_neg Bool.false_ne_true, if_neg Bool.false_ne_true]
    refine ⟨?_, rfl⟩
    split <;> rfl
  · intro i s hc hm j L hs
    rcases tke tk j hk h0 h1 with ⟨a1, a2, hm', a3, a4, a5, a6⟩ | ⟨a1, a2, a3⟩
    · right
      obtain ⟨q5, q7, p4, p5, b1, b2, b3, b4, b5, b6, b7⟩ := rnd (K := K) hlaw tk R hh hc0 L hs a5 a6
      refine ⟨q7, p5, fun f v hv => ⟨?_, ?_⟩, b5, b6, b7⟩
      · rw [hFC, if_neg (show ¬ (900 : Int32) ≤ nI v from nI_ge (b := 900) hv (by decide)), a3, Option.bind_some, if_pos rfl, b1, Option.bind_some, b2, Option.bind_some, nI_up]
      · rw [hFM, a4, Option.bind_some, if_pos rfl, b3, Option.bind_some, b4, Option.bind_some]
    · left
      intro f v hv
      rw [hFC, hFM, if_neg (show ¬ (900 : Int32) ≤ nI v from nI_ge (b := 900) hv (by decide)), a2, a3, Option.bind_some, Option.bind_some, if_neg Bool.false_ne_true, if_neg Bool.false_ne_true]
      exact ⟨rfl, rfl⟩
