-- deps: 31.law 32.nat 33.bit 34.spec 35.riv 36.let 37.mod 38.mod 39.it 40.ahead 41.rel 42.ask 43.why 44.meet 45.err 46.err 47.wk 48.chg 50.ways 51.way 52.tray 54.past 55.hour 56.act 57.undo 59.deed
/-! ===== the class's laws ===== -/
def bnd (x : Int32) : Prop := -1000000 ≤ x.toInt ∧ x.toInt ≤ 1000000
/-- the class's code of a code of the reference -/
def mpc (c : Int32) : Int32 := if c < 3000 then c else if c = 3006 then 2008 else if c = 3007 then 2006 else if c = 3008 then 2007 else c - 1000
theorem l_M : (1000000 : Int64).toInt = 1000000 := by decide
theorem l_m : (-1000000 : Int64).toInt = -1000000 := by decide
/-- what is kept of a sum or a product -/
def kpt (x : Int) : Int := if x ≤ 1000000 then (if -1000000 ≤ x then x else -1000000) else 1000000
theorem i32b {x : Int64} (h1 : -1000000 ≤ x.toInt) (h2 : x.toInt ≤ 1000000) : x.toInt32.toInt = x.toInt := by
  rw [Int64.toInt_toInt32, Int.bmod_eq_of_le (by omega) (by omega)]
theorem lg_le {a b : Int64} : (lg_cmp a b ≤ 0) = (a.toInt ≤ b.toInt) := by
  apply propext
  rw [← Int32.not_lt, cq_gt]
  omega
theorem lg_ge {a b : Int64} : (0 ≤ lg_cmp a b) = (b.toInt ≤ a.toInt) := by
  apply propext
  rw [← Int32.not_lt, cq_lt]
  omega
theorem kp_ref {x : Int64} {h : am_H} : ((if lg_cmp x (1000000 : Int64) ≤ 0 then (if 0 ≤ lg_cmp x (-1000000 : Int64) then some x.toInt32 else some ((-1000000 : Int64).toInt32)) else some ((1000000 : Int64).toInt32)) : Option Int32) = f_Law_kept x h := by
  unfold f_Law_kept
  simp only [lg_le, lg_ge, l_M, l_m, Int64.lt_iff_toInt_lt]
  by_cases c : x.toInt ≤ 1000000
  · rw [if_pos c]
    by_cases e : x.toInt < 1000000
    · simp only [if_pos e]
      by_cases d : -1000000 ≤ x.toInt
      · rw [if_pos d, if_neg (by omega)]
      · rw [if_neg d, if_pos (by omega)]
    · have e1 : x = 1000000 := Int64.toInt_inj.mp (by rw [l_M]; omega)
      simp only [if_neg e]
      rw [if_pos (by omega), if_neg (by decide), e1]
  · rw [if_neg c]
    simp only [if_neg (show ¬ x.toInt < 1000000 by omega)]
    rw [if_neg (by decide)]
theorem kp_b {x : Int64} {h : am_H} {y : Int32} (e : f_Law_kept x h = some y) : bnd y := by
  rw [← kp_ref] at e
  simp only [lg_le, lg_ge, l_M, l_m] at e
  by_cases c : x.toInt ≤ 1000000
  · rw [if_pos c] at e
    by_cases d : -1000000 ≤ x.toInt
    · rw [if_pos d] at e
      cases e
      unfold bnd
      rw [i32b d c]
      exact ⟨d, c⟩
    · rw [if_neg d] at e
      cases e
      unfold bnd
      decide
  · rw [if_neg c] at e
    cases e
    unfold bnd
    decide
theorem add_l {a b : Int32} (ha : bnd a) (hb : bnd b) : (a + b).toInt64 = a.toInt64 + b.toInt64 := by
  apply Int64.toInt_inj.mp
  unfold bnd at ha hb
  rw [Int32.toInt_toInt64, Int32.toInt_add, Int64.toInt_add, Int32.toInt_toInt64, Int32.toInt_toInt64, Int.bmod_eq_of_le (by omega) (by omega), Int.bmod_eq_of_le (by omega) (by omega)]
theorem sub_l {a b : Int32} (ha : bnd a) (hb : bnd b) : (a - b).toInt64 = a.toInt64 - b.toInt64 := by
  apply Int64.toInt_inj.mp
  unfold bnd at ha hb
  rw [Int32.toInt_toInt64, Int32.toInt_sub, Int64.toInt_sub, Int32.toInt_toInt64, Int32.toInt_toInt64, Int.bmod_eq_of_le (by omega) (by omega), Int.bmod_eq_of_le (by omega) (by omega)]
theorem bnd01 {x : Int32} (h : x = 0 ∨ x = 1) : bnd x := by
  rcases h with rfl | rfl <;> (unfold bnd; decide)
/-- one step of both sides -/
theorem n_join {c a b : Int32} {h : am_H} (ha : bnd a) (hb : bnd b) (hc : (c = 3007 ∨ c = 3008) ∧ (a = 0 ∨ a = 1) ∧ (b = 0 ∨ b = 1) ∨ (c = 3003 ∨ c = 3004 ∨ c = 3005) ∨ (c = 3000 ∨ c = 3001 ∨ c = 3002)) : f_Law_join (mpc c) a b h = some (sp_btw c a b) ∧ bnd (sp_btw c a b) := by
  have key : ∀ y, f_Mod_between c a b am_e = some y → sp_btw c a b = y := fun y e => by unfold sp_btw; rw [e]; rfl
  rcases hc with ⟨hc, ha2, hb2⟩ | hc | hc
  · refine ⟨?_, bnd01 (btw_b hc ha2 hb2)⟩
    have ej : ∀ x y z, f_Law_join x y z h = f_Law_join x y z am_e := fun _ _ _ => rfl
    rw [ej]
    rcases hc with rfl | rfl <;> rcases ha2 with rfl | rfl <;> rcases hb2 with rfl | rfl <;> decide
  · refine ⟨?_, bnd01 (btw_t hc)⟩
    rcases hc with rfl | rfl | rfl
    · by_cases e : a = b
      · rw [key 1 (by simp [f_Mod_between, e])]
        simp [f_Law_join, mpc, e]
      · rw [key 0 (by simp [f_Mod_between, e])]
        simp [f_Law_join, mpc, e]
    · by_cases e : b ≤ a
      · rw [key 0 (by simp [f_Mod_between, e])]
        simp [f_Law_join, mpc, e]
      · rw [key 1 (by simp [f_Mod_between, e])]
        simp [f_Law_join, mpc, e]
    · by_cases e : a ≤ b
      · rw [key 0 (by simp [f_Mod_between, e])]
        simp [f_Law_join, mpc, e]
      · rw [key 1 (by simp [f_Mod_between, e])]
        simp [f_Law_join, mpc, e]
  · have hsome : ∀ x : Int64, ∃ y, f_Law_kept x h = some y := fun x => ⟨_, rfl⟩
    have ff : ∀ x : Int64, f_Law_kept x h = f_Law_kept x am_e := fun x => rfl
    rcases hc with rfl | rfl | rfl
    · obtain ⟨y, hy⟩ := hsome (a.toInt64 + b.toInt64)
      have e1 : f_Mod_between 3000 a b am_e = f_Law_kept (a.toInt64 + b.toInt64) am_e := by
        rw [← kp_ref]
        unfold f_Mod_between
        rw [if_neg (by decide), if_neg (by decide), if_neg (by decide), if_neg (by decide), if_neg (by decide), if_neg (by decide), if_pos rfl, Option.bind_some]
      have e2 := key y (by rw [e1, ← ff]; exact hy)
      refine ⟨?_, by rw [e2]; exact kp_b hy⟩
      have em : mpc 3000 = 2000 := by decide
      unfold f_Law_join
      rw [em, if_pos rfl, add_l ha hb, hy, e2, Option.bind_some]
    · obtain ⟨y, hy⟩ := hsome (a.toInt64 - b.toInt64)
      have e1 : f_Mod_between 3001 a b am_e = f_Law_kept (a.toInt64 - b.toInt64) am_e := by
        rw [← kp_ref]
        unfold f_Mod_between
        rw [if_neg (by decide), if_neg (by decide), if_neg (by decide), if_neg (by decide), if_neg (by decide), if_neg (by decide), if_neg (by decide), if_pos rfl, Option.bind_some]
      have e2 := key y (by rw [e1, ← ff]; exact hy)
      refine ⟨?_, by rw [e2]; exact kp_b hy⟩
      have em : mpc 3001 = 2001 := by decide
      unfold f_Law_join
      rw [em, if_neg (by decide), if_pos rfl, sub_l ha hb, hy, e2, Option.bind_some]
    · obtain ⟨y, hy⟩ := hsome (a.toInt64 * b.toInt64)
      have e1 : f_Mod_between 3002 a b am_e = f_Law_kept (a.toInt64 * b.toInt64) am_e := by
        rw [← kp_ref]
        unfold f_Mod_between
        rw [if_neg (by decide), if_neg (by decide), if_neg (by decide), if_neg (by decide), if_neg (by decide), if_neg (by decide), if_neg (by decide), if_neg (by decide), Option.bind_some]
      have e2 := key y (by rw [e1, ← ff]; exact hy)
      refine ⟨?_, by rw [e2]; exact kp_b hy⟩
      have em : mpc 3002 = 2002 := by decide
      unfold f_Law_join
      rw [em, if_neg (by decide), if_neg (by decide), if_pos rfl, hy, e2, Option.bind_some]
def bnL (st : List Int32) : Prop := ∀ x ∈ st, bnd x
theorem nI_b {n : Nat} (h : n ≤ 1000000) : bnd (nI n) := by
  unfold bnd
  rw [nI_toInt (by omega)]
  omega
theorem cl_L4 {o many : Nat} {C : Nat → Int32} {m : Int32} (hm : m = 1006 ∨ m = 1005) (hn : many ≤ 900) : ∀ (c k : Nat) (τ τ' : List Bool) (st : List Int32) (h : am_H) (n : Nat), k + c = many → c < n → h.2.1 o 1 = nI many → (∀ i, i < many → h.2.1 (o + 1) i = mpc (C i)) → (∀ i, i < 6 → bnd (h.2.1 (o + 2) i)) → τ.length ≤ 64 → tyc m (cds C k c) τ = some τ' → vty τ st → bnL st → sp_st (h.2.1 (o + 3)) st →
    ∃ y h', f_Law_holds_L4 o n (nI st.length) (nI k) h = some (nI (sp_run (cds C k c) (h.2.1 (o + 2)) st).length, y, h') ∧ sp_st (h'.2.1 (o + 3)) (sp_run (cds C k c) (h.2.1 (o + 2)) st) ∧ am_ex [o + 3] h h' := by
  intro c
  induction c with
  | zero =>
    intro k τ τ' st h n hk hc h1 hC hw hτ ht hv hb hs
    obtain ⟨n, rfl⟩ : ∃ n', n = n' + 1 := ⟨n - 1, by omega⟩
    have e : sp_run (cds C k 0) (h.2.1 (o + 2)) st = st := rfl
    rw [e, f_Law_holds_L4, h1, if_pos (nI_le (by omega) (by omega))]
    exact ⟨_, h, rfl, hs, am_ex.rf⟩
  | succ c ih =>
    intro k τ τ' st h n hk hc h1 hC hw hτ ht hv hb hs
    obtain ⟨n, rfl⟩ : ∃ n', n = n' + 1 := ⟨n - 1, by omega⟩
    rw [cds_cons] at ht ⊢
    have hlen := vty_len hv
    have hkeep : ∀ h', am_ex [o + 3] h h' → h'.2.1 o 1 = nI many ∧ (∀ i, i < many → h'.2.1 (o + 1) i = mpc (C i)) ∧ h'.2.1 (o + 2) = h.2.1 (o + 2) := fun h' x => ⟨by rw [x.2.2 o (by simp)]; exact h1, fun i hi => by rw [x.2.2 (o + 1) (by simp)]; exact hC i hi, x.2.2 (o + 2) (by simp)⟩
    rw [f_Law_holds_L4, h1, if_neg (nI_ge (by omega) (by omega)), n_rd (by omega) (by decide), Option.bind_some, hC k (by omega), nI_up]
    generalize hcd : C k = cd at ht ⊢
    rcases tyc_cons ht with ⟨h1', h2, h3, h4, h5⟩ | ⟨rfl, q, rfl, h5⟩ | ⟨x, y, q, rfl, h5, n1, n2, h6⟩
    · obtain ⟨j, hj, rfl⟩ := nI_of (Int32.not_lt.mpr h2)
      have hj6 : j < 1006 := by
        rcases hm with rfl | rfl
        · exact (nI_ltI hj (b := 1006) (by omega)).mp h3
        · exact Nat.lt_trans ((nI_ltI hj (b := 1005) (by omega)).mp h3) (by omega)
      have em : mpc (nI j) = nI j := by unfold mpc; rw [if_pos h1']
      rw [run_cons1 h1', em]
      have key : ((if nI j - (1000 : Int32) < 0 then some (nI j) else (if Int32.ofNat 6 ≤ nI j - (1000 : Int32) then some (nI j) else (am_rd (h.2.1 (o + 2)) 6 (nI j - (1000 : Int32))).bind fun x9 => some x9)) : Option Int32) = some (if nI j < 1000 then nI j else h.2.1 (o + 2) (nI j - 1000).toNatClampNeg) ∧ bnd (if nI j < 1000 then nI j else h.2.1 (o + 2) (nI j - 1000).toNatClampNeg) := by
        by_cases d : j < 1000
        · have d' : nI j < 1000 := (nI_ltI hj (b := 1000) (by omega)).mpr d
          have e0 : nI j - (1000 : Int32) < 0 := sub_neg (a := j) (b := 1000) (by omega) (by omega) d
          rw [if_pos d', if_pos e0]
          exact ⟨rfl, nI_b (by omega)⟩
        · have d' : ¬ nI j < 1000 := fun q => d ((nI_ltI hj (b := 1000) (by omega)).mp q)
          have e3 : nI j - (1000 : Int32) = nI (j - 1000) := nI_sub (b := 1000) (by omega)
          rw [if_neg d', e3, if_neg (nI_pos (by omega)), if_neg (show ¬ Int32.ofNat 6 ≤ nI (j - 1000) from nI_ge (b := 6) (by omega) (by decide)), n_rd (by omega) (by decide), nI_clamp (by omega)]
          exact ⟨rfl, hw _ (by omega)⟩
      have hl64 : st.length < 64 := by omega
      rw [if_neg (show ¬ nI j = (2008 : Int32) from fun q => by have := (nI_eq (b := 2008) hj (by decide)).mp q; omega), if_pos (show nI j < (2000 : Int32) from nI_lt (b := 2000) (by omega) (by decide)), if_neg (show ¬ (2000 : Int32) ≤ nI j from nI_ge (b := 2000) (by omega) (by decide)), if_neg (show ¬ Int32.ofNat 64 ≤ nI st.length from nI_ge (b := 64) hl64 (by decide)), key.1, Option.bind_some, n_wr hl64 (by decide), Option.bind_some, nI_up]
      have hbv := key.2
      generalize (if nI j < 1000 then nI j else h.2.1 (o + 2) (nI j - 1000).toNatClampNeg) = v at hbv
      have hs2 : sp_st ((am_sI h (o + 3) st.length v).2.1 (o + 3)) (v :: st) := by
        rw [sI_row, if_pos rfl]
        exact ⟨up_s, sp_st_up st (Nat.le_refl _) hs⟩
      obtain ⟨k1, k2, k3⟩ := hkeep _ (am_ex.sI (h := h) (o := o + 3) (j := st.length) (x := v) (X := [o + 3]) (by simp))
      obtain ⟨y, h', a1, a2, a3⟩ := ih (k + 1) (false :: τ) τ' (v :: st) (am_sI h (o + 3) st.length v) n (by omega) (by omega) k1 k2 (by rw [k3]; exact hw) h4 h5 ⟨fun e => (by cases e), hv⟩ (fun x hx => by
        rcases List.mem_cons.mp hx with e | e
        · rw [e]; exact hbv
        · exact hb x e) hs2
      rw [k3] at a1 a2
      exact ⟨y, h', a1, a2, am_ex.tr (am_ex.sI (X := [o + 3]) (by simp)) a3 (fun _ z => z) (fun _ z => z)⟩
    · match st, hv, hs, hlen, hb with
      | a :: st, hv, hs, hlen, hb =>
        rw [run_cons2]
        simp only [List.length_cons] at hlen hτ ⊢
        have em : mpc 3006 = 2008 := by decide
        have e1 : nI (st.length + 1) - (1 : Int32) = nI st.length := nI_sub (b := 1) (by omega)
        have ha01 := hv.1 rfl
        rw [em, if_pos rfl, if_neg (show ¬ nI (st.length + 1) < (1 : Int32) from nI_nlt (b := 1) (by omega) (by omega)), e1, n_rd (by omega) (by decide), Option.bind_some, hs.1, n_wr (by omega) (by decide), Option.bind_some]
        have hs2 : sp_st ((am_sI h (o + 3) st.length (1 - a)).2.1 (o + 3)) ((1 - a) :: st) := by
          rw [sI_row, if_pos rfl]
          exact ⟨up_s, sp_st_up st (Nat.le_refl _) hs.2⟩
        have h01 : (1 - a = 0) ∨ (1 - a = 1) := by
          rcases ha01 with rfl | rfl
          · exact .inr rfl
          · exact .inl rfl
        have hv2 : vty (true :: q) ((1 - a) :: st) := ⟨fun _ => h01, hv.2⟩
        obtain ⟨k1, k2, k3⟩ := hkeep _ (am_ex.sI (h := h) (o := o + 3) (j := st.length) (x := 1 - a) (X := [o + 3]) (by simp))
        obtain ⟨y, h', a1, a2, a3⟩ := ih (k + 1) (true :: q) τ' ((1 - a) :: st) (am_sI h (o + 3) st.length (1 - a)) n (by omega) (by omega) k1 k2 (by rw [k3]; exact hw) hτ h5 hv2 (fun x hx => by
          rcases List.mem_cons.mp hx with e | e
          · rw [e]; exact bnd01 h01
          · exact hb x (List.mem_cons_of_mem _ e)) hs2
        rw [k3] at a1 a2
        exact ⟨y, h', a1, a2, am_ex.tr (am_ex.sI (X := [o + 3]) (by simp)) a3 (fun _ z => z) (fun _ z => z)⟩
    · match st, hv, hs, hlen, hb with
      | b :: a :: st, hv, hs, hlen, hb =>
        rw [run_cons3 n1 n2]
        simp only [List.length_cons] at hlen hτ ⊢
        have g1 : h.2.1 (o + 3) (st.length + 1) = b := hs.1
        have g2 : h.2.1 (o + 3) st.length = a := hs.2.1
        have hba : bnd a := hb a (by simp)
        have hbb : bnd b := hb b (by simp)
        have hj := n_join (c := cd) (h := h) hba hbb (by
          rcases h6 with ⟨z1, rfl, _⟩ | ⟨z1, _⟩ | ⟨z1, _⟩
          · exact .inl ⟨z1, hv.2.1 rfl, hv.1 rfl⟩
          · exact .inr (.inl z1)
          · exact .inr (.inr z1))
        have hmp : ¬ mpc cd = 2008 ∧ ¬ mpc cd < 2000 := by
          rcases h6 with ⟨z1, _⟩ | ⟨z1, _⟩ | ⟨z1, _⟩
          · rcases z1 with rfl | rfl <;> decide
          · rcases z1 with rfl | rfl | rfl <;> decide
          · rcases z1 with rfl | rfl | rfl <;> decide
        have e1 : nI (st.length + 1 + 1) + (-1 : Int32) = nI (st.length + 1) := nI_m1 (by omega)
        have e2 : nI (st.length + 1) - (1 : Int32) = nI st.length := nI_sub (b := 1) (by omega)
        rw [if_neg hmp.1, if_neg hmp.2, if_neg (show ¬ nI (st.length + 1 + 1) < (2 : Int32) from nI_nlt (b := 2) (by omega) (by omega)), e1, e2, n_rd (by omega) (by decide), Option.bind_some, n_rd (by omega) (by decide), Option.bind_some, g1, g2, hj.1, Option.bind_some, n_wr (by omega) (by decide), Option.bind_some]
        have hs2 : sp_st ((am_sI h (o + 3) st.length (sp_btw cd a b)).2.1 (o + 3)) (sp_btw cd a b :: st) := by
          rw [sI_row, if_pos rfl]
          exact ⟨up_s, sp_st_up st (Nat.le_refl _) hs.2.2⟩
        obtain ⟨k1, k2, k3⟩ := hkeep _ (am_ex.sI (h := h) (o := o + 3) (j := st.length) (x := sp_btw cd a b) (X := [o + 3]) (by simp))
        obtain ⟨y, h', a1, a2, a3⟩ := ih (k + 1) _ τ' _ (am_sI h (o + 3) st.length (sp_btw cd a b)) n (by omega) (by omega) k1 k2 (by rw [k3]; exact hw) (by simp only [List.length_cons]; omega) h5 (vty_step h6 hv) (fun x hx => by
          rcases List.mem_cons.mp hx with e | e
          · rw [e]; exact hj.2
          · exact hb x (List.mem_cons_of_mem _ (List.mem_cons_of_mem _ e))) hs2
        rw [k3] at a1 a2
        exact ⟨y, h', a1, a2, am_ex.tr (am_ex.sI (X := [o + 3]) (by simp)) a3 (fun _ z => z) (fun _ z => z)⟩
