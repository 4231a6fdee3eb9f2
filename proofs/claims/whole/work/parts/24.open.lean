/-! ===== the law from its entry, over two pure facts ===== -/
def am_e : am_H := ([], fun _ _ => 0, fun _ _ => 0, fun _ _ => none)
theorem am_e_In : am_In 0 0 0 am_e := ⟨rfl, fun q hq => (by cases hq), fun o j ho => absurd ho (Nat.not_lt_zero _), fun o j ho => absurd ho (Nat.not_lt_zero _)⟩
/-- the reference's first plain state can be laid -/
def am_P1 : Prop := ∀ h, am_In 161 169 106 h → ∃ r, f_Mod_plain 137 3411 h = some r
/-- THE PURE CLAIM: the lifted law answers true on every script -/
def am_P2 : Prop := ∀ (L : Nat) (xs : Nat → Int32) (h h1 : am_H), L ≤ 3072 → am_In 161 169 106 h → f_Mod_plain 137 3411 h = some h1 → ∃ r, f_Lw_law_L18 L xs am_fu 0 h1 = some (true, r)
set_option maxRecDepth 100000 in
set_option maxHeartbeats 4000000 in
theorem law_G {L : Nat} {xs : Nat → Int32} (hL : L ≤ 3072) (P1 : am_P1) (P2 : am_P2) : am_G 2048 (M_Lw L xs) 600000 7302250 (fun v _ => v = some (.int 1)) 0 [(0, .retAddr 100)] [] am_e 0 0 := by
  have hI := am_e_In
  refine c_new (c := 11) hI (by decide +kernel) (by decide +kernel) (by decide) Cl_Lw_7 Ins_Top In_Top (by decide +kernel) (lw_dec (by decide +kernel)) (by decide) (by decide) (fun h hI => ?_)
  refine g_dup (lw_dec (by decide +kernel)) rfl ?_
  refine g_callI (as := []) (st := [.ref 0]) (ct_Top_init_0 hI) Y_Top_init Vi_Top_init rfl rfl L_Lw_9 (lw_dec (by decide +kernel)) rfl rfl (Nat.le_of_ble_eq_true rfl) (by decide) (by decide) (by decide) (fun v h hq => ?_)
  obtain ⟨rfl, hI⟩ := hq
  refine g_astore_n (i := 1) (lw_dec (by decide +kernel)) rfl (show (1 : Nat) < 4 by decide) (ls1 := [(0, .retAddr 100), (1, .ref 0)]) rfl ?_
  refine c_new (c := 12) hI (by decide +kernel) (by decide +kernel) (by decide) Cl_Lw_10 Ins_Mod In_Mod (by decide +kernel) (lw_dec (by decide +kernel)) (by decide) (by decide) (fun h hI => ?_)
  refine g_dup (lw_dec (by decide +kernel)) rfl ?_
  refine g_callI (as := []) (st := [.ref 136]) (ct_Mod_init_136 hI P1) Y_Mod_init Vi_Mod_init rfl rfl L_Lw_12 (lw_dec (by decide +kernel)) rfl rfl (Nat.le_of_ble_eq_true rfl) (by decide) (by decide) (by decide) (fun v h1 hq => ?_)
  obtain ⟨rfl, h, hI, hp, hs1⟩ := hq
  refine g_astore_n (i := 2) (lw_dec (by decide +kernel)) rfl (show (2 : Nat) < 4 by decide) (ls1 := [(0, .retAddr 100), (1, .ref 0), (2, .ref 136)]) rfl ?_
  refine g_iconst (z := 0) (v := 0) (lw_dec (by decide +kernel)) rfl ?_
  refine g_istore_n (i := 3) (lw_dec (by decide +kernel)) rfl (show (3 : Nat) < 4 by decide) (ls1 := [(0, .retAddr 100), (1, .ref 0), (2, .ref 136), (3, .int 0)]) rfl ?_
  obtain ⟨r, hr⟩ := P2 L xs h h1 hL hI hp
  exact am_G.mono (fun v h' hq => hq.1) (t_Lw_loop am_fu 0 h1 (true, r) hs1 hr)
set_option maxHeartbeats 4000000 in
theorem whole_start_open (P1 : am_P1) (P2 : am_P2) {p : Program} {e : Env} {s : State} {m : MethodId} {below : List Frame} {meth : Method} {c : Code} (l : Launch) {b L : Nat} {xs : Nat → Int32} (hL : L ≤ 3072) (C0 : lw_At p s m meth c b L xs) (hnm : meth.name = "law") : W p l e room_1 s m #[Value.ref b] below meth c s.heap [] 0 0 (lw_Z below #[Value.ref b] s) (entryFrame m ([Value.ref b] : List Value).toArray 4) := by
  obtain ⟨hx, hb, hr, hml, hown, hts, hX, hbl, hlocks, hgv⟩ := C0
  obtain ⟨w, hk, hH, hsa, hLx⟩ := am_start hts hX hbl hgv
  have hB : am_B w = s.heap.size := by unfold am_B; rw [hH]
  have hrel : am_rel w am_e s.heap := ⟨by rw [hB]; rfl, fun q _ => by rw [hH], fun k kd h => by simp [am_e] at h⟩
  have hcx : am_cx 2048 (M_Lw L xs) 600000 7302250 w p room_1 s m meth c := ⟨hx, hb, hml, hown, hr, hlocks, hnm, by decide, by decide, by decide, by decide, fun σ hσ => by rw [hLx]; exact Option.some.inj hσ⟩
  have hl := lv_entry ([Value.ref b] : List Value) (n := 4) (Nat.le_of_ble_eq_true rfl)
  rw [lg_entry_eq]
  have hl2 : lv_has ((lg_sl [Value.ref b] ++ List.replicate (4 - (lg_sl [Value.ref b]).length) Slot.unset).toArray) (M_Lw L xs).2.2.1 ([(0, Value.retAddr 100)].map (fun q => (q.1, am_cv w q.2))) := by
    have e : ([(0, Value.retAddr 100)].map (fun q => (q.1, am_cv w q.2)) : List (Nat × Value)) = [(0, .ref b)] := by simp [am_cv, hsa]
    rw [e]
    exact hl
  have K := law_G hL P1 P2 p l e room_1 s m #[Value.ref b] below meth c s.heap [] _ w hcx hk hrel (fun q hq => by cases hq) hl2
  intro T hT X
  obtain ⟨t, h1, o, h2, h3, ⟨v, h', h4, h5, h6⟩, LL, h7, h8⟩ := K T hT X
  subst h5
  refine ⟨t, h1, o, h2, h3, h4, h7.1, h7.2.1, ?_⟩
  refine State.sameButNew.weaken h7.2.2 (fun y hy hlt => ?_) (Nat.le_refl _) (Nat.le_refl _)
  have := h8 y hy
  rw [hB] at this
  exact absurd hlt (Nat.not_lt.mpr this)
