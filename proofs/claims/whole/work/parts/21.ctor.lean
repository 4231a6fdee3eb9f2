set_option maxRecDepth 100000 in
set_option maxHeartbeats 4000000 in
theorem ct_River_init_1 {h : am_H} (hI : am_In 2 0 0 h) : am_Ct 1 M_River_init [.ref 1] h 8 206 (fun v h => v = none ∧ am_In 10 8 6 h) := by
  refine am_Ct.of (by decide) rfl (Nat.le_of_ble_eq_true rfl) (ls := [(0, .ref 1)]) rfl ?_
  refine g_aload_n (i := 0) (by decide +kernel) rfl ?_
  refine g_objInit L_River_3 Oc_inst Oc_code (by decide +kernel) (Nat.le_of_ble_eq_true rfl) (by decide) ?_
  refine g_aload_n (i := 0) (by decide +kernel) rfl ?_
  refine g_iconst (z := 2) (v := 2) (by decide +kernel) rfl ?_
  refine c_puti hI (hI.k 1 (by decide) (by decide +kernel)) F_River_9 (by decide +kernel) (Or.inl rfl) rfl rfl rfl (by decide +kernel) (fun h hI => ?_)
  refine g_aload_n (i := 0) (by decide +kernel) rfl ?_
  refine g_iconst (z := 1) (v := 1) (by decide +kernel) rfl ?_
  refine c_puti hI (hI.k 1 (by decide) (by decide +kernel)) F_River_15 (by decide +kernel) (Or.inl rfl) rfl rfl rfl (by decide +kernel) (fun h hI => ?_)
  refine g_aload_n (i := 0) (by decide +kernel) rfl ?_
  refine g_iconst (z := 0) (v := 0) (by decide +kernel) rfl ?_
  refine c_puti hI (hI.k 1 (by decide) (by decide +kernel)) F_River_18 (by decide +kernel) (Or.inl rfl) rfl rfl rfl (by decide +kernel) (fun h hI => ?_)
  refine g_aload_n (i := 0) (by decide +kernel) rfl ?_
  refine g_iconst (z := 0) (v := 0) (by decide +kernel) rfl ?_
  refine c_puti hI (hI.k 1 (by decide) (by decide +kernel)) F_River_21 (by decide +kernel) (Or.inl rfl) rfl rfl rfl (by decide +kernel) (fun h hI => ?_)
  refine g_aload_n (i := 0) (by decide +kernel) rfl ?_
  refine g_iconst (z := 0) (v := 0) (by decide +kernel) rfl ?_
  refine c_puti hI (hI.k 1 (by decide) (by decide +kernel)) F_River_24 (by decide +kernel) (Or.inl rfl) rfl rfl rfl (by decide +kernel) (fun h hI => ?_)
  refine g_aload_n (i := 0) (by decide +kernel) rfl ?_
  refine g_iconst (z := 0) (v := 0) (by decide +kernel) rfl ?_
  refine c_puti hI (hI.k 1 (by decide) (by decide +kernel)) F_River_27 (by decide +kernel) (Or.inl rfl) rfl rfl rfl (by decide +kernel) (fun h hI => ?_)
  refine g_aload_n (i := 0) (by decide +kernel) rfl ?_
  refine g_bipush (z := 6) (v := 6) (by decide +kernel) rfl ?_
  refine c_newa (aty := .int) (t0 := 0) (ty := .int) (N := 6) hI (by decide +kernel) (by decide +kernel) rfl rfl Ac_int ⟨by decide, by decide⟩ (by decide) (by decide) (by decide) (by decide +kernel) (by decide) (by decide) (by intro C; simp) (fun h hI => ?_)
  refine c_putr hI (hI.k 1 (by decide) (by decide +kernel)) F_River_30 (by decide +kernel) (Or.inr ⟨rfl, rfl, rfl⟩) rfl (by decide +kernel) (by decide +kernel) (fun h hI => ?_)
  refine g_aload_n (i := 0) (by decide +kernel) rfl ?_
  refine g_iconst (z := 5) (v := 5) (by decide +kernel) rfl ?_
  refine c_newa (aty := .int) (t0 := 0) (ty := .int) (N := 5) hI (by decide +kernel) (by decide +kernel) rfl rfl Ac_int ⟨by decide, by decide⟩ (by decide) (by decide) (by decide) (by decide +kernel) (by decide) (by decide) (by intro C; simp) (fun h hI => ?_)
  refine c_putr hI (hI.k 1 (by decide) (by decide +kernel)) F_River_34 (by decide +kernel) (Or.inr ⟨rfl, rfl, rfl⟩) rfl (by decide +kernel) (by decide +kernel) (fun h hI => ?_)
  refine g_aload_n (i := 0) (by decide +kernel) rfl ?_
  refine g_iconst (z := 5) (v := 5) (by decide +kernel) rfl ?_
  refine c_newa (aty := .int) (t0 := 0) (ty := .int) (N := 5) hI (by decide +kernel) (by decide +kernel) rfl rfl Ac_int ⟨by decide, by decide⟩ (by decide) (by decide) (by decide) (by decide +kernel) (by decide) (by decide) (by intro C; simp) (fun h hI => ?_)
  refine c_putr hI (hI.k 1 (by decide) (by decide +kernel)) F_River_37 (by decide +kernel) (Or.inr ⟨rfl, rfl, rfl⟩) rfl (by decide +kernel) (by decide +kernel) (fun h hI => ?_)
  refine g_aload_n (i := 0) (by decide +kernel) rfl ?_
  refine g_iconst (z := 5) (v := 5) (by decide +kernel) rfl ?_
  refine c_newa (aty := .int) (t0 := 0) (ty := .int) (N := 5) hI (by decide +kernel) (by decide +kernel) rfl rfl Ac_int ⟨by decide, by decide⟩ (by decide) (by decide) (by decide) (by decide +kernel) (by decide) (by decide) (by intro C; simp) (fun h hI => ?_)
  refine c_putr hI (hI.k 1 (by decide) (by decide +kernel)) F_River_40 (by decide +kernel) (Or.inr ⟨rfl, rfl, rfl⟩) rfl (by decide +kernel) (by decide +kernel) (fun h hI => ?_)
  refine g_aload_n (i := 0) (by decide +kernel) rfl ?_
  refine g_iconst (z := 5) (v := 5) (by decide +kernel) rfl ?_
  refine c_newa (aty := .int) (t0 := 0) (ty := .int) (N := 5) hI (by decide +kernel) (by decide +kernel) rfl rfl Ac_int ⟨by decide, by decide⟩ (by decide) (by decide) (by decide) (by decide +kernel) (by decide) (by decide) (by intro C; simp) (fun h hI => ?_)
  refine c_putr hI (hI.k 1 (by decide) (by decide +kernel)) F_River_43 (by decide +kernel) (Or.inr ⟨rfl, rfl, rfl⟩) rfl (by decide +kernel) (by decide +kernel) (fun h hI => ?_)
  refine g_aload_n (i := 0) (by decide +kernel) rfl ?_
  refine g_bipush (z := 60) (v := 60) (by decide +kernel) rfl ?_
  refine c_newa (aty := .int) (t0 := 0) (ty := .int) (N := 60) hI (by decide +kernel) (by decide +kernel) rfl rfl Ac_int ⟨by decide, by decide⟩ (by decide) (by decide) (by decide) (by decide +kernel) (by decide) (by decide) (by intro C; simp) (fun h hI => ?_)
  refine c_putr hI (hI.k 1 (by decide) (by decide +kernel)) F_River_46 (by decide +kernel) (Or.inr ⟨rfl, rfl, rfl⟩) rfl (by decide +kernel) (by decide +kernel) (fun h hI => ?_)
  refine g_aload_n (i := 0) (by decide +kernel) rfl ?_
  refine g_bipush (z := 60) (v := 60) (by decide +kernel) rfl ?_
  refine c_newa (aty := .int) (t0 := 0) (ty := .int) (N := 60) hI (by decide +kernel) (by decide +kernel) rfl rfl Ac_int ⟨by decide, by decide⟩ (by decide) (by decide) (by decide) (by decide +kernel) (by decide) (by decide) (by intro C; simp) (fun h hI => ?_)
  refine c_putr hI (hI.k 1 (by decide) (by decide +kernel)) F_River_49 (by decide +kernel) (Or.inr ⟨rfl, rfl, rfl⟩) rfl (by decide +kernel) (by decide +kernel) (fun h hI => ?_)
  refine g_aload_n (i := 0) (by decide +kernel) rfl ?_
  refine g_bipush (z := 60) (v := 60) (by decide +kernel) rfl ?_
  refine c_newa (aty := .int) (t0 := 0) (ty := .int) (N := 60) hI (by decide +kernel) (by decide +kernel) rfl rfl Ac_int ⟨by decide, by decide⟩ (by decide) (by decide) (by decide) (by decide +kernel) (by decide) (by decide) (by intro C; simp) (fun h hI => ?_)
  refine c_putr hI (hI.k 1 (by decide) (by decide +kernel)) F_River_52 (by decide +kernel) (Or.inr ⟨rfl, rfl, rfl⟩) rfl (by decide +kernel) (by decide +kernel) (fun h hI => ?_)
  exact g_vret (st := []) (by decide +kernel) rfl (by decide) (by decide) ⟨rfl, hI⟩
set_option maxRecDepth 100000 in
set_option maxHeartbeats 4000000 in
theorem ct_State_init_10 {h : am_H} (hI : am_In 11 9 6 h) : am_Ct 1 M_State_init [.ref 10] h 3 16 (fun v h => v = none ∧ am_In 14 12 9 h) := by
  refine am_Ct.of (by decide) rfl (Nat.le_of_ble_eq_true rfl) (ls := [(0, .ref 10)]) rfl ?_
  refine g_aload_n (i := 0) (by decide +kernel) rfl ?_
  refine g_objInit L_State_3 Oc_inst Oc_code (by decide +kernel) (Nat.le_of_ble_eq_true rfl) (by decide) ?_
  refine g_aload_n (i := 0) (by decide +kernel) rfl ?_
  refine g_iconst (z := 0) (v := 0) (by decide +kernel) rfl ?_
  refine c_puti hI (hI.k 10 (by decide) (by decide +kernel)) F_State_9 (by decide +kernel) (Or.inl rfl) rfl rfl rfl (by decide +kernel) (fun h hI => ?_)
  refine g_aload_n (i := 0) (by decide +kernel) rfl ?_
  refine g_iconst (z := 0) (v := 0) (by decide +kernel) rfl ?_
  refine c_puti hI (hI.k 10 (by decide) (by decide +kernel)) F_State_15 (by decide +kernel) (Or.inl rfl) rfl rfl rfl (by decide +kernel) (fun h hI => ?_)
  refine g_aload_n (i := 0) (by decide +kernel) rfl ?_
  refine g_iconst (z := 0) (v := 0) (by decide +kernel) rfl ?_
  refine c_puti hI (hI.k 10 (by decide) (by decide +kernel)) F_State_18 (by decide +kernel) (Or.inl rfl) rfl rfl rfl (by decide +kernel) (fun h hI => ?_)
  refine g_aload_n (i := 0) (by decide +kernel) rfl ?_
  refine g_bipush (z := 6) (v := 6) (by decide +kernel) rfl ?_
  refine c_newa (aty := .int) (t0 := 0) (ty := .int) (N := 6) hI (by decide +kernel) (by decide +kernel) rfl rfl Ac_int ⟨by decide, by decide⟩ (by decide) (by decide) (by decide) (by decide +kernel) (by decide) (by decide) (by intro C; simp) (fun h hI => ?_)
  refine c_putr hI (hI.k 10 (by decide) (by decide +kernel)) F_State_21 (by decide +kernel) (Or.inr ⟨rfl, rfl, rfl⟩) rfl (by decide +kernel) (by decide +kernel) (fun h hI => ?_)
  refine g_aload_n (i := 0) (by decide +kernel) rfl ?_
  refine g_iconst (z := 5) (v := 5) (by decide +kernel) rfl ?_
  refine c_newa (aty := .int) (t0 := 0) (ty := .int) (N := 5) hI (by decide +kernel) (by decide +kernel) rfl rfl Ac_int ⟨by decide, by decide⟩ (by decide) (by decide) (by decide) (by decide +kernel) (by decide) (by decide) (by intro C; simp) (fun h hI => ?_)
  refine c_putr hI (hI.k 10 (by decide) (by decide +kernel)) F_State_25 (by decide +kernel) (Or.inr ⟨rfl, rfl, rfl⟩) rfl (by decide +kernel) (by decide +kernel) (fun h hI => ?_)
  refine g_aload_n (i := 0) (by decide +kernel) rfl ?_
  refine g_iconst (z := 5) (v := 5) (by decide +kernel) rfl ?_
  refine c_newa (aty := .int) (t0 := 0) (ty := .int) (N := 5) hI (by decide +kernel) (by decide +kernel) rfl rfl Ac_int ⟨by decide, by decide⟩ (by decide) (by decide) (by decide) (by decide +kernel) (by decide) (by decide) (by intro C; simp) (fun h hI => ?_)
  refine c_putr hI (hI.k 10 (by decide) (by decide +kernel)) F_State_28 (by decide +kernel) (Or.inr ⟨rfl, rfl, rfl⟩) rfl (by decide +kernel) (by decide +kernel) (fun h hI => ?_)
  exact g_vret (st := []) (by decide +kernel) rfl (by decide) (by decide) ⟨rfl, hI⟩
set_option maxRecDepth 100000 in
set_option maxHeartbeats 4000000 in
theorem ct_State_init_14 {h : am_H} (hI : am_In 15 13 9 h) : am_Ct 1 M_State_init [.ref 14] h 3 16 (fun v h => v = none ∧ am_In 18 16 12 h) := by
  refine am_Ct.of (by decide) rfl (Nat.le_of_ble_eq_true rfl) (ls := [(0, .ref 14)]) rfl ?_
  refine g_aload_n (i := 0) (by decide +kernel) rfl ?_
  refine g_objInit L_State_3 Oc_inst Oc_code (by decide +kernel) (Nat.le_of_ble_eq_true rfl) (by decide) ?_
  refine g_aload_n (i := 0) (by decide +kernel) rfl ?_
  refine g_iconst (z := 0) (v := 0) (by decide +kernel) rfl ?_
  refine c_puti hI (hI.k 14 (by decide) (by decide +kernel)) F_State_9 (by decide +kernel) (Or.inl rfl) rfl rfl rfl (by decide +kernel) (fun h hI => ?_)
  refine g_aload_n (i := 0) (by decide +kernel) rfl ?_
  refine g_iconst (z := 0) (v := 0) (by decide +kernel) rfl ?_
  refine c_puti hI (hI.k 14 (by decide) (by decide +kernel)) F_State_15 (by decide +kernel) (Or.inl rfl) rfl rfl rfl (by decide +kernel) (fun h hI => ?_)
  refine g_aload_n (i := 0) (by decide +kernel) rfl ?_
  refine g_iconst (z := 0) (v := 0) (by decide +kernel) rfl ?_
  refine c_puti hI (hI.k 14 (by decide) (by decide +kernel)) F_State_18 (by decide +kernel) (Or.inl rfl) rfl rfl rfl (by decide +kernel) (fun h hI => ?_)
  refine g_aload_n (i := 0) (by decide +kernel) rfl ?_
  refine g_bipush (z := 6) (v := 6) (by decide +kernel) rfl ?_
  refine c_newa (aty := .int) (t0 := 0) (ty := .int) (N := 6) hI (by decide +kernel) (by decide +kernel) rfl rfl Ac_int ⟨by decide, by decide⟩ (by decide) (by decide) (by decide) (by decide +kernel) (by decide) (by decide) (by intro C; simp) (fun h hI => ?_)
  refine c_putr hI (hI.k 14 (by decide) (by decide +kernel)) F_State_21 (by decide +kernel) (Or.inr ⟨rfl, rfl, rfl⟩) rfl (by decide +kernel) (by decide +kernel) (fun h hI => ?_)
  refine g_aload_n (i := 0) (by decide +kernel) rfl ?_
  refine g_iconst (z := 5) (v := 5) (by decide +kernel) rfl ?_
  refine c_newa (aty := .int) (t0 := 0) (ty := .int) (N := 5) hI (by decide +kernel) (by decide +kernel) rfl rfl Ac_int ⟨by decide, by decide⟩ (by decide) (by decide) (by decide) (by decide +kernel) (by decide) (by decide) (by intro C; simp) (fun h hI => ?_)
  refine c_putr hI (hI.k 14 (by decide) (by decide +kernel)) F_State_25 (by decide +kernel) (Or.inr ⟨rfl, rfl, rfl⟩) rfl (by decide +kernel) (by decide +kernel) (fun h hI => ?_)
  refine g_aload_n (i := 0) (by decide +kernel) rfl ?_
  refine g_iconst (z := 5) (v := 5) (by decide +kernel) rfl ?_
  refine c_newa (aty := .int) (t0 := 0) (ty := .int) (N := 5) hI (by decide +kernel) (by decide +kernel) rfl rfl Ac_int ⟨by decide, by decide⟩ (by decide) (by decide) (by decide) (by decide +kernel) (by decide) (by decide) (by intro C; simp) (fun h hI => ?_)
  refine c_putr hI (hI.k 14 (by decide) (by decide +kernel)) F_State_28 (by decide +kernel) (Or.inr ⟨rfl, rfl, rfl⟩) rfl (by decide +kernel) (by decide +kernel) (fun h hI => ?_)
  exact g_vret (st := []) (by decide +kernel) rfl (by decide) (by decide) ⟨rfl, hI⟩
set_option maxRecDepth 100000 in
set_option maxHeartbeats 4000000 in
theorem ct_State_init_20 {h : am_H} (hI : am_In 21 18 14 h) : am_Ct 1 M_State_init [.ref 20] h 3 16 (fun v h => v = none ∧ am_In 24 21 17 h) := by
  refine am_Ct.of (by decide) rfl (Nat.le_of_ble_eq_true rfl) (ls := [(0, .ref 20)]) rfl ?_
  refine g_aload_n (i := 0) (by decide +kernel) rfl ?_
  refine g_objInit L_State_3 Oc_inst Oc_code (by decide +kernel) (Nat.le_of_ble_eq_true rfl) (by decide) ?_
  refine g_aload_n (i := 0) (by decide +kernel) rfl ?_
  refine g_iconst (z := 0) (v := 0) (by decide +kernel) rfl ?_
  refine c_puti hI (hI.k 20 (by decide) (by decide +kernel)) F_State_9 (by decide +kernel) (Or.inl rfl) rfl rfl rfl (by decide +kernel) (fun h hI => ?_)
  refine g_aload_n (i := 0) (by decide +kernel) rfl ?_
  refine g_iconst (z := 0) (v := 0) (by decide +kernel) rfl ?_
  refine c_puti hI (hI.k 20 (by decide) (by decide +kernel)) F_State_15 (by decide +kernel) (Or.inl rfl) rfl rfl rfl (by decide +kernel) (fun h hI => ?_)
  refine g_aload_n (i := 0) (by decide +kernel) rfl ?_
  refine g_iconst (z := 0) (v := 0) (by decide +kernel) rfl ?_
  refine c_puti hI (hI.k 20 (by decide) (by decide +kernel)) F_State_18 (by decide +kernel) (Or.inl rfl) rfl rfl rfl (by decide +kernel) (fun h hI => ?_)
  refine g_aload_n (i := 0) (by decide +kernel) rfl ?_
  refine g_bipush (z := 6) (v := 6) (by decide +kernel) rfl ?_
  refine c_newa (aty := .int) (t0 := 0) (ty := .int) (N := 6) hI (by decide +kernel) (by decide +kernel) rfl rfl Ac_int ⟨by decide, by decide⟩ (by decide) (by decide) (by decide) (by decide +kernel) (by decide) (by decide) (by intro C; simp) (fun h hI => ?_)
  refine c_putr hI (hI.k 20 (by decide) (by decide +kernel)) F_State_21 (by decide +kernel) (Or.inr ⟨rfl, rfl, rfl⟩) rfl (by decide +kernel) (by decide +kernel) (fun h hI => ?_)
  refine g_aload_n (i := 0) (by decide +kernel) rfl ?_
  refine g_iconst (z := 5) (v := 5) (by decide +kernel) rfl ?_
  refine c_newa (aty := .int) (t0 := 0) (ty := .int) (N := 5) hI (by decide +kernel) (by decide +kernel) rfl rfl Ac_int ⟨by decide, by decide⟩ (by decide) (by decide) (by decide) (by decide +kernel) (by decide) (by decide) (by intro C; simp) (fun h hI => ?_)
  refine c_putr hI (hI.k 20 (by decide) (by decide +kernel)) F_State_25 (by decide +kernel) (Or.inr ⟨rfl, rfl, rfl⟩) rfl (by decide +kernel) (by decide +kernel) (fun h hI => ?_)
  refine g_aload_n (i := 0) (by decide +kernel) rfl ?_
  refine g_iconst (z := 5) (v := 5) (by decide +kernel) rfl ?_
  refine c_newa (aty := .int) (t0 := 0) (ty := .int) (N := 5) hI (by decide +kernel) (by decide +kernel) rfl rfl Ac_int ⟨by decide, by decide⟩ (by decide) (by decide) (by decide) (by decide +kernel) (by decide) (by decide) (by intro C; simp) (fun h hI => ?_)
  refine c_putr hI (hI.k 20 (by decide) (by decide +kernel)) F_State_28 (by decide +kernel) (Or.inr ⟨rfl, rfl, rfl⟩) rfl (by decide +kernel) (by decide +kernel) (fun h hI => ?_)
  exact g_vret (st := []) (by decide +kernel) rfl (by decide) (by decide) ⟨rfl, hI⟩
set_option maxRecDepth 100000 in
set_option maxHeartbeats 4000000 in
theorem ct_State_init_24 {h : am_H} (hI : am_In 25 22 17 h) : am_Ct 1 M_State_init [.ref 24] h 3 16 (fun v h => v = none ∧ am_In 28 25 20 h) := by
  refine am_Ct.of (by decide) rfl (Nat.le_of_ble_eq_true rfl) (ls := [(0, .ref 24)]) rfl ?_
  refine g_aload_n (i := 0) (by decide +kernel) rfl ?_
  refine g_objInit L_State_3 Oc_inst Oc_code (by decide +kernel) (Nat.le_of_ble_eq_true rfl) (by decide) ?_
  refine g_aload_n (i := 0) (by decide +kernel) rfl ?_
  refine g_iconst (z := 0) (v := 0) (by decide +kernel) rfl ?_
  refine c_puti hI (hI.k 24 (by decide) (by decide +kernel)) F_State_9 (by decide +kernel) (Or.inl rfl) rfl rfl rfl (by decide +kernel) (fun h hI => ?_)
  refine g_aload_n (i := 0) (by decide +kernel) rfl ?_
  refine g_iconst (z := 0) (v := 0) (by decide +kernel) rfl ?_
  refine c_puti hI (hI.k 24 (by decide) (by decide +kernel)) F_State_15 (by decide +kernel) (Or.inl rfl) rfl rfl rfl (by decide +kernel) (fun h hI => ?_)
  refine g_aload_n (i := 0) (by decide +kernel) rfl ?_
  refine g_iconst (z := 0) (v := 0) (by decide +kernel) rfl ?_
  refine c_puti hI (hI.k 24 (by decide) (by decide +kernel)) F_State_18 (by decide +kernel) (Or.inl rfl) rfl rfl rfl (by decide +kernel) (fun h hI => ?_)
  refine g_aload_n (i := 0) (by decide +kernel) rfl ?_
  refine g_bipush (z := 6) (v := 6) (by decide +kernel) rfl ?_
  refine c_newa (aty := .int) (t0 := 0) (ty := .int) (N := 6) hI (by decide +kernel) (by decide +kernel) rfl rfl Ac_int ⟨by decide, by decide⟩ (by decide) (by decide) (by decide) (by decide +kernel) (by decide) (by decide) (by intro C; simp) (fun h hI => ?_)
  refine c_putr hI (hI.k 24 (by decide) (by decide +kernel)) F_State_21 (by decide +kernel) (Or.inr ⟨rfl, rfl, rfl⟩) rfl (by decide +kernel) (by decide +kernel) (fun h hI => ?_)
  refine g_aload_n (i := 0) (by decide +kernel) rfl ?_
  refine g_iconst (z := 5) (v := 5) (by decide +kernel) rfl ?_
  refine c_newa (aty := .int) (t0 := 0) (ty := .int) (N := 5) hI (by decide +kernel) (by decide +kernel) rfl rfl Ac_int ⟨by decide, by decide⟩ (by decide) (by decide) (by decide) (by decide +kernel) (by decide) (by decide) (by intro C; simp) (fun h hI => ?_)
  refine c_putr hI (hI.k 24 (by decide) (by decide +kernel)) F_State_25 (by decide +kernel) (Or.inr ⟨rfl, rfl, rfl⟩) rfl (by decide +kernel) (by decide +kernel) (fun h hI => ?_)
  refine g_aload_n (i := 0) (by decide +kernel) rfl ?_
  refine g_iconst (z := 5) (v := 5) (by decide +kernel) rfl ?_
  refine c_newa (aty := .int) (t0 := 0) (ty := .int) (N := 5) hI (by decide +kernel) (by decide +kernel) rfl rfl Ac_int ⟨by decide, by decide⟩ (by decide) (by decide) (by decide) (by decide +kernel) (by decide) (by decide) (by intro C; simp) (fun h hI => ?_)
  refine c_putr hI (hI.k 24 (by decide) (by decide +kernel)) F_State_28 (by decide +kernel) (Or.inr ⟨rfl, rfl, rfl⟩) rfl (by decide +kernel) (by decide +kernel) (fun h hI => ?_)
  exact g_vret (st := []) (by decide +kernel) rfl (by decide) (by decide) ⟨rfl, hI⟩
set_option maxRecDepth 100000 in
set_option maxHeartbeats 4000000 in
theorem ct_State_init_28 {h : am_H} (hI : am_In 29 26 20 h) : am_Ct 1 M_State_init [.ref 28] h 3 16 (fun v h => v = none ∧ am_In 32 29 23 h) := by
  refine am_Ct.of (by decide) rfl (Nat.le_of_ble_eq_true rfl) (ls := [(0, .ref 28)]) rfl ?_
  refine g_aload_n (i := 0) (by decide +kernel) rfl ?_
  refine g_objInit L_State_3 Oc_inst Oc_code (by decide +kernel) (Nat.le_of_ble_eq_true rfl) (by decide) ?_
  refine g_aload_n (i := 0) (by decide +kernel) rfl ?_
  refine g_iconst (z := 0) (v := 0) (by decide +kernel) rfl ?_
  refine c_puti hI (hI.k 28 (by decide) (by decide +kernel)) F_State_9 (by decide +kernel) (Or.inl rfl) rfl rfl rfl (by decide +kernel) (fun h hI => ?_)
  refine g_aload_n (i := 0) (by decide +kernel) rfl ?_
  refine g_iconst (z := 0) (v := 0) (by decide +kernel) rfl ?_
  refine c_puti hI (hI.k 28 (by decide) (by decide +kernel)) F_State_15 (by decide +kernel) (Or.inl rfl) rfl rfl rfl (by decide +kernel) (fun h hI => ?_)
  refine g_aload_n (i := 0) (by decide +kernel) rfl ?_
  refine g_iconst (z := 0) (v := 0) (by decide +kernel) rfl ?_
  refine c_puti hI (hI.k 28 (by decide) (by decide +kernel)) F_State_18 (by decide +kernel) (Or.inl rfl) rfl rfl rfl (by decide +kernel) (fun h hI => ?_)
  refine g_aload_n (i := 0) (by decide +kernel) rfl ?_
  refine g_bipush (z := 6) (v := 6) (by decide +kernel) rfl ?_
  refine c_newa (aty := .int) (t0 := 0) (ty := .int) (N := 6) hI (by decide +kernel) (by decide +kernel) rfl rfl Ac_int ⟨by decide, by decide⟩ (by decide) (by decide) (by decide) (by decide +kernel) (by decide) (by decide) (by intro C; simp) (fun h hI => ?_)
  refine c_putr hI (hI.k 28 (by decide) (by decide +kernel)) F_State_21 (by decide +kernel) (Or.inr ⟨rfl, rfl, rfl⟩) rfl (by decide +kernel) (by decide +kernel) (fun h hI => ?_)
  refine g_aload_n (i := 0) (by decide +kernel) rfl ?_
  refine g_iconst (z := 5) (v := 5) (by decide +kernel) rfl ?_
  refine c_newa (aty := .int) (t0 := 0) (ty := .int) (N := 5) hI (by decide +kernel) (by decide +kernel) rfl rfl Ac_int ⟨by decide, by decide⟩ (by decide) (by decide) (by decide) (by decide +kernel) (by decide) (by decide) (by intro C; simp) (fun h hI => ?_)
  refine c_putr hI (hI.k 28 (by decide) (by decide +kernel)) F_State_25 (by decide +kernel) (Or.inr ⟨rfl, rfl, rfl⟩) rfl (by decide +kernel) (by decide +kernel) (fun h hI => ?_)
  refine g_aload_n (i := 0) (by decide +kernel) rfl ?_
  refine g_iconst (z := 5) (v := 5) (by decide +kernel) rfl ?_
  refine c_newa (aty := .int) (t0 := 0) (ty := .int) (N := 5) hI (by decide +kernel) (by decide +kernel) rfl rfl Ac_int ⟨by decide, by decide⟩ (by decide) (by decide) (by decide) (by decide +kernel) (by decide) (by decide) (by intro C; simp) (fun h hI => ?_)
  refine c_putr hI (hI.k 28 (by decide) (by decide +kernel)) F_State_28 (by decide +kernel) (Or.inr ⟨rfl, rfl, rfl⟩) rfl (by decide +kernel) (by decide +kernel) (fun h hI => ?_)
  exact g_vret (st := []) (by decide +kernel) rfl (by decide) (by decide) ⟨rfl, hI⟩
set_option maxRecDepth 100000 in
set_option maxHeartbeats 4000000 in
theorem ct_State_init_32 {h : am_H} (hI : am_In 33 30 23 h) : am_Ct 1 M_State_init [.ref 32] h 3 16 (fun v h => v = none ∧ am_In 36 33 26 h) := by
  refine am_Ct.of (by decide) rfl (Nat.le_of_ble_eq_true rfl) (ls := [(0, .ref 32)]) rfl ?_
  refine g_aload_n (i := 0) (by decide +kernel) rfl ?_
  refine g_objInit L_State_3 Oc_inst Oc_code (by decide +kernel) (Nat.le_of_ble_eq_true rfl) (by decide) ?_
  refine g_aload_n (i := 0) (by decide +kernel) rfl ?_
  refine g_iconst (z := 0) (v := 0) (by decide +kernel) rfl ?_
  refine c_puti hI (hI.k 32 (by decide) (by decide +kernel)) F_State_9 (by decide +kernel) (Or.inl rfl) rfl rfl rfl (by decide +kernel) (fun h hI => ?_)
  refine g_aload_n (i := 0) (by decide +kernel) rfl ?_
  refine g_iconst (z := 0) (v := 0) (by decide +kernel) rfl ?_
  refine c_puti hI (hI.k 32 (by decide) (by decide +kernel)) F_State_15 (by decide +kernel) (Or.inl rfl) rfl rfl rfl (by decide +kernel) (fun h hI => ?_)
  refine g_aload_n (i := 0) (by decide +kernel) rfl ?_
  refine g_iconst (z := 0) (v := 0) (by decide +kernel) rfl ?_
  refine c_puti hI (hI.k 32 (by decide) (by decide +kernel)) F_State_18 (by decide +kernel) (Or.inl rfl) rfl rfl rfl (by decide +kernel) (fun h hI => ?_)
  refine g_aload_n (i := 0) (by decide +kernel) rfl ?_
  refine g_bipush (z := 6) (v := 6) (by decide +kernel) rfl ?_
  refine c_newa (aty := .int) (t0 := 0) (ty := .int) (N := 6) hI (by decide +kernel) (by decide +kernel) rfl rfl Ac_int ⟨by decide, by decide⟩ (by decide) (by decide) (by decide) (by decide +kernel) (by decide) (by decide) (by intro C; simp) (fun h hI => ?_)
  refine c_putr hI (hI.k 32 (by decide) (by decide +kernel)) F_State_21 (by decide +kernel) (Or.inr ⟨rfl, rfl, rfl⟩) rfl (by decide +kernel) (by decide +kernel) (fun h hI => ?_)
  refine g_aload_n (i := 0) (by decide +kernel) rfl ?_
  refine g_iconst (z := 5) (v := 5) (by decide +kernel) rfl ?_
  refine c_newa (aty := .int) (t0 := 0) (ty := .int) (N := 5) hI (by decide +kernel) (by decide +kernel) rfl rfl Ac_int ⟨by decide, by decide⟩ (by decide) (by decide) (by decide) (by decide +kernel) (by decide) (by decide) (by intro C; simp) (fun h hI => ?_)
  refine c_putr hI (hI.k 32 (by decide) (by decide +kernel)) F_State_25 (by decide +kernel) (Or.inr ⟨rfl, rfl, rfl⟩) rfl (by decide +kernel) (by decide +kernel) (fun h hI => ?_)
  refine g_aload_n (i := 0) (by decide +kernel) rfl ?_
  refine g_iconst (z := 5) (v := 5) (by decide +kernel) rfl ?_
  refine c_newa (aty := .int) (t0 := 0) (ty := .int) (N := 5) hI (by decide +kernel) (by decide +kernel) rfl rfl Ac_int ⟨by decide, by decide⟩ (by decide) (by decide) (by decide) (by decide +kernel) (by decide) (by decide) (by intro C; simp) (fun h hI => ?_)
  refine c_putr hI (hI.k 32 (by decide) (by decide +kernel)) F_State_28 (by decide +kernel) (Or.inr ⟨rfl, rfl, rfl⟩) rfl (by decide +kernel) (by decide +kernel) (fun h hI => ?_)
  exact g_vret (st := []) (by decide +kernel) rfl (by decide) (by decide) ⟨rfl, hI⟩
set_option maxRecDepth 100000 in
set_option maxHeartbeats 4000000 in
theorem ct_State_init_36 {h : am_H} (hI : am_In 37 34 26 h) : am_Ct 1 M_State_init [.ref 36] h 3 16 (fun v h => v = none ∧ am_In 40 37 29 h) := by
  refine am_Ct.of (by decide) rfl (Nat.le_of_ble_eq_true rfl) (ls := [(0, .ref 36)]) rfl ?_
  refine g_aload_n (i := 0) (by decide +kernel) rfl ?_
  refine g_objInit L_State_3 Oc_inst Oc_code (by decide +kernel) (Nat.le_of_ble_eq_true rfl) (by decide) ?_
  refine g_aload_n (i := 0) (by decide +kernel) rfl ?_
  refine g_iconst (z := 0) (v := 0) (by decide +kernel) rfl ?_
  refine c_puti hI (hI.k 36 (by decide) (by decide +kernel)) F_State_9 (by decide +kernel) (Or.inl rfl) rfl rfl rfl (by decide +kernel) (fun h hI => ?_)
  refine g_aload_n (i := 0) (by decide +kernel) rfl ?_
  refine g_iconst (z := 0) (v := 0) (by decide +kernel) rfl ?_
  refine c_puti hI (hI.k 36 (by decide) (by decide +kernel)) F_State_15 (by decide +kernel) (Or.inl rfl) rfl rfl rfl (by decide +kernel) (fun h hI => ?_)
  refine g_aload_n (i := 0) (by decide +kernel) rfl ?_
  refine g_iconst (z := 0) (v := 0) (by decide +kernel) rfl ?_
  refine c_puti hI (hI.k 36 (by decide) (by decide +kernel)) F_State_18 (by decide +kernel) (Or.inl rfl) rfl rfl rfl (by decide +kernel) (fun h hI => ?_)
  refine g_aload_n (i := 0) (by decide +kernel) rfl ?_
  refine g_bipush (z := 6) (v := 6) (by decide +kernel) rfl ?_
  refine c_newa (aty := .int) (t0 := 0) (ty := .int) (N := 6) hI (by decide +kernel) (by decide +kernel) rfl rfl Ac_int ⟨by decide, by decide⟩ (by decide) (by decide) (by decide) (by decide +kernel) (by decide) (by decide) (by intro C; simp) (fun h hI => ?_)
  refine c_putr hI (hI.k 36 (by decide) (by decide +kernel)) F_State_21 (by decide +kernel) (Or.inr ⟨rfl, rfl, rfl⟩) rfl (by decide +kernel) (by decide +kernel) (fun h hI => ?_)
  refine g_aload_n (i := 0) (by decide +kernel) rfl ?_
  refine g_iconst (z := 5) (v := 5) (by decide +kernel) rfl ?_
  refine c_newa (aty := .int) (t0 := 0) (ty := .int) (N := 5) hI (by decide +kernel) (by decide +kernel) rfl rfl Ac_int ⟨by decide, by decide⟩ (by decide) (by decide) (by decide) (by decide +kernel) (by decide) (by decide) (by intro C; simp) (fun h hI => ?_)
  refine c_putr hI (hI.k 36 (by decide) (by decide +kernel)) F_State_25 (by decide +kernel) (Or.inr ⟨rfl, rfl, rfl⟩) rfl (by decide +kernel) (by decide +kernel) (fun h hI => ?_)
  refine g_aload_n (i := 0) (by decide +kernel) rfl ?_
  refine g_iconst (z := 5) (v := 5) (by decide +kernel) rfl ?_
  refine c_newa (aty := .int) (t0 := 0) (ty := .int) (N := 5) hI (by decide +kernel) (by decide +kernel) rfl rfl Ac_int ⟨by decide, by decide⟩ (by decide) (by decide) (by decide) (by decide +kernel) (by decide) (by decide) (by intro C; simp) (fun h hI => ?_)
  refine c_putr hI (hI.k 36 (by decide) (by decide +kernel)) F_State_28 (by decide +kernel) (Or.inr ⟨rfl, rfl, rfl⟩) rfl (by decide +kernel) (by decide +kernel) (fun h hI => ?_)
  exact g_vret (st := []) (by decide +kernel) rfl (by decide) (by decide) ⟨rfl, hI⟩
set_option maxRecDepth 100000 in
set_option maxHeartbeats 4000000 in
theorem ct_State_init_40 {h : am_H} (hI : am_In 41 38 29 h) : am_Ct 1 M_State_init [.ref 40] h 3 16 (fun v h => v = none ∧ am_In 44 41 32 h) := by
  refine am_Ct.of (by decide) rfl (Nat.le_of_ble_eq_true rfl) (ls := [(0, .ref 40)]) rfl ?_
  refine g_aload_n (i := 0) (by decide +kernel) rfl ?_
  refine g_objInit L_State_3 Oc_inst Oc_code (by decide +kernel) (Nat.le_of_ble_eq_true rfl) (by decide) ?_
  refine g_aload_n (i := 0) (by decide +kernel) rfl ?_
  refine g_iconst (z := 0) (v := 0) (by decide +kernel) rfl ?_
  refine c_puti hI (hI.k 40 (by decide) (by decide +kernel)) F_State_9 (by decide +kernel) (Or.inl rfl) rfl rfl rfl (by decide +kernel) (fun h hI => ?_)
  refine g_aload_n (i := 0) (by decide +kernel) rfl ?_
  refine g_iconst (z := 0) (v := 0) (by decide +kernel) rfl ?_
  refine c_puti hI (hI.k 40 (by decide) (by decide +kernel)) F_State_15 (by decide +kernel) (Or.inl rfl) rfl rfl rfl (by decide +kernel) (fun h hI => ?_)
  refine g_aload_n (i := 0) (by decide +kernel) rfl ?_
  refine g_iconst (z := 0) (v := 0) (by decide +kernel) rfl ?_
  refine c_puti hI (hI.k 40 (by decide) (by decide +kernel)) F_State_18 (by decide +kernel) (Or.inl rfl) rfl rfl rfl (by decide +kernel) (fun h hI => ?_)
  refine g_aload_n (i := 0) (by decide +kernel) rfl ?_
  refine g_bipush (z := 6) (v := 6) (by decide +kernel) rfl ?_
  refine c_newa (aty := .int) (t0 := 0) (ty := .int) (N := 6) hI (by decide +kernel) (by decide +kernel) rfl rfl Ac_int ⟨by decide, by decide⟩ (by decide) (by decide) (by decide) (by decide +kernel) (by decide) (by decide) (by intro C; simp) (fun h hI => ?_)
  refine c_putr hI (hI.k 40 (by decide) (by decide +kernel)) F_State_21 (by decide +kernel) (Or.inr ⟨rfl, rfl, rfl⟩) rfl (by decide +kernel) (by decide +kernel) (fun h hI => ?_)
  refine g_aload_n (i := 0) (by decide +kernel) rfl ?_
  refine g_iconst (z := 5) (v := 5) (by decide +kernel) rfl ?_
  refine c_newa (aty := .int) (t0 := 0) (ty := .int) (N := 5) hI (by decide +kernel) (by decide +kernel) rfl rfl Ac_int ⟨by decide, by decide⟩ (by decide) (by decide) (by decide) (by decide +kernel) (by decide) (by decide) (by intro C; simp) (fun h hI => ?_)
  refine c_putr hI (hI.k 40 (by decide) (by decide +kernel)) F_State_25 (by decide +kernel) (Or.inr ⟨rfl, rfl, rfl⟩) rfl (by decide +kernel) (by decide +kernel) (fun h hI => ?_)
  refine g_aload_n (i := 0) (by decide +kernel) rfl ?_
  refine g_iconst (z := 5) (v := 5) (by decide +kernel) rfl ?_
  refine c_newa (aty := .int) (t0 := 0) (ty := .int) (N := 5) hI (by decide +kernel) (by decide +kernel) rfl rfl Ac_int ⟨by decide, by decide⟩ (by decide) (by decide) (by decide) (by decide +kernel) (by decide) (by decide) (by intro C; simp) (fun h hI => ?_)
  refine c_putr hI (hI.k 40 (by decide) (by decide +kernel)) F_State_28 (by decide +kernel) (Or.inr ⟨rfl, rfl, rfl⟩) rfl (by decide +kernel) (by decide +kernel) (fun h hI => ?_)
  exact g_vret (st := []) (by decide +kernel) rfl (by decide) (by decide) ⟨rfl, hI⟩
set_option maxRecDepth 100000 in
set_option maxHeartbeats 4000000 in
theorem ct_State_init_44 {h : am_H} (hI : am_In 45 42 32 h) : am_Ct 1 M_State_init [.ref 44] h 3 16 (fun v h => v = none ∧ am_In 48 45 35 h) := by
  refine am_Ct.of (by decide) rfl (Nat.le_of_ble_eq_true rfl) (ls := [(0, .ref 44)]) rfl ?_
  refine g_aload_n (i := 0) (by decide +kernel) rfl ?_
  refine g_objInit L_State_3 Oc_inst Oc_code (by decide +kernel) (Nat.le_of_ble_eq_true rfl) (by decide) ?_
  refine g_aload_n (i := 0) (by decide +kernel) rfl ?_
  refine g_iconst (z := 0) (v := 0) (by decide +kernel) rfl ?_
  refine c_puti hI (hI.k 44 (by decide) (by decide +kernel)) F_State_9 (by decide +kernel) (Or.inl rfl) rfl rfl rfl (by decide +kernel) (fun h hI => ?_)
  refine g_aload_n (i := 0) (by decide +kernel) rfl ?_
  refine g_iconst (z := 0) (v := 0) (by decide +kernel) rfl ?_
  refine c_puti hI (hI.k 44 (by decide) (by decide +kernel)) F_State_15 (by decide +kernel) (Or.inl rfl) rfl rfl rfl (by decide +kernel) (fun h hI => ?_)
  refine g_aload_n (i := 0) (by decide +kernel) rfl ?_
  refine g_iconst (z := 0) (v := 0) (by decide +kernel) rfl ?_
  refine c_puti hI (hI.k 44 (by decide) (by decide +kernel)) F_State_18 (by decide +kernel) (Or.inl rfl) rfl rfl rfl (by decide +kernel) (fun h hI => ?_)
  refine g_aload_n (i := 0) (by decide +kernel) rfl ?_
  refine g_bipush (z := 6) (v := 6) (by decide +kernel) rfl ?_
  refine c_newa (aty := .int) (t0 := 0) (ty := .int) (N := 6) hI (by decide +kernel) (by decide +kernel) rfl rfl Ac_int ⟨by decide, by decide⟩ (by decide) (by decide) (by decide) (by decide +kernel) (by decide) (by decide) (by intro C; simp) (fun h hI => ?_)
  refine c_putr hI (hI.k 44 (by decide) (by decide +kernel)) F_State_21 (by decide +kernel) (Or.inr ⟨rfl, rfl, rfl⟩) rfl (by decide +kernel) (by decide +kernel) (fun h hI => ?_)
  refine g_aload_n (i := 0) (by decide +kernel) rfl ?_
  refine g_iconst (z := 5) (v := 5) (by decide +kernel) rfl ?_
  refine c_newa (aty := .int) (t0 := 0) (ty := .int) (N := 5) hI (by decide +kernel) (by decide +kernel) rfl rfl Ac_int ⟨by decide, by decide⟩ (by decide) (by decide) (by decide) (by decide +kernel) (by decide) (by decide) (by intro C; simp) (fun h hI => ?_)
  refine c_putr hI (hI.k 44 (by decide) (by decide +kernel)) F_State_25 (by decide +kernel) (Or.inr ⟨rfl, rfl, rfl⟩) rfl (by decide +kernel) (by decide +kernel) (fun h hI => ?_)
  refine g_aload_n (i := 0) (by decide +kernel) rfl ?_
  refine g_iconst (z := 5) (v := 5) (by decide +kernel) rfl ?_
  refine c_newa (aty := .int) (t0 := 0) (ty := .int) (N := 5) hI (by decide +kernel) (by decide +kernel) rfl rfl Ac_int ⟨by decide, by decide⟩ (by decide) (by decide) (by decide) (by decide +kernel) (by decide) (by decide) (by intro C; simp) (fun h hI => ?_)
  refine c_putr hI (hI.k 44 (by decide) (by decide +kernel)) F_State_28 (by decide +kernel) (Or.inr ⟨rfl, rfl, rfl⟩) rfl (by decide +kernel) (by decide +kernel) (fun h hI => ?_)
  exact g_vret (st := []) (by decide +kernel) rfl (by decide) (by decide) ⟨rfl, hI⟩
set_option maxRecDepth 100000 in
set_option maxHeartbeats 4000000 in
theorem ct_State_init_48 {h : am_H} (hI : am_In 49 46 35 h) : am_Ct 1 M_State_init [.ref 48] h 3 16 (fun v h => v = none ∧ am_In 52 49 38 h) := by
  refine am_Ct.of (by decide) rfl (Nat.le_of_ble_eq_true rfl) (ls := [(0, .ref 48)]) rfl ?_
  refine g_aload_n (i := 0) (by decide +kernel) rfl ?_
  refine g_objInit L_State_3 Oc_inst Oc_code (by decide +kernel) (Nat.le_of_ble_eq_true rfl) (by decide) ?_
  refine g_aload_n (i := 0) (by decide +kernel) rfl ?_
  refine g_iconst (z := 0) (v := 0) (by decide +kernel) rfl ?_
  refine c_puti hI (hI.k 48 (by decide) (by decide +kernel)) F_State_9 (by decide +kernel) (Or.inl rfl) rfl rfl rfl (by decide +kernel) (fun h hI => ?_)
  refine g_aload_n (i := 0) (by decide +kernel) rfl ?_
  refine g_iconst (z := 0) (v := 0) (by decide +kernel) rfl ?_
  refine c_puti hI (hI.k 48 (by decide) (by decide +kernel)) F_State_15 (by decide +kernel) (Or.inl rfl) rfl rfl rfl (by decide +kernel) (fun h hI => ?_)
  refine g_aload_n (i := 0) (by decide +kernel) rfl ?_
  refine g_iconst (z := 0) (v := 0) (by decide +kernel) rfl ?_
  refine c_puti hI (hI.k 48 (by decide) (by decide +kernel)) F_State_18 (by decide +kernel) (Or.inl rfl) rfl rfl rfl (by decide +kernel) (fun h hI => ?_)
  refine g_aload_n (i := 0) (by decide +kernel) rfl ?_
  refine g_bipush (z := 6) (v := 6) (by decide +kernel) rfl ?_
  refine c_newa (aty := .int) (t0 := 0) (ty := .int) (N := 6) hI (by decide +kernel) (by decide +kernel) rfl rfl Ac_int ⟨by decide, by decide⟩ (by decide) (by decide) (by decide) (by decide +kernel) (by decide) (by decide) (by intro C; simp) (fun h hI => ?_)
  refine c_putr hI (hI.k 48 (by decide) (by decide +kernel)) F_State_21 (by decide +kernel) (Or.inr ⟨rfl, rfl, rfl⟩) rfl (by decide +kernel) (by decide +kernel) (fun h hI => ?_)
  refine g_aload_n (i := 0) (by decide +kernel) rfl ?_
  refine g_iconst (z := 5) (v := 5) (by decide +kernel) rfl ?_
  refine c_newa (aty := .int) (t0 := 0) (ty := .int) (N := 5) hI (by decide +kernel) (by decide +kernel) rfl rfl Ac_int ⟨by decide, by decide⟩ (by decide) (by decide) (by decide) (by decide +kernel) (by decide) (by decide) (by intro C; simp) (fun h hI => ?_)
  refine c_putr hI (hI.k 48 (by decide) (by decide +kernel)) F_State_25 (by decide +kernel) (Or.inr ⟨rfl, rfl, rfl⟩) rfl (by decide +kernel) (by decide +kernel) (fun h hI => ?_)
  refine g_aload_n (i := 0) (by decide +kernel) rfl ?_
  refine g_iconst (z := 5) (v := 5) (by decide +kernel) rfl ?_
  refine c_newa (aty := .int) (t0 := 0) (ty := .int) (N := 5) hI (by decide +kernel) (by decide +kernel) rfl rfl Ac_int ⟨by decide, by decide⟩ (by decide) (by decide) (by decide) (by decide +kernel) (by decide) (by decide) (by intro C; simp) (fun h hI => ?_)
  refine c_putr hI (hI.k 48 (by decide) (by decide +kernel)) F_State_28 (by decide +kernel) (Or.inr ⟨rfl, rfl, rfl⟩) rfl (by decide +kernel) (by decide +kernel) (fun h hI => ?_)
  exact g_vret (st := []) (by decide +kernel) rfl (by decide) (by decide) ⟨rfl, hI⟩
set_option maxRecDepth 100000 in
set_option maxHeartbeats 4000000 in
theorem ct_State_init_52 {h : am_H} (hI : am_In 53 50 38 h) : am_Ct 1 M_State_init [.ref 52] h 3 16 (fun v h => v = none ∧ am_In 56 53 41 h) := by
  refine am_Ct.of (by decide) rfl (Nat.le_of_ble_eq_true rfl) (ls := [(0, .ref 52)]) rfl ?_
  refine g_aload_n (i := 0) (by decide +kernel) rfl ?_
  refine g_objInit L_State_3 Oc_inst Oc_code (by decide +kernel) (Nat.le_of_ble_eq_true rfl) (by decide) ?_
  refine g_aload_n (i := 0) (by decide +kernel) rfl ?_
  refine g_iconst (z := 0) (v := 0) (by decide +kernel) rfl ?_
  refine c_puti hI (hI.k 52 (by decide) (by decide +kernel)) F_State_9 (by decide +kernel) (Or.inl rfl) rfl rfl rfl (by decide +kernel) (fun h hI => ?_)
  refine g_aload_n (i := 0) (by decide +kernel) rfl ?_
  refine g_iconst (z := 0) (v := 0) (by decide +kernel) rfl ?_
  refine c_puti hI (hI.k 52 (by decide) (by decide +kernel)) F_State_15 (by decide +kernel) (Or.inl rfl) rfl rfl rfl (by decide +kernel) (fun h hI => ?_)
  refine g_aload_n (i := 0) (by decide +kernel) rfl ?_
  refine g_iconst (z := 0) (v := 0) (by decide +kernel) rfl ?_
  refine c_puti hI (hI.k 52 (by decide) (by decide +kernel)) F_State_18 (by decide +kernel) (Or.inl rfl) rfl rfl rfl (by decide +kernel) (fun h hI => ?_)
  refine g_aload_n (i := 0) (by decide +kernel) rfl ?_
  refine g_bipush (z := 6) (v := 6) (by decide +kernel) rfl ?_
  refine c_newa (aty := .int) (t0 := 0) (ty := .int) (N := 6) hI (by decide +kernel) (by decide +kernel) rfl rfl Ac_int ⟨by decide, by decide⟩ (by decide) (by decide) (by decide) (by decide +kernel) (by decide) (by decide) (by intro C; simp) (fun h hI => ?_)
  refine c_putr hI (hI.k 52 (by decide) (by decide +kernel)) F_State_21 (by decide +kernel) (Or.inr ⟨rfl, rfl, rfl⟩) rfl (by decide +kernel) (by decide +kernel) (fun h hI => ?_)
  refine g_aload_n (i := 0) (by decide +kernel) rfl ?_
  refine g_iconst (z := 5) (v := 5) (by decide +kernel) rfl ?_
  refine c_newa (aty := .int) (t0 := 0) (ty := .int) (N := 5) hI (by decide +kernel) (by decide +kernel) rfl rfl Ac_int ⟨by decide, by decide⟩ (by decide) (by decide) (by decide) (by decide +kernel) (by decide) (by decide) (by intro C; simp) (fun h hI => ?_)
  refine c_putr hI (hI.k 52 (by decide) (by decide +kernel)) F_State_25 (by decide +kernel) (Or.inr ⟨rfl, rfl, rfl⟩) rfl (by decide +kernel) (by decide +kernel) (fun h hI => ?_)
  refine g_aload_n (i := 0) (by decide +kernel) rfl ?_
  refine g_iconst (z := 5) (v := 5) (by decide +kernel) rfl ?_
  refine c_newa (aty := .int) (t0 := 0) (ty := .int) (N := 5) hI (by decide +kernel) (by decide +kernel) rfl rfl Ac_int ⟨by decide, by decide⟩ (by decide) (by decide) (by decide) (by decide +kernel) (by decide) (by decide) (by intro C; simp) (fun h hI => ?_)
  refine c_putr hI (hI.k 52 (by decide) (by decide +kernel)) F_State_28 (by decide +kernel) (Or.inr ⟨rfl, rfl, rfl⟩) rfl (by decide +kernel) (by decide +kernel) (fun h hI => ?_)
  exact g_vret (st := []) (by decide +kernel) rfl (by decide) (by decide) ⟨rfl, hI⟩
set_option maxRecDepth 100000 in
set_option maxHeartbeats 4000000 in
theorem ct_State_init_56 {h : am_H} (hI : am_In 57 54 41 h) : am_Ct 1 M_State_init [.ref 56] h 3 16 (fun v h => v = none ∧ am_In 60 57 44 h) := by
  refine am_Ct.of (by decide) rfl (Nat.le_of_ble_eq_true rfl) (ls := [(0, .ref 56)]) rfl ?_
  refine g_aload_n (i := 0) (by decide +kernel) rfl ?_
  refine g_objInit L_State_3 Oc_inst Oc_code (by decide +kernel) (Nat.le_of_ble_eq_true rfl) (by decide) ?_
  refine g_aload_n (i := 0) (by decide +kernel) rfl ?_
  refine g_iconst (z := 0) (v := 0) (by decide +kernel) rfl ?_
  refine c_puti hI (hI.k 56 (by decide) (by decide +kernel)) F_State_9 (by decide +kernel) (Or.inl rfl) rfl rfl rfl (by decide +kernel) (fun h hI => ?_)
  refine g_aload_n (i := 0) (by decide +kernel) rfl ?_
  refine g_iconst (z := 0) (v := 0) (by decide +kernel) rfl ?_
  refine c_puti hI (hI.k 56 (by decide) (by decide +kernel)) F_State_15 (by decide +kernel) (Or.inl rfl) rfl rfl rfl (by decide +kernel) (fun h hI => ?_)
  refine g_aload_n (i := 0) (by decide +kernel) rfl ?_
  refine g_iconst (z := 0) (v := 0) (by decide +kernel) rfl ?_
  refine c_puti hI (hI.k 56 (by decide) (by decide +kernel)) F_State_18 (by decide +kernel) (Or.inl rfl) rfl rfl rfl (by decide +kernel) (fun h hI => ?_)
  refine g_aload_n (i := 0) (by decide +kernel) rfl ?_
  refine g_bipush (z := 6) (v := 6) (by decide +kernel) rfl ?_
  refine c_newa (aty := .int) (t0 := 0) (ty := .int) (N := 6) hI (by decide +kernel) (by decide +kernel) rfl rfl Ac_int ⟨by decide, by decide⟩ (by decide) (by decide) (by decide) (by decide +kernel) (by decide) (by decide) (by intro C; simp) (fun h hI => ?_)
  refine c_putr hI (hI.k 56 (by decide) (by decide +kernel)) F_State_21 (by decide +kernel) (Or.inr ⟨rfl, rfl, rfl⟩) rfl (by decide +kernel) (by decide +kernel) (fun h hI => ?_)
  refine g_aload_n (i := 0) (by decide +kernel) rfl ?_
  refine g_iconst (z := 5) (v := 5) (by decide +kernel) rfl ?_
  refine c_newa (aty := .int) (t0 := 0) (ty := .int) (N := 5) hI (by decide +kernel) (by decide +kernel) rfl rfl Ac_int ⟨by decide, by decide⟩ (by decide) (by decide) (by decide) (by decide +kernel) (by decide) (by decide) (by intro C; simp) (fun h hI => ?_)
  refine c_putr hI (hI.k 56 (by decide) (by decide +kernel)) F_State_25 (by decide +kernel) (Or.inr ⟨rfl, rfl, rfl⟩) rfl (by decide +kernel) (by decide +kernel) (fun h hI => ?_)
  refine g_aload_n (i := 0) (by decide +kernel) rfl ?_
  refine g_iconst (z := 5) (v := 5) (by decide +kernel) rfl ?_
  refine c_newa (aty := .int) (t0 := 0) (ty := .int) (N := 5) hI (by decide +kernel) (by decide +kernel) rfl rfl Ac_int ⟨by decide, by decide⟩ (by decide) (by decide) (by decide) (by decide +kernel) (by decide) (by decide) (by intro C; simp) (fun h hI => ?_)
  refine c_putr hI (hI.k 56 (by decide) (by decide +kernel)) F_State_28 (by decide +kernel) (Or.inr ⟨rfl, rfl, rfl⟩) rfl (by decide +kernel) (by decide +kernel) (fun h hI => ?_)
  exact g_vret (st := []) (by decide +kernel) rfl (by decide) (by decide) ⟨rfl, hI⟩
set_option maxRecDepth 100000 in
set_option maxHeartbeats 4000000 in
theorem ct_Past_init_18 {h : am_H} (hI : am_In 19 17 12 h) : am_Ct 2 M_Past_init [.ref 18] h 41 230 (fun v h => v = none ∧ am_In 60 58 44 h) := by
  refine am_Ct.of (by decide) rfl (Nat.le_of_ble_eq_true rfl) (ls := [(0, .ref 18)]) rfl ?_
  refine g_aload_n (i := 0) (by decide +kernel) rfl ?_
  refine g_objInit L_Past_3 Oc_inst Oc_code (by decide +kernel) (Nat.le_of_ble_eq_true rfl) (by decide) ?_
  refine g_aload_n (i := 0) (by decide +kernel) rfl ?_
  refine g_bipush (z := 10) (v := 10) (by decide +kernel) rfl ?_
  refine c_newq (t0 := 6) (N := 10) (C := "MovedSpan$State") hI (by decide +kernel) (by decide +kernel) rfl Cl_Past_9 Ao_State (by decide) (by decide) (by decide) (by decide +kernel) (by decide) (by decide) (fun h hI => ?_)
  refine c_putr hI (hI.k 18 (by decide) (by decide +kernel)) F_Past_11 (by decide +kernel) (Or.inr ⟨rfl, rfl, rfl⟩) rfl (by decide +kernel) (by decide +kernel) (fun h hI => ?_)
  refine g_aload_n (i := 0) (by decide +kernel) rfl ?_
  refine g_iconst (z := 0) (v := 0) (by decide +kernel) rfl ?_
  refine c_puti hI (hI.k 18 (by decide) (by decide +kernel)) F_Past_17 (by decide +kernel) (Or.inl rfl) rfl rfl rfl (by decide +kernel) (fun h hI => ?_)
  refine g_aload_n (i := 0) (by decide +kernel) rfl ?_
  refine g_iconst (z := 0) (v := 0) (by decide +kernel) rfl ?_
  refine c_puti hI (hI.k 18 (by decide) (by decide +kernel)) F_Past_21 (by decide +kernel) (Or.inl rfl) rfl rfl rfl (by decide +kernel) (fun h hI => ?_)
  refine g_iconst (z := 0) (v := 0) (by decide +kernel) rfl ?_
  refine g_istore_n (i := 1) (by decide +kernel) rfl (by decide) (ls1 := [(0, .ref 18), (1, .int 0)]) rfl ?_
  refine g_iload_n (i := 1) (by decide +kernel) rfl ?_
  refine g_bipush (z := 10) (v := 10) (by decide +kernel) rfl ?_
  refine g_icmp_ge (off := 22) (tgt := 50) (by decide +kernel) (by decide) (fun c => absurd c (by decide)) (fun _ => ?_)
  refine g_aload_n (i := 0) (by decide +kernel) rfl ?_
  refine g_getr (hI.k 18 (by decide) (by decide +kernel)) F_Past_11.1 F_Past_11.2 (by decide +kernel) rfl (hI.r 17 (by decide) (q := (18, 0, 19)) (by decide +kernel)) ?_
  refine g_iload_n (i := 1) (by decide +kernel) rfl ?_
  refine c_new (c := 7) hI (by decide +kernel) (by decide +kernel) (by decide) Cl_Past_9 Ins_State In_State (by decide +kernel) (by decide +kernel) (by decide) (by decide) (fun h hI => ?_)
  refine g_dup (by decide +kernel) rfl ?_
  refine g_callIN (as := []) (st := [.ref 20, .int 0, .ref 19]) (ct_State_init_20 hI) Y_State_init Vi_State_init rfl rfl L_Past_24 (by decide +kernel) rfl rfl (Nat.le_of_ble_eq_true rfl) (by decide) (by decide) (by decide) (fun v h hq => ?_)
  obtain ⟨rfl, hI⟩ := hq
  refine c_aast (c := 7) (t0 := 6) (L := 10) hI (hI.k 19 (by decide) (by decide +kernel)) rfl (hI.k 20 (by decide) (by decide +kernel)) (by unfold vp_in; decide) (by decide +kernel) (by decide +kernel) (by decide +kernel) (fun h hI => ?_)
  refine g_iinc (i := 1) (z := 1) (v := 1) (by decide +kernel) rfl rfl rfl (by decide) (ls1 := [(0, .ref 18), (1, .int 1)]) rfl ?_
  refine g_goto (off := (-22)) (tgt := 25) (by decide +kernel) (by decide) ?_
  refine g_iload_n (i := 1) (by decide +kernel) rfl ?_
  refine g_bipush (z := 10) (v := 10) (by decide +kernel) rfl ?_
  refine g_icmp_ge (off := 22) (tgt := 50) (by decide +kernel) (by decide) (fun c => absurd c (by decide)) (fun _ => ?_)
  refine g_aload_n (i := 0) (by decide +kernel) rfl ?_
  refine g_getr (hI.k 18 (by decide) (by decide +kernel)) F_Past_11.1 F_Past_11.2 (by decide +kernel) rfl (hI.r 17 (by decide) (q := (18, 0, 19)) (by decide +kernel)) ?_
  refine g_iload_n (i := 1) (by decide +kernel) rfl ?_
  refine c_new (c := 7) hI (by decide +kernel) (by decide +kernel) (by decide) Cl_Past_9 Ins_State In_State (by decide +kernel) (by decide +kernel) (by decide) (by decide) (fun h hI => ?_)
  refine g_dup (by decide +kernel) rfl ?_
  refine g_callIN (as := []) (st := [.ref 24, .int 1, .ref 19]) (ct_State_init_24 hI) Y_State_init Vi_State_init rfl rfl L_Past_24 (by decide +kernel) rfl rfl (Nat.le_of_ble_eq_true rfl) (by decide) (by decide) (by decide) (fun v h hq => ?_)
  obtain ⟨rfl, hI⟩ := hq
  refine c_aast (c := 7) (t0 := 6) (L := 10) hI (hI.k 19 (by decide) (by decide +kernel)) rfl (hI.k 24 (by decide) (by decide +kernel)) (by unfold vp_in; decide) (by decide +kernel) (by decide +kernel) (by decide +kernel) (fun h hI => ?_)
  refine g_iinc (i := 1) (z := 1) (v := 2) (by decide +kernel) rfl rfl rfl (by decide) (ls1 := [(0, .ref 18), (1, .int 2)]) rfl ?_
  refine g_goto (off := (-22)) (tgt := 25) (by decide +kernel) (by decide) ?_
  refine g_iload_n (i := 1) (by decide +kernel) rfl ?_
  refine g_bipush (z := 10) (v := 10) (by decide +kernel) rfl ?_
  refine g_icmp_ge (off := 22) (tgt := 50) (by decide +kernel) (by decide) (fun c => absurd c (by decide)) (fun _ => ?_)
  refine g_aload_n (i := 0) (by decide +kernel) rfl ?_
  refine g_getr (hI.k 18 (by decide) (by decide +kernel)) F_Past_11.1 F_Past_11.2 (by decide +kernel) rfl (hI.r 17 (by decide) (q := (18, 0, 19)) (by decide +kernel)) ?_
  refine g_iload_n (i := 1) (by decide +kernel) rfl ?_
  refine c_new (c := 7) hI (by decide +kernel) (by decide +kernel) (by decide) Cl_Past_9 Ins_State In_State (by decide +kernel) (by decide +kernel) (by decide) (by decide) (fun h hI => ?_)
  refine g_dup (by decide +kernel) rfl ?_
  refine g_callIN (as := []) (st := [.ref 28, .int 2, .ref 19]) (ct_State_init_28 hI) Y_State_init Vi_State_init rfl rfl L_Past_24 (by decide +kernel) rfl rfl (Nat.le_of_ble_eq_true rfl) (by decide) (by decide) (by decide) (fun v h hq => ?_)
  obtain ⟨rfl, hI⟩ := hq
  refine c_aast (c := 7) (t0 := 6) (L := 10) hI (hI.k 19 (by decide) (by decide +kernel)) rfl (hI.k 28 (by decide) (by decide +kernel)) (by unfold vp_in; decide) (by decide +kernel) (by decide +kernel) (by decide +kernel) (fun h hI => ?_)
  refine g_iinc (i := 1) (z := 1) (v := 3) (by decide +kernel) rfl rfl rfl (by decide) (ls1 := [(0, .ref 18), (1, .int 3)]) rfl ?_
  refine g_goto (off := (-22)) (tgt := 25) (by decide +kernel) (by decide) ?_
  refine g_iload_n (i := 1) (by decide +kernel) rfl ?_
  refine g_bipush (z := 10) (v := 10) (by decide +kernel) rfl ?_
  refine g_icmp_ge (off := 22) (tgt := 50) (by decide +kernel) (by decide) (fun c => absurd c (by decide)) (fun _ => ?_)
  refine g_aload_n (i := 0) (by decide +kernel) rfl ?_
  refine g_getr (hI.k 18 (by decide) (by decide +kernel)) F_Past_11.1 F_Past_11.2 (by decide +kernel) rfl (hI.r 17 (by decide) (q := (18, 0, 19)) (by decide +kernel)) ?_
  refine g_iload_n (i := 1) (by decide +kernel) rfl ?_
  refine c_new (c := 7) hI (by decide +kernel) (by decide +kernel) (by decide) Cl_Past_9 Ins_State In_State (by decide +kernel) (by decide +kernel) (by decide) (by decide) (fun h hI => ?_)
  refine g_dup (by decide +kernel) rfl ?_
  refine g_callIN (as := []) (st := [.ref 32, .int 3, .ref 19]) (ct_State_init_32 hI) Y_State_init Vi_State_init rfl rfl L_Past_24 (by decide +kernel) rfl rfl (Nat.le_of_ble_eq_true rfl) (by decide) (by decide) (by decide) (fun v h hq => ?_)
  obtain ⟨rfl, hI⟩ := hq
  refine c_aast (c := 7) (t0 := 6) (L := 10) hI (hI.k 19 (by decide) (by decide +kernel)) rfl (hI.k 32 (by decide) (by decide +kernel)) (by unfold vp_in; decide) (by decide +kernel) (by decide +kernel) (by decide +kernel) (fun h hI => ?_)
  refine g_iinc (i := 1) (z := 1) (v := 4) (by decide +kernel) rfl rfl rfl (by decide) (ls1 := [(0, .ref 18), (1, .int 4)]) rfl ?_
  refine g_goto (off := (-22)) (tgt := 25) (by decide +kernel) (by decide) ?_
  refine g_iload_n (i := 1) (by decide +kernel) rfl ?_
  refine g_bipush (z := 10) (v := 10) (by decide +kernel) rfl ?_
  refine g_icmp_ge (off := 22) (tgt := 50) (by decide +kernel) (by decide) (fun c => absurd c (by decide)) (fun _ => ?_)
  refine g_aload_n (i := 0) (by decide +kernel) rfl ?_
  refine g_getr (hI.k 18 (by decide) (by decide +kernel)) F_Past_11.1 F_Past_11.2 (by decide +kernel) rfl (hI.r 17 (by decide) (q := (18, 0, 19)) (by decide +kernel)) ?_
  refine g_iload_n (i := 1) (by decide +kernel) rfl ?_
  refine c_new (c := 7) hI (by decide +kernel) (by decide +kernel) (by decide) Cl_Past_9 Ins_State In_State (by decide +kernel) (by decide +kernel) (by decide) (by decide) (fun h hI => ?_)
  refine g_dup (by decide +kernel) rfl ?_
  refine g_callIN (as := []) (st := [.ref 36, .int 4, .ref 19]) (ct_State_init_36 hI) Y_State_init Vi_State_init rfl rfl L_Past_24 (by decide +kernel) rfl rfl (Nat.le_of_ble_eq_true rfl) (by decide) (by decide) (by decide) (fun v h hq => ?_)
  obtain ⟨rfl, hI⟩ := hq
  refine c_aast (c := 7) (t0 := 6) (L := 10) hI (hI.k 19 (by decide) (by decide +kernel)) rfl (hI.k 36 (by decide) (by decide +kernel)) (by unfold vp_in; decide) (by decide +kernel) (by decide +kernel) (by decide +kernel) (fun h hI => ?_)
  refine g_iinc (i := 1) (z := 1) (v := 5) (by decide +kernel) rfl rfl rfl (by decide) (ls1 := [(0, .ref 18), (1, .int 5)]) rfl ?_
  refine g_goto (off := (-22)) (tgt := 25) (by decide +kernel) (by decide) ?_
  refine g_iload_n (i := 1) (by decide +kernel) rfl ?_
  refine g_bipush (z := 10) (v := 10) (by decide +kernel) rfl ?_
  refine g_icmp_ge (off := 22) (tgt := 50) (by decide +kernel) (by decide) (fun c => absurd c (by decide)) (fun _ => ?_)
  refine g_aload_n (i := 0) (by decide +kernel) rfl ?_
  refine g_getr (hI.k 18 (by decide) (by decide +kernel)) F_Past_11.1 F_Past_11.2 (by decide +kernel) rfl (hI.r 17 (by decide) (q := (18, 0, 19)) (by decide +kernel)) ?_
  refine g_iload_n (i := 1) (by decide +kernel) rfl ?_
  refine c_new (c := 7) hI (by decide +kernel) (by decide +kernel) (by decide) Cl_Past_9 Ins_State In_State (by decide +kernel) (by decide +kernel) (by decide) (by decide) (fun h hI => ?_)
  refine g_dup (by decide +kernel) rfl ?_
  refine g_callIN (as := []) (st := [.ref 40, .int 5, .ref 19]) (ct_State_init_40 hI) Y_State_init Vi_State_init rfl rfl L_Past_24 (by decide +kernel) rfl rfl (Nat.le_of_ble_eq_true rfl) (by decide) (by decide) (by decide) (fun v h hq => ?_)
  obtain ⟨rfl, hI⟩ := hq
  refine c_aast (c := 7) (t0 := 6) (L := 10) hI (hI.k 19 (by decide) (by decide +kernel)) rfl (hI.k 40 (by decide) (by decide +kernel)) (by unfold vp_in; decide) (by decide +kernel) (by decide +kernel) (by decide +kernel) (fun h hI => ?_)
  refine g_iinc (i := 1) (z := 1) (v := 6) (by decide +kernel) rfl rfl rfl (by decide) (ls1 := [(0, .ref 18), (1, .int 6)]) rfl ?_
  refine g_goto (off := (-22)) (tgt := 25) (by decide +kernel) (by decide) ?_
  refine g_iload_n (i := 1) (by decide +kernel) rfl ?_
  refine g_bipush (z := 10) (v := 10) (by decide +kernel) rfl ?_
  refine g_icmp_ge (off := 22) (tgt := 50) (by decide +kernel) (by decide) (fun c => absurd c (by decide)) (fun _ => ?_)
  refine g_aload_n (i := 0) (by decide +kernel) rfl ?_
  refine g_getr (hI.k 18 (by decide) (by decide +kernel)) F_Past_11.1 F_Past_11.2 (by decide +kernel) rfl (hI.r 17 (by decide) (q := (18, 0, 19)) (by decide +kernel)) ?_
  refine g_iload_n (i := 1) (by decide +kernel) rfl ?_
  refine c_new (c := 7) hI (by decide +kernel) (by decide +kernel) (by decide) Cl_Past_9 Ins_State In_State (by decide +kernel) (by decide +kernel) (by decide) (by decide) (fun h hI => ?_)
  refine g_dup (by decide +kernel) rfl ?_
  refine g_callIN (as := []) (st := [.ref 44, .int 6, .ref 19]) (ct_State_init_44 hI) Y_State_init Vi_State_init rfl rfl L_Past_24 (by decide +kernel) rfl rfl (Nat.le_of_ble_eq_true rfl) (by decide) (by decide) (by decide) (fun v h hq => ?_)
  obtain ⟨rfl, hI⟩ := hq
  refine c_aast (c := 7) (t0 := 6) (L := 10) hI (hI.k 19 (by decide) (by decide +kernel)) rfl (hI.k 44 (by decide) (by decide +kernel)) (by unfold vp_in; decide) (by decide +kernel) (by decide +kernel) (by decide +kernel) (fun h hI => ?_)
  refine g_iinc (i := 1) (z := 1) (v := 7) (by decide +kernel) rfl rfl rfl (by decide) (ls1 := [(0, .ref 18), (1, .int 7)]) rfl ?_
  refine g_goto (off := (-22)) (tgt := 25) (by decide +kernel) (by decide) ?_
  refine g_iload_n (i := 1) (by decide +kernel) rfl ?_
  refine g_bipush (z := 10) (v := 10) (by decide +kernel) rfl ?_
  refine g_icmp_ge (off := 22) (tgt := 50) (by decide +kernel) (by decide) (fun c => absurd c (by decide)) (fun _ => ?_)
  refine g_aload_n (i := 0) (by decide +kernel) rfl ?_
  refine g_getr (hI.k 18 (by decide) (by decide +kernel)) F_Past_11.1 F_Past_11.2 (by decide +kernel) rfl (hI.r 17 (by decide) (q := (18, 0, 19)) (by decide +kernel)) ?_
  refine g_iload_n (i := 1) (by decide +kernel) rfl ?_
  refine c_new (c := 7) hI (by decide +kernel) (by decide +kernel) (by decide) Cl_Past_9 Ins_State In_State (by decide +kernel) (by decide +kernel) (by decide) (by decide) (fun h hI => ?_)
  refine g_dup (by decide +kernel) rfl ?_
  refine g_callIN (as := []) (st := [.ref 48, .int 7, .ref 19]) (ct_State_init_48 hI) Y_State_init Vi_State_init rfl rfl L_Past_24 (by decide +kernel) rfl rfl (Nat.le_of_ble_eq_true rfl) (by decide) (by decide) (by decide) (fun v h hq => ?_)
  obtain ⟨rfl, hI⟩ := hq
  refine c_aast (c := 7) (t0 := 6) (L := 10) hI (hI.k 19 (by decide) (by decide +kernel)) rfl (hI.k 48 (by decide) (by decide +kernel)) (by unfold vp_in; decide) (by decide +kernel) (by decide +kernel) (by decide +kernel) (fun h hI => ?_)
  refine g_iinc (i := 1) (z := 1) (v := 8) (by decide +kernel) rfl rfl rfl (by decide) (ls1 := [(0, .ref 18), (1, .int 8)]) rfl ?_
  refine g_goto (off := (-22)) (tgt := 25) (by decide +kernel) (by decide) ?_
  refine g_iload_n (i := 1) (by decide +kernel) rfl ?_
  refine g_bipush (z := 10) (v := 10) (by decide +kernel) rfl ?_
  refine g_icmp_ge (off := 22) (tgt := 50) (by decide +kernel) (by decide) (fun c => absurd c (by decide)) (fun _ => ?_)
  refine g_aload_n (i := 0) (by decide +kernel) rfl ?_
  refine g_getr (hI.k 18 (by decide) (by decide +kernel)) F_Past_11.1 F_Past_11.2 (by decide +kernel) rfl (hI.r 17 (by decide) (q := (18, 0, 19)) (by decide +kernel)) ?_
  refine g_iload_n (i := 1) (by decide +kernel) rfl ?_
  refine c_new (c := 7) hI (by decide +kernel) (by decide +kernel) (by decide) Cl_Past_9 Ins_State In_State (by decide +kernel) (by decide +kernel) (by decide) (by decide) (fun h hI => ?_)
  refine g_dup (by decide +kernel) rfl ?_
  refine g_callIN (as := []) (st := [.ref 52, .int 8, .ref 19]) (ct_State_init_52 hI) Y_State_init Vi_State_init rfl rfl L_Past_24 (by decide +kernel) rfl rfl (Nat.le_of_ble_eq_true rfl) (by decide) (by decide) (by decide) (fun v h hq => ?_)
  obtain ⟨rfl, hI⟩ := hq
  refine c_aast (c := 7) (t0 := 6) (L := 10) hI (hI.k 19 (by decide) (by decide +kernel)) rfl (hI.k 52 (by decide) (by decide +kernel)) (by unfold vp_in; decide) (by decide +kernel) (by decide +kernel) (by decide +kernel) (fun h hI => ?_)
  refine g_iinc (i := 1) (z := 1) (v := 9) (by decide +kernel) rfl rfl rfl (by decide) (ls1 := [(0, .ref 18), (1, .int 9)]) rfl ?_
  refine g_goto (off := (-22)) (tgt := 25) (by decide +kernel) (by decide) ?_
  refine g_iload_n (i := 1) (by decide +kernel) rfl ?_
  refine g_bipush (z := 10) (v := 10) (by decide +kernel) rfl ?_
  refine g_icmp_ge (off := 22) (tgt := 50) (by decide +kernel) (by decide) (fun c => absurd c (by decide)) (fun _ => ?_)
  refine g_aload_n (i := 0) (by decide +kernel) rfl ?_
  refine g_getr (hI.k 18 (by decide) (by decide +kernel)) F_Past_11.1 F_Past_11.2 (by decide +kernel) rfl (hI.r 17 (by decide) (q := (18, 0, 19)) (by decide +kernel)) ?_
  refine g_iload_n (i := 1) (by decide +kernel) rfl ?_
  refine c_new (c := 7) hI (by decide +kernel) (by decide +kernel) (by decide) Cl_Past_9 Ins_State In_State (by decide +kernel) (by decide +kernel) (by decide) (by decide) (fun h hI => ?_)
  refine g_dup (by decide +kernel) rfl ?_
  refine g_callIN (as := []) (st := [.ref 56, .int 9, .ref 19]) (ct_State_init_56 hI) Y_State_init Vi_State_init rfl rfl L_Past_24 (by decide +kernel) rfl rfl (Nat.le_of_ble_eq_true rfl) (by decide) (by decide) (by decide) (fun v h hq => ?_)
  obtain ⟨rfl, hI⟩ := hq
  refine c_aast (c := 7) (t0 := 6) (L := 10) hI (hI.k 19 (by decide) (by decide +kernel)) rfl (hI.k 56 (by decide) (by decide +kernel)) (by unfold vp_in; decide) (by decide +kernel) (by decide +kernel) (by decide +kernel) (fun h hI => ?_)
  refine g_iinc (i := 1) (z := 1) (v := 10) (by decide +kernel) rfl rfl rfl (by decide) (ls1 := [(0, .ref 18), (1, .int 10)]) rfl ?_
  refine g_goto (off := (-22)) (tgt := 25) (by decide +kernel) (by decide) ?_
  refine g_iload_n (i := 1) (by decide +kernel) rfl ?_
  refine g_bipush (z := 10) (v := 10) (by decide +kernel) rfl ?_
  refine g_icmp_ge (off := 22) (tgt := 50) (by decide +kernel) (by decide) (fun _ => ?_) (fun c => absurd (by decide) c)
  exact g_vret (st := []) (by decide +kernel) rfl (by decide) (by decide) ⟨rfl, hI⟩
set_option maxRecDepth 100000 in
set_option maxHeartbeats 4000000 in
theorem ct_River_init_62 {h : am_H} (hI : am_In 63 60 44 h) : am_Ct 1 M_River_init [.ref 62] h 8 206 (fun v h => v = none ∧ am_In 71 68 50 h) := by
  refine am_Ct.of (by decide) rfl (Nat.le_of_ble_eq_true rfl) (ls := [(0, .ref 62)]) rfl ?_
  refine g_aload_n (i := 0) (by decide +kernel) rfl ?_
  refine g_objInit L_River_3 Oc_inst Oc_code (by decide +kernel) (Nat.le_of_ble_eq_true rfl) (by decide) ?_
  refine g_aload_n (i := 0) (by decide +kernel) rfl ?_
  refine g_iconst (z := 2) (v := 2) (by decide +kernel) rfl ?_
  refine c_puti hI (hI.k 62 (by decide) (by decide +kernel)) F_River_9 (by decide +kernel) (Or.inl rfl) rfl rfl rfl (by decide +kernel) (fun h hI => ?_)
  refine g_aload_n (i := 0) (by decide +kernel) rfl ?_
  refine g_iconst (z := 1) (v := 1) (by decide +kernel) rfl ?_
  refine c_puti hI (hI.k 62 (by decide) (by decide +kernel)) F_River_15 (by decide +kernel) (Or.inl rfl) rfl rfl rfl (by decide +kernel) (fun h hI => ?_)
  refine g_aload_n (i := 0) (by decide +kernel) rfl ?_
  refine g_iconst (z := 0) (v := 0) (by decide +kernel) rfl ?_
  refine c_puti hI (hI.k 62 (by decide) (by decide +kernel)) F_River_18 (by decide +kernel) (Or.inl rfl) rfl rfl rfl (by decide +kernel) (fun h hI => ?_)
  refine g_aload_n (i := 0) (by decide +kernel) rfl ?_
  refine g_iconst (z := 0) (v := 0) (by decide +kernel) rfl ?_
  refine c_puti hI (hI.k 62 (by decide) (by decide +kernel)) F_River_21 (by decide +kernel) (Or.inl rfl) rfl rfl rfl (by decide +kernel) (fun h hI => ?_)
  refine g_aload_n (i := 0) (by decide +kernel) rfl ?_
  refine g_iconst (z := 0) (v := 0) (by decide +kernel) rfl ?_
  refine c_puti hI (hI.k 62 (by decide) (by decide +kernel)) F_River_24 (by decide +kernel) (Or.inl rfl) rfl rfl rfl (by decide +kernel) (fun h hI => ?_)
  refine g_aload_n (i := 0) (by decide +kernel) rfl ?_
  refine g_iconst (z := 0) (v := 0) (by decide +kernel) rfl ?_
  refine c_puti hI (hI.k 62 (by decide) (by decide +kernel)) F_River_27 (by decide +kernel) (Or.inl rfl) rfl rfl rfl (by decide +kernel) (fun h hI => ?_)
  refine g_aload_n (i := 0) (by decide +kernel) rfl ?_
  refine g_bipush (z := 6) (v := 6) (by decide +kernel) rfl ?_
  refine c_newa (aty := .int) (t0 := 0) (ty := .int) (N := 6) hI (by decide +kernel) (by decide +kernel) rfl rfl Ac_int ⟨by decide, by decide⟩ (by decide) (by decide) (by decide) (by decide +kernel) (by decide) (by decide) (by intro C; simp) (fun h hI => ?_)
  refine c_putr hI (hI.k 62 (by decide) (by decide +kernel)) F_River_30 (by decide +kernel) (Or.inr ⟨rfl, rfl, rfl⟩) rfl (by decide +kernel) (by decide +kernel) (fun h hI => ?_)
  refine g_aload_n (i := 0) (by decide +kernel) rfl ?_
  refine g_iconst (z := 5) (v := 5) (by decide +kernel) rfl ?_
  refine c_newa (aty := .int) (t0 := 0) (ty := .int) (N := 5) hI (by decide +kernel) (by decide +kernel) rfl rfl Ac_int ⟨by decide, by decide⟩ (by decide) (by decide) (by decide) (by decide +kernel) (by decide) (by decide) (by intro C; simp) (fun h hI => ?_)
  refine c_putr hI (hI.k 62 (by decide) (by decide +kernel)) F_River_34 (by decide +kernel) (Or.inr ⟨rfl, rfl, rfl⟩) rfl (by decide +kernel) (by decide +kernel) (fun h hI => ?_)
  refine g_aload_n (i := 0) (by decide +kernel) rfl ?_
  refine g_iconst (z := 5) (v := 5) (by decide +kernel) rfl ?_
  refine c_newa (aty := .int) (t0 := 0) (ty := .int) (N := 5) hI (by decide +kernel) (by decide +kernel) rfl rfl Ac_int ⟨by decide, by decide⟩ (by decide) (by decide) (by decide) (by decide +kernel) (by decide) (by decide) (by intro C; simp) (fun h hI => ?_)
  refine c_putr hI (hI.k 62 (by decide) (by decide +kernel)) F_River_37 (by decide +kernel) (Or.inr ⟨rfl, rfl, rfl⟩) rfl (by decide +kernel) (by decide +kernel) (fun h hI => ?_)
  refine g_aload_n (i := 0) (by decide +kernel) rfl ?_
  refine g_iconst (z := 5) (v := 5) (by decide +kernel) rfl ?_
  refine c_newa (aty := .int) (t0 := 0) (ty := .int) (N := 5) hI (by decide +kernel) (by decide +kernel) rfl rfl Ac_int ⟨by decide, by decide⟩ (by decide) (by decide) (by decide) (by decide +kernel) (by decide) (by decide) (by intro C; simp) (fun h hI => ?_)
  refine c_putr hI (hI.k 62 (by decide) (by decide +kernel)) F_River_40 (by decide +kernel) (Or.inr ⟨rfl, rfl, rfl⟩) rfl (by decide +kernel) (by decide +kernel) (fun h hI => ?_)
  refine g_aload_n (i := 0) (by decide +kernel) rfl ?_
  refine g_iconst (z := 5) (v := 5) (by decide +kernel) rfl ?_
  refine c_newa (aty := .int) (t0 := 0) (ty := .int) (N := 5) hI (by decide +kernel) (by decide +kernel) rfl rfl Ac_int ⟨by decide, by decide⟩ (by decide) (by decide) (by decide) (by decide +kernel) (by decide) (by decide) (by intro C; simp) (fun h hI => ?_)
  refine c_putr hI (hI.k 62 (by decide) (by decide +kernel)) F_River_43 (by decide +kernel) (Or.inr ⟨rfl, rfl, rfl⟩) rfl (by decide +kernel) (by decide +kernel) (fun h hI => ?_)
  refine g_aload_n (i := 0) (by decide +kernel) rfl ?_
  refine g_bipush (z := 60) (v := 60) (by decide +kernel) rfl ?_
  refine c_newa (aty := .int) (t0 := 0) (ty := .int) (N := 60) hI (by decide +kernel) (by decide +kernel) rfl rfl Ac_int ⟨by decide, by decide⟩ (by decide) (by decide) (by decide) (by decide +kernel) (by decide) (by decide) (by intro C; simp) (fun h hI => ?_)
  refine c_putr hI (hI.k 62 (by decide) (by decide +kernel)) F_River_46 (by decide +kernel) (Or.inr ⟨rfl, rfl, rfl⟩) rfl (by decide +kernel) (by decide +kernel) (fun h hI => ?_)
  refine g_aload_n (i := 0) (by decide +kernel) rfl ?_
  refine g_bipush (z := 60) (v := 60) (by decide +kernel) rfl ?_
  refine c_newa (aty := .int) (t0 := 0) (ty := .int) (N := 60) hI (by decide +kernel) (by decide +kernel) rfl rfl Ac_int ⟨by decide, by decide⟩ (by decide) (by decide) (by decide) (by decide +kernel) (by decide) (by decide) (by intro C; simp) (fun h hI => ?_)
  refine c_putr hI (hI.k 62 (by decide) (by decide +kernel)) F_River_49 (by decide +kernel) (Or.inr ⟨rfl, rfl, rfl⟩) rfl (by decide +kernel) (by decide +kernel) (fun h hI => ?_)
  refine g_aload_n (i := 0) (by decide +kernel) rfl ?_
  refine g_bipush (z := 60) (v := 60) (by decide +kernel) rfl ?_
  refine c_newa (aty := .int) (t0 := 0) (ty := .int) (N := 60) hI (by decide +kernel) (by decide +kernel) rfl rfl Ac_int ⟨by decide, by decide⟩ (by decide) (by decide) (by decide) (by decide +kernel) (by decide) (by decide) (by intro C; simp) (fun h hI => ?_)
  refine c_putr hI (hI.k 62 (by decide) (by decide +kernel)) F_River_52 (by decide +kernel) (Or.inr ⟨rfl, rfl, rfl⟩) rfl (by decide +kernel) (by decide +kernel) (fun h hI => ?_)
  exact g_vret (st := []) (by decide +kernel) rfl (by decide) (by decide) ⟨rfl, hI⟩
set_option maxRecDepth 100000 in
set_option maxHeartbeats 4000000 in
theorem ct_Tokens_init_71 {h : am_H} (hI : am_In 72 69 53 h) : am_Ct 1 M_Tokens_init [.ref 71] h 3 2703 (fun v h => v = none ∧ am_In 75 72 54 h) := by
  refine am_Ct.of (by decide) rfl (Nat.le_of_ble_eq_true rfl) (ls := [(0, .ref 71)]) rfl ?_
  refine g_aload_n (i := 0) (by decide +kernel) rfl ?_
  refine g_objInit L_Tokens_3 Oc_inst Oc_code (by decide +kernel) (Nat.le_of_ble_eq_true rfl) (by decide) ?_
  refine g_aload_n (i := 0) (by decide +kernel) rfl ?_
  refine g_iconst (z := 0) (v := 0) (by decide +kernel) rfl ?_
  refine c_puti hI (hI.k 71 (by decide) (by decide +kernel)) F_Tokens_9 (by decide +kernel) (Or.inl rfl) rfl rfl rfl (by decide +kernel) (fun h hI => ?_)
  refine g_aload_n (i := 0) (by decide +kernel) rfl ?_
  refine g_sipush (z := 901) (v := 901) (by decide +kernel) rfl ?_
  refine c_newa (aty := .int) (t0 := 0) (ty := .int) (N := 901) hI (by decide +kernel) (by decide +kernel) rfl rfl Ac_int ⟨by decide, by decide⟩ (by decide) (by decide) (by decide) (by decide +kernel) (by decide) (by decide) (by intro C; simp) (fun h hI => ?_)
  refine c_putr hI (hI.k 71 (by decide) (by decide +kernel)) F_Tokens_15 (by decide +kernel) (Or.inr ⟨rfl, rfl, rfl⟩) rfl (by decide +kernel) (by decide +kernel) (fun h hI => ?_)
  refine g_aload_n (i := 0) (by decide +kernel) rfl ?_
  refine g_sipush (z := 901) (v := 901) (by decide +kernel) rfl ?_
  refine c_newa (aty := .int) (t0 := 0) (ty := .int) (N := 901) hI (by decide +kernel) (by decide +kernel) rfl rfl Ac_int ⟨by decide, by decide⟩ (by decide) (by decide) (by decide) (by decide +kernel) (by decide) (by decide) (by intro C; simp) (fun h hI => ?_)
  refine c_putr hI (hI.k 71 (by decide) (by decide +kernel)) F_Tokens_19 (by decide +kernel) (Or.inr ⟨rfl, rfl, rfl⟩) rfl (by decide +kernel) (by decide +kernel) (fun h hI => ?_)
  refine g_aload_n (i := 0) (by decide +kernel) rfl ?_
  refine g_sipush (z := 901) (v := 901) (by decide +kernel) rfl ?_
  refine c_newa (aty := .int) (t0 := 0) (ty := .int) (N := 901) hI (by decide +kernel) (by decide +kernel) rfl rfl Ac_int ⟨by decide, by decide⟩ (by decide) (by decide) (by decide) (by decide +kernel) (by decide) (by decide) (by intro C; simp) (fun h hI => ?_)
  refine c_putr hI (hI.k 71 (by decide) (by decide +kernel)) F_Tokens_22 (by decide +kernel) (Or.inr ⟨rfl, rfl, rfl⟩) rfl (by decide +kernel) (by decide +kernel) (fun h hI => ?_)
  exact g_vret (st := []) (by decide +kernel) rfl (by decide) (by decide) ⟨rfl, hI⟩
set_option maxRecDepth 100000 in
set_option maxHeartbeats 4000000 in
theorem ct_Law_init_75 {h : am_H} (hI : am_In 76 73 54 h) : am_Ct 1 M_Law_init [.ref 75, .int 1] h 3 970 (fun v h => v = none ∧ am_In 79 76 57 h) := by
  refine am_Ct.of (by decide) rfl (Nat.le_of_ble_eq_true rfl) (ls := [(0, .ref 75), (1, .int 1)]) rfl ?_
  refine g_aload_n (i := 0) (by decide +kernel) rfl ?_
  refine g_objInit L_Law_3 Oc_inst Oc_code (by decide +kernel) (Nat.le_of_ble_eq_true rfl) (by decide) ?_
  refine g_aload_n (i := 0) (by decide +kernel) rfl ?_
  refine g_iconst (z := 0) (v := 0) (by decide +kernel) rfl ?_
  refine c_puti hI (hI.k 75 (by decide) (by decide +kernel)) F_Law_9 (by decide +kernel) (Or.inl rfl) rfl rfl rfl (by decide +kernel) (fun h hI => ?_)
  refine g_aload_n (i := 0) (by decide +kernel) rfl ?_
  refine g_iconst (z := 0) (v := 0) (by decide +kernel) rfl ?_
  refine c_puti hI (hI.k 75 (by decide) (by decide +kernel)) F_Law_15 (by decide +kernel) (Or.inl rfl) rfl rfl rfl (by decide +kernel) (fun h hI => ?_)
  refine g_aload_n (i := 0) (by decide +kernel) rfl ?_
  refine g_sipush (z := 900) (v := 900) (by decide +kernel) rfl ?_
  refine c_newa (aty := .int) (t0 := 0) (ty := .int) (N := 900) hI (by decide +kernel) (by decide +kernel) rfl rfl Ac_int ⟨by decide, by decide⟩ (by decide) (by decide) (by decide) (by decide +kernel) (by decide) (by decide) (by intro C; simp) (fun h hI => ?_)
  refine c_putr hI (hI.k 75 (by decide) (by decide +kernel)) F_Law_19 (by decide +kernel) (Or.inr ⟨rfl, rfl, rfl⟩) rfl (by decide +kernel) (by decide +kernel) (fun h hI => ?_)
  refine g_aload_n (i := 0) (by decide +kernel) rfl ?_
  refine g_bipush (z := 6) (v := 6) (by decide +kernel) rfl ?_
  refine c_newa (aty := .int) (t0 := 0) (ty := .int) (N := 6) hI (by decide +kernel) (by decide +kernel) rfl rfl Ac_int ⟨by decide, by decide⟩ (by decide) (by decide) (by decide) (by decide +kernel) (by decide) (by decide) (by intro C; simp) (fun h hI => ?_)
  refine c_putr hI (hI.k 75 (by decide) (by decide +kernel)) F_Law_23 (by decide +kernel) (Or.inr ⟨rfl, rfl, rfl⟩) rfl (by decide +kernel) (by decide +kernel) (fun h hI => ?_)
  refine g_aload_n (i := 0) (by decide +kernel) rfl ?_
  refine g_bipush (z := 64) (v := 64) (by decide +kernel) rfl ?_
  refine c_newa (aty := .int) (t0 := 0) (ty := .int) (N := 64) hI (by decide +kernel) (by decide +kernel) rfl rfl Ac_int ⟨by decide, by decide⟩ (by decide) (by decide) (by decide) (by decide +kernel) (by decide) (by decide) (by intro C; simp) (fun h hI => ?_)
  refine c_putr hI (hI.k 75 (by decide) (by decide +kernel)) F_Law_26 (by decide +kernel) (Or.inr ⟨rfl, rfl, rfl⟩) rfl (by decide +kernel) (by decide +kernel) (fun h hI => ?_)
  refine g_aload_n (i := 0) (by decide +kernel) rfl ?_
  refine g_iload_n (i := 1) (by decide +kernel) rfl ?_
  refine c_puti hI (hI.k 75 (by decide) (by decide +kernel)) F_Law_29 (by decide +kernel) (Or.inr ⟨rfl, rfl, rfl⟩) rfl rfl rfl (by decide +kernel) (fun h hI => ?_)
  exact g_vret (st := []) (by decide +kernel) rfl (by decide) (by decide) ⟨rfl, hI⟩
set_option maxRecDepth 100000 in
set_option maxHeartbeats 4000000 in
theorem ct_Law_init_79 {h : am_H} (hI : am_In 80 77 57 h) : am_Ct 1 M_Law_init [.ref 79, .int 0] h 3 970 (fun v h => v = none ∧ am_In 83 80 60 h) := by
  refine am_Ct.of (by decide) rfl (Nat.le_of_ble_eq_true rfl) (ls := [(0, .ref 79), (1, .int 0)]) rfl ?_
  refine g_aload_n (i := 0) (by decide +kernel) rfl ?_
  refine g_objInit L_Law_3 Oc_inst Oc_code (by decide +kernel) (Nat.le_of_ble_eq_true rfl) (by decide) ?_
  refine g_aload_n (i := 0) (by decide +kernel) rfl ?_
  refine g_iconst (z := 0) (v := 0) (by decide +kernel) rfl ?_
  refine c_puti hI (hI.k 79 (by decide) (by decide +kernel)) F_Law_9 (by decide +kernel) (Or.inl rfl) rfl rfl rfl (by decide +kernel) (fun h hI => ?_)
  refine g_aload_n (i := 0) (by decide +kernel) rfl ?_
  refine g_iconst (z := 0) (v := 0) (by decide +kernel) rfl ?_
  refine c_puti hI (hI.k 79 (by decide) (by decide +kernel)) F_Law_15 (by decide +kernel) (Or.inl rfl) rfl rfl rfl (by decide +kernel) (fun h hI => ?_)
  refine g_aload_n (i := 0) (by decide +kernel) rfl ?_
  refine g_sipush (z := 900) (v := 900) (by decide +kernel) rfl ?_
  refine c_newa (aty := .int) (t0 := 0) (ty := .int) (N := 900) hI (by decide +kernel) (by decide +kernel) rfl rfl Ac_int ⟨by decide, by decide⟩ (by decide) (by decide) (by decide) (by decide +kernel) (by decide) (by decide) (by intro C; simp) (fun h hI => ?_)
  refine c_putr hI (hI.k 79 (by decide) (by decide +kernel)) F_Law_19 (by decide +kernel) (Or.inr ⟨rfl, rfl, rfl⟩) rfl (by decide +kernel) (by decide +kernel) (fun h hI => ?_)
  refine g_aload_n (i := 0) (by decide +kernel) rfl ?_
  refine g_bipush (z := 6) (v := 6) (by decide +kernel) rfl ?_
  refine c_newa (aty := .int) (t0 := 0) (ty := .int) (N := 6) hI (by decide +kernel) (by decide +kernel) rfl rfl Ac_int ⟨by decide, by decide⟩ (by decide) (by decide) (by decide) (by decide +kernel) (by decide) (by decide) (by intro C; simp) (fun h hI => ?_)
  refine c_putr hI (hI.k 79 (by decide) (by decide +kernel)) F_Law_23 (by decide +kernel) (Or.inr ⟨rfl, rfl, rfl⟩) rfl (by decide +kernel) (by decide +kernel) (fun h hI => ?_)
  refine g_aload_n (i := 0) (by decide +kernel) rfl ?_
  refine g_bipush (z := 64) (v := 64) (by decide +kernel) rfl ?_
  refine c_newa (aty := .int) (t0 := 0) (ty := .int) (N := 64) hI (by decide +kernel) (by decide +kernel) rfl rfl Ac_int ⟨by decide, by decide⟩ (by decide) (by decide) (by decide) (by decide +kernel) (by decide) (by decide) (by intro C; simp) (fun h hI => ?_)
  refine c_putr hI (hI.k 79 (by decide) (by decide +kernel)) F_Law_26 (by decide +kernel) (Or.inr ⟨rfl, rfl, rfl⟩) rfl (by decide +kernel) (by decide +kernel) (fun h hI => ?_)
  refine g_aload_n (i := 0) (by decide +kernel) rfl ?_
  refine g_iload_n (i := 1) (by decide +kernel) rfl ?_
  refine c_puti hI (hI.k 79 (by decide) (by decide +kernel)) F_Law_29 (by decide +kernel) (Or.inr ⟨rfl, rfl, rfl⟩) rfl rfl rfl (by decide +kernel) (fun h hI => ?_)
  exact g_vret (st := []) (by decide +kernel) rfl (by decide) (by decide) ⟨rfl, hI⟩
set_option maxRecDepth 100000 in
set_option maxHeartbeats 4000000 in
theorem ct_Reader_init_61 {h : am_H} (hI : am_In 62 60 44 h) : am_Ct 2 M_Reader_init [.ref 61] h 21 4879 (fun v h => v = none ∧ am_In 83 82 60 h) := by
  refine am_Ct.of (by decide) rfl (Nat.le_of_ble_eq_true rfl) (ls := [(0, .ref 61)]) rfl ?_
  refine g_aload_n (i := 0) (by decide +kernel) rfl ?_
  refine g_objInit L_Reader_3 Oc_inst Oc_code (by decide +kernel) (Nat.le_of_ble_eq_true rfl) (by decide) ?_
  refine g_aload_n (i := 0) (by decide +kernel) rfl ?_
  refine c_new (c := 5) hI (by decide +kernel) (by decide +kernel) (by decide) Cl_Reader_9 Ins_River In_River (by decide +kernel) (by decide +kernel) (by decide) (by decide) (fun h hI => ?_)
  refine g_dup (by decide +kernel) rfl ?_
  refine g_callIN (as := []) (st := [.ref 62, .ref 61]) (ct_River_init_62 hI) Y_River_init Vi_River_init rfl rfl L_Reader_11 (by decide +kernel) rfl rfl (Nat.le_of_ble_eq_true rfl) (by decide) (by decide) (by decide) (fun v h hq => ?_)
  obtain ⟨rfl, hI⟩ := hq
  refine c_putr hI (hI.k 61 (by decide) (by decide +kernel)) F_Reader_12 (by decide +kernel) (Or.inr ⟨rfl, rfl, rfl⟩) rfl (by decide +kernel) (by decide +kernel) (fun h hI => ?_)
  refine g_aload_n (i := 0) (by decide +kernel) rfl ?_
  refine g_iconst (z := 0) (v := 0) (by decide +kernel) rfl ?_
  refine c_puti hI (hI.k 61 (by decide) (by decide +kernel)) F_Reader_18 (by decide +kernel) (Or.inl rfl) rfl rfl rfl (by decide +kernel) (fun h hI => ?_)
  refine g_aload_n (i := 0) (by decide +kernel) rfl ?_
  refine g_iconst (z := (-1)) (v := (-1)) (by decide +kernel) rfl ?_
  refine c_puti hI (hI.k 61 (by decide) (by decide +kernel)) F_Reader_22 (by decide +kernel) (Or.inl rfl) rfl rfl rfl (by decide +kernel) (fun h hI => ?_)
  refine g_aload_n (i := 0) (by decide +kernel) rfl ?_
  refine g_iconst (z := 0) (v := 0) (by decide +kernel) rfl ?_
  refine c_puti hI (hI.k 61 (by decide) (by decide +kernel)) F_Reader_25 (by decide +kernel) (Or.inl rfl) rfl rfl rfl (by decide +kernel) (fun h hI => ?_)
  refine g_aload_n (i := 0) (by decide +kernel) rfl ?_
  refine c_new (c := 8) hI (by decide +kernel) (by decide +kernel) (by decide) Cl_Reader_28 Ins_Tokens In_Tokens (by decide +kernel) (by decide +kernel) (by decide) (by decide) (fun h hI => ?_)
  refine g_dup (by decide +kernel) rfl ?_
  refine g_callIN (as := []) (st := [.ref 71, .ref 61]) (ct_Tokens_init_71 hI) Y_Tokens_init Vi_Tokens_init rfl rfl L_Reader_30 (by decide +kernel) rfl rfl (Nat.le_of_ble_eq_true rfl) (by decide) (by decide) (by decide) (fun v h hq => ?_)
  obtain ⟨rfl, hI⟩ := hq
  refine c_putr hI (hI.k 61 (by decide) (by decide +kernel)) F_Reader_31 (by decide +kernel) (Or.inr ⟨rfl, rfl, rfl⟩) rfl (by decide +kernel) (by decide +kernel) (fun h hI => ?_)
  refine g_aload_n (i := 0) (by decide +kernel) rfl ?_
  refine c_new (c := 2) hI (by decide +kernel) (by decide +kernel) (by decide) Cl_Reader_35 Ins_Law In_Law (by decide +kernel) (by decide +kernel) (by decide) (by decide) (fun h hI => ?_)
  refine g_dup (by decide +kernel) rfl ?_
  refine g_iconst (z := 1) (v := 1) (by decide +kernel) rfl ?_
  refine g_callI (as := [.int 1]) (st := [.ref 75, .ref 61]) (ct_Law_init_75 hI) Y_Law_init Vi_Law_init rfl rfl L_Reader_37 (by decide +kernel) rfl rfl (Nat.le_of_ble_eq_true rfl) (by decide) (by decide) (by decide) (fun v h hq => ?_)
  obtain ⟨rfl, hI⟩ := hq
  refine c_putr hI (hI.k 61 (by decide) (by decide +kernel)) F_Reader_40 (by decide +kernel) (Or.inr ⟨rfl, rfl, rfl⟩) rfl (by decide +kernel) (by decide +kernel) (fun h hI => ?_)
  refine g_aload_n (i := 0) (by decide +kernel) rfl ?_
  refine c_new (c := 2) hI (by decide +kernel) (by decide +kernel) (by decide) Cl_Reader_35 Ins_Law In_Law (by decide +kernel) (by decide +kernel) (by decide) (by decide) (fun h hI => ?_)
  refine g_dup (by decide +kernel) rfl ?_
  refine g_iconst (z := 0) (v := 0) (by decide +kernel) rfl ?_
  refine g_callI (as := [.int 0]) (st := [.ref 79, .ref 61]) (ct_Law_init_79 hI) Y_Law_init Vi_Law_init rfl rfl L_Reader_37 (by decide +kernel) rfl rfl (Nat.le_of_ble_eq_true rfl) (by decide) (by decide) (by decide) (fun v h hq => ?_)
  obtain ⟨rfl, hI⟩ := hq
  refine c_putr hI (hI.k 61 (by decide) (by decide +kernel)) F_Reader_44 (by decide +kernel) (Or.inr ⟨rfl, rfl, rfl⟩) rfl (by decide +kernel) (by decide +kernel) (fun h hI => ?_)
  refine g_aload_n (i := 0) (by decide +kernel) rfl ?_
  refine g_aload_n (i := 0) (by decide +kernel) rfl ?_
  refine g_getr (hI.k 61 (by decide) (by decide +kernel)) F_Reader_40.1 F_Reader_40.2 (by decide +kernel) rfl (hI.r 76 (by decide) (q := (61, 5, 75)) (by decide +kernel)) ?_
  refine c_putr hI (hI.k 61 (by decide) (by decide +kernel)) F_Reader_47 (by decide +kernel) (Or.inl rfl) rfl (by decide +kernel) (by decide +kernel) (fun h hI => ?_)
  exact g_vret (st := []) (by decide +kernel) rfl (by decide) (by decide) ⟨rfl, hI⟩
set_option maxRecDepth 100000 in
set_option maxHeartbeats 4000000 in
theorem ct_Ahead_init_86 {h : am_H} (hI : am_In 87 86 60 h) : am_Ct 1 M_Ahead_init [.ref 86, .ref 1, .ref 10] h 4 139 (fun v h => v = none ∧ am_In 91 92 60 h) := by
  refine am_Ct.of (by decide) rfl (Nat.le_of_ble_eq_true rfl) (ls := [(0, .ref 86), (1, .ref 1), (2, .ref 10)]) rfl ?_
  refine g_aload_n (i := 0) (by decide +kernel) rfl ?_
  refine g_objInit L_Ahead_3 Oc_inst Oc_code (by decide +kernel) (Nat.le_of_ble_eq_true rfl) (by decide) ?_
  refine g_aload_n (i := 0) (by decide +kernel) rfl ?_
  refine g_bipush (z := 61) (v := 61) (by decide +kernel) rfl ?_
  refine c_newa (aty := .int) (t0 := 0) (ty := .int) (N := 61) hI (by decide +kernel) (by decide +kernel) rfl rfl Ac_int ⟨by decide, by decide⟩ (by decide) (by decide) (by decide) (by decide +kernel) (by decide) (by decide) (by intro C; simp) (fun h hI => ?_)
  refine c_putr hI (hI.k 86 (by decide) (by decide +kernel)) F_Ahead_9 (by decide +kernel) (Or.inr ⟨rfl, rfl, rfl⟩) rfl (by decide +kernel) (by decide +kernel) (fun h hI => ?_)
  refine g_aload_n (i := 0) (by decide +kernel) rfl ?_
  refine g_bipush (z := 60) (v := 60) (by decide +kernel) rfl ?_
  refine c_newa (aty := .int) (t0 := 0) (ty := .int) (N := 60) hI (by decide +kernel) (by decide +kernel) rfl rfl Ac_int ⟨by decide, by decide⟩ (by decide) (by decide) (by decide) (by decide +kernel) (by decide) (by decide) (by intro C; simp) (fun h hI => ?_)
  refine c_putr hI (hI.k 86 (by decide) (by decide +kernel)) F_Ahead_15 (by decide +kernel) (Or.inr ⟨rfl, rfl, rfl⟩) rfl (by decide +kernel) (by decide +kernel) (fun h hI => ?_)
  refine g_aload_n (i := 0) (by decide +kernel) rfl ?_
  refine g_bipush (z := 9) (v := 9) (by decide +kernel) rfl ?_
  refine c_newa (aty := .long) (t0 := 1) (ty := .long) (N := 9) hI (by decide +kernel) (by decide +kernel) rfl rfl Ac_long ⟨by decide, by decide⟩ (by decide) (by decide) (by decide) (by decide +kernel) (by decide) (by decide) (by intro C; simp) (fun h hI => ?_)
  refine c_putr hI (hI.k 86 (by decide) (by decide +kernel)) F_Ahead_18 (by decide +kernel) (Or.inl rfl) rfl (by decide +kernel) (by decide +kernel) (fun h hI => ?_)
  refine g_aload_n (i := 0) (by decide +kernel) rfl ?_
  refine g_bipush (z := 9) (v := 9) (by decide +kernel) rfl ?_
  refine c_newa (aty := .long) (t0 := 1) (ty := .long) (N := 9) hI (by decide +kernel) (by decide +kernel) rfl rfl Ac_long ⟨by decide, by decide⟩ (by decide) (by decide) (by decide) (by decide +kernel) (by decide) (by decide) (by intro C; simp) (fun h hI => ?_)
  refine c_putr hI (hI.k 86 (by decide) (by decide +kernel)) F_Ahead_22 (by decide +kernel) (Or.inl rfl) rfl (by decide +kernel) (by decide +kernel) (fun h hI => ?_)
  refine g_aload_n (i := 0) (by decide +kernel) rfl ?_
  refine g_aload_n (i := 1) (by decide +kernel) rfl ?_
  refine c_putr hI (hI.k 86 (by decide) (by decide +kernel)) F_Ahead_25 (by decide +kernel) (Or.inr ⟨rfl, rfl, rfl⟩) rfl (by decide +kernel) (by decide +kernel) (fun h hI => ?_)
  refine g_aload_n (i := 0) (by decide +kernel) rfl ?_
  refine g_aload_n (i := 2) (by decide +kernel) rfl ?_
  refine c_putr hI (hI.k 86 (by decide) (by decide +kernel)) F_Ahead_29 (by decide +kernel) (Or.inr ⟨rfl, rfl, rfl⟩) rfl (by decide +kernel) (by decide +kernel) (fun h hI => ?_)
  exact g_vret (st := []) (by decide +kernel) rfl (by decide) (by decide) ⟨rfl, hI⟩
set_option maxRecDepth 100000 in
set_option maxHeartbeats 4000000 in
theorem ct_Weeks_init_91 {h : am_H} (hI : am_In 92 93 60 h) : am_Ct 1 M_Weeks_init [.ref 91, .ref 1, .ref 10, .ref 86] h 4 52 (fun v h => v = none ∧ am_In 96 100 68 h) := by
  refine am_Ct.of (by decide) rfl (Nat.le_of_ble_eq_true rfl) (ls := [(0, .ref 91), (1, .ref 1), (2, .ref 10), (3, .ref 86)]) rfl ?_
  refine g_aload_n (i := 0) (by decide +kernel) rfl ?_
  refine g_objInit L_Weeks_3 Oc_inst Oc_code (by decide +kernel) (Nat.le_of_ble_eq_true rfl) (by decide) ?_
  refine g_aload_n (i := 0) (by decide +kernel) rfl ?_
  refine g_bipush (z := 6) (v := 6) (by decide +kernel) rfl ?_
  refine c_newa (aty := .int) (t0 := 0) (ty := .int) (N := 6) hI (by decide +kernel) (by decide +kernel) rfl rfl Ac_int ⟨by decide, by decide⟩ (by decide) (by decide) (by decide) (by decide +kernel) (by decide) (by decide) (by intro C; simp) (fun h hI => ?_)
  refine c_putr hI (hI.k 91 (by decide) (by decide +kernel)) F_Weeks_9 (by decide +kernel) (Or.inr ⟨rfl, rfl, rfl⟩) rfl (by decide +kernel) (by decide +kernel) (fun h hI => ?_)
  refine g_aload_n (i := 0) (by decide +kernel) rfl ?_
  refine g_bipush (z := 6) (v := 6) (by decide +kernel) rfl ?_
  refine c_newa (aty := .int) (t0 := 0) (ty := .int) (N := 6) hI (by decide +kernel) (by decide +kernel) rfl rfl Ac_int ⟨by decide, by decide⟩ (by decide) (by decide) (by decide) (by decide +kernel) (by decide) (by decide) (by intro C; simp) (fun h hI => ?_)
  refine c_putr hI (hI.k 91 (by decide) (by decide +kernel)) F_Weeks_15 (by decide +kernel) (Or.inr ⟨rfl, rfl, rfl⟩) rfl (by decide +kernel) (by decide +kernel) (fun h hI => ?_)
  refine g_aload_n (i := 0) (by decide +kernel) rfl ?_
  refine g_iconst (z := 0) (v := 0) (by decide +kernel) rfl ?_
  refine c_puti hI (hI.k 91 (by decide) (by decide +kernel)) F_Weeks_18 (by decide +kernel) (Or.inl rfl) rfl rfl rfl (by decide +kernel) (fun h hI => ?_)
  refine g_aload_n (i := 0) (by decide +kernel) rfl ?_
  refine g_iconst (z := 0) (v := 0) (by decide +kernel) rfl ?_
  refine c_puti hI (hI.k 91 (by decide) (by decide +kernel)) F_Weeks_22 (by decide +kernel) (Or.inl rfl) rfl rfl rfl (by decide +kernel) (fun h hI => ?_)
  refine g_aload_n (i := 0) (by decide +kernel) rfl ?_
  refine g_iconst (z := 0) (v := 0) (by decide +kernel) rfl ?_
  refine c_puti hI (hI.k 91 (by decide) (by decide +kernel)) F_Weeks_25 (by decide +kernel) (Or.inl rfl) rfl rfl rfl (by decide +kernel) (fun h hI => ?_)
  refine g_aload_n (i := 0) (by decide +kernel) rfl ?_
  refine g_iconst (z := 0) (v := 0) (by decide +kernel) rfl ?_
  refine c_puti hI (hI.k 91 (by decide) (by decide +kernel)) F_Weeks_28 (by decide +kernel) (Or.inl rfl) rfl rfl rfl (by decide +kernel) (fun h hI => ?_)
  refine g_aload_n (i := 0) (by decide +kernel) rfl ?_
  refine g_iconst (z := 0) (v := 0) (by decide +kernel) rfl ?_
  refine c_puti hI (hI.k 91 (by decide) (by decide +kernel)) F_Weeks_32 (by decide +kernel) (Or.inl rfl) rfl rfl rfl (by decide +kernel) (fun h hI => ?_)
  refine g_aload_n (i := 0) (by decide +kernel) rfl ?_
  refine g_iconst (z := 5) (v := 5) (by decide +kernel) rfl ?_
  refine c_newa (aty := .int) (t0 := 0) (ty := .int) (N := 5) hI (by decide +kernel) (by decide +kernel) rfl rfl Ac_int ⟨by decide, by decide⟩ (by decide) (by decide) (by decide) (by decide +kernel) (by decide) (by decide) (by intro C; simp) (fun h hI => ?_)
  refine c_putr hI (hI.k 91 (by decide) (by decide +kernel)) F_Weeks_35 (by decide +kernel) (Or.inr ⟨rfl, rfl, rfl⟩) rfl (by decide +kernel) (by decide +kernel) (fun h hI => ?_)
  refine g_aload_n (i := 0) (by decide +kernel) rfl ?_
  refine g_iconst (z := 0) (v := 0) (by decide +kernel) rfl ?_
  refine c_puti hI (hI.k 91 (by decide) (by decide +kernel)) F_Weeks_38 (by decide +kernel) (Or.inl rfl) rfl rfl rfl (by decide +kernel) (fun h hI => ?_)
  refine g_aload_n (i := 0) (by decide +kernel) rfl ?_
  refine g_iconst (z := 0) (v := 0) (by decide +kernel) rfl ?_
  refine c_puti hI (hI.k 91 (by decide) (by decide +kernel)) F_Weeks_41 (by decide +kernel) (Or.inl rfl) rfl rfl rfl (by decide +kernel) (fun h hI => ?_)
  refine g_aload_n (i := 0) (by decide +kernel) rfl ?_
  refine g_iconst (z := 0) (v := 0) (by decide +kernel) rfl ?_
  refine c_puti hI (hI.k 91 (by decide) (by decide +kernel)) F_Weeks_44 (by decide +kernel) (Or.inl rfl) rfl rfl rfl (by decide +kernel) (fun h hI => ?_)
  refine g_aload_n (i := 0) (by decide +kernel) rfl ?_
  refine g_bipush (z := 35) (v := 35) (by decide +kernel) rfl ?_
  refine c_newa (aty := .int) (t0 := 0) (ty := .int) (N := 35) hI (by decide +kernel) (by decide +kernel) rfl rfl Ac_int ⟨by decide, by decide⟩ (by decide) (by decide) (by decide) (by decide +kernel) (by decide) (by decide) (by intro C; simp) (fun h hI => ?_)
  refine c_putr hI (hI.k 91 (by decide) (by decide +kernel)) F_Weeks_47 (by decide +kernel) (Or.inr ⟨rfl, rfl, rfl⟩) rfl (by decide +kernel) (by decide +kernel) (fun h hI => ?_)
  refine g_aload_n (i := 0) (by decide +kernel) rfl ?_
  refine g_aload_n (i := 1) (by decide +kernel) rfl ?_
  refine c_putr hI (hI.k 91 (by decide) (by decide +kernel)) F_Weeks_50 (by decide +kernel) (Or.inr ⟨rfl, rfl, rfl⟩) rfl (by decide +kernel) (by decide +kernel) (fun h hI => ?_)
  refine g_aload_n (i := 0) (by decide +kernel) rfl ?_
  refine g_aload_n (i := 2) (by decide +kernel) rfl ?_
  refine c_putr hI (hI.k 91 (by decide) (by decide +kernel)) F_Weeks_54 (by decide +kernel) (Or.inr ⟨rfl, rfl, rfl⟩) rfl (by decide +kernel) (by decide +kernel) (fun h hI => ?_)
  refine g_aload_n (i := 0) (by decide +kernel) rfl ?_
  refine g_aload_n (i := 3) (by decide +kernel) rfl ?_
  refine c_putr hI (hI.k 91 (by decide) (by decide +kernel)) F_Weeks_58 (by decide +kernel) (Or.inr ⟨rfl, rfl, rfl⟩) rfl (by decide +kernel) (by decide +kernel) (fun h hI => ?_)
  exact g_vret (st := []) (by decide +kernel) rfl (by decide) (by decide) ⟨rfl, hI⟩
set_option maxRecDepth 100000 in
set_option maxHeartbeats 4000000 in
theorem ct_Sightings_init_96 {h : am_H} (hI : am_In 97 101 68 h) : am_Ct 1 M_Sightings_init [.ref 96, .ref 1, .ref 10] h 2 18 (fun v h => v = none ∧ am_In 99 105 69 h) := by
  refine am_Ct.of (by decide) rfl (Nat.le_of_ble_eq_true rfl) (ls := [(0, .ref 96), (1, .ref 1), (2, .ref 10)]) rfl ?_
  refine g_aload_n (i := 0) (by decide +kernel) rfl ?_
  refine g_objInit L_Sightings_3 Oc_inst Oc_code (by decide +kernel) (Nat.le_of_ble_eq_true rfl) (by decide) ?_
  refine g_aload_n (i := 0) (by decide +kernel) rfl ?_
  refine g_bipush (z := 12) (v := 12) (by decide +kernel) rfl ?_
  refine c_newa (aty := .int) (t0 := 0) (ty := .int) (N := 12) hI (by decide +kernel) (by decide +kernel) rfl rfl Ac_int ⟨by decide, by decide⟩ (by decide) (by decide) (by decide) (by decide +kernel) (by decide) (by decide) (by intro C; simp) (fun h hI => ?_)
  refine c_putr hI (hI.k 96 (by decide) (by decide +kernel)) F_Sightings_9 (by decide +kernel) (Or.inr ⟨rfl, rfl, rfl⟩) rfl (by decide +kernel) (by decide +kernel) (fun h hI => ?_)
  refine g_aload_n (i := 0) (by decide +kernel) rfl ?_
  refine g_bipush (z := 6) (v := 6) (by decide +kernel) rfl ?_
  refine c_newa (aty := .int) (t0 := 0) (ty := .int) (N := 6) hI (by decide +kernel) (by decide +kernel) rfl rfl Ac_int ⟨by decide, by decide⟩ (by decide) (by decide) (by decide) (by decide +kernel) (by decide) (by decide) (by intro C; simp) (fun h hI => ?_)
  refine c_putr hI (hI.k 96 (by decide) (by decide +kernel)) F_Sightings_15 (by decide +kernel) (Or.inr ⟨rfl, rfl, rfl⟩) rfl (by decide +kernel) (by decide +kernel) (fun h hI => ?_)
  refine g_aload_n (i := 0) (by decide +kernel) rfl ?_
  refine g_iconst (z := 0) (v := 0) (by decide +kernel) rfl ?_
  refine c_puti hI (hI.k 96 (by decide) (by decide +kernel)) F_Sightings_18 (by decide +kernel) (Or.inl rfl) rfl rfl rfl (by decide +kernel) (fun h hI => ?_)
  refine g_aload_n (i := 0) (by decide +kernel) rfl ?_
  refine g_aload_n (i := 1) (by decide +kernel) rfl ?_
  refine c_putr hI (hI.k 96 (by decide) (by decide +kernel)) F_Sightings_22 (by decide +kernel) (Or.inr ⟨rfl, rfl, rfl⟩) rfl (by decide +kernel) (by decide +kernel) (fun h hI => ?_)
  refine g_aload_n (i := 0) (by decide +kernel) rfl ?_
  refine g_aload_n (i := 2) (by decide +kernel) rfl ?_
  refine c_putr hI (hI.k 96 (by decide) (by decide +kernel)) F_Sightings_26 (by decide +kernel) (Or.inr ⟨rfl, rfl, rfl⟩) rfl (by decide +kernel) (by decide +kernel) (fun h hI => ?_)
  exact g_vret (st := []) (by decide +kernel) rfl (by decide) (by decide) ⟨rfl, hI⟩
set_option maxRecDepth 100000 in
set_option maxHeartbeats 4000000 in
theorem ct_Chances_init_99 {h : am_H} (hI : am_In 100 106 69 h) : am_Ct 1 M_Chances_init [.ref 99, .ref 1, .ref 10] h 2 18 (fun v h => v = none ∧ am_In 102 110 69 h) := by
  refine am_Ct.of (by decide) rfl (Nat.le_of_ble_eq_true rfl) (ls := [(0, .ref 99), (1, .ref 1), (2, .ref 10)]) rfl ?_
  refine g_aload_n (i := 0) (by decide +kernel) rfl ?_
  refine g_objInit L_Chances_3 Oc_inst Oc_code (by decide +kernel) (Nat.le_of_ble_eq_true rfl) (by decide) ?_
  refine g_aload_n (i := 0) (by decide +kernel) rfl ?_
  refine g_bipush (z := 9) (v := 9) (by decide +kernel) rfl ?_
  refine c_newa (aty := .long) (t0 := 1) (ty := .long) (N := 9) hI (by decide +kernel) (by decide +kernel) rfl rfl Ac_long ⟨by decide, by decide⟩ (by decide) (by decide) (by decide) (by decide +kernel) (by decide) (by decide) (by intro C; simp) (fun h hI => ?_)
  refine c_putr hI (hI.k 99 (by decide) (by decide +kernel)) F_Chances_9 (by decide +kernel) (Or.inl rfl) rfl (by decide +kernel) (by decide +kernel) (fun h hI => ?_)
  refine g_aload_n (i := 0) (by decide +kernel) rfl ?_
  refine g_bipush (z := 9) (v := 9) (by decide +kernel) rfl ?_
  refine c_newa (aty := .long) (t0 := 1) (ty := .long) (N := 9) hI (by decide +kernel) (by decide +kernel) rfl rfl Ac_long ⟨by decide, by decide⟩ (by decide) (by decide) (by decide) (by decide +kernel) (by decide) (by decide) (by intro C; simp) (fun h hI => ?_)
  refine c_putr hI (hI.k 99 (by decide) (by decide +kernel)) F_Chances_15 (by decide +kernel) (Or.inl rfl) rfl (by decide +kernel) (by decide +kernel) (fun h hI => ?_)
  refine g_aload_n (i := 0) (by decide +kernel) rfl ?_
  refine g_aload_n (i := 1) (by decide +kernel) rfl ?_
  refine c_putr hI (hI.k 99 (by decide) (by decide +kernel)) F_Chances_18 (by decide +kernel) (Or.inr ⟨rfl, rfl, rfl⟩) rfl (by decide +kernel) (by decide +kernel) (fun h hI => ?_)
  refine g_aload_n (i := 0) (by decide +kernel) rfl ?_
  refine g_aload_n (i := 2) (by decide +kernel) rfl ?_
  refine c_putr hI (hI.k 99 (by decide) (by decide +kernel)) F_Chances_22 (by decide +kernel) (Or.inr ⟨rfl, rfl, rfl⟩) rfl (by decide +kernel) (by decide +kernel) (fun h hI => ?_)
  exact g_vret (st := []) (by decide +kernel) rfl (by decide) (by decide) ⟨rfl, hI⟩
set_option maxRecDepth 100000 in
set_option maxHeartbeats 4000000 in
theorem ct_Tray_init_102 {h : am_H} (hI : am_In 103 111 71 h) : am_Ct 1 M_Tray_init [.ref 102] h 1 40 (fun v h => v = none ∧ am_In 104 112 74 h) := by
  refine am_Ct.of (by decide) rfl (Nat.le_of_ble_eq_true rfl) (ls := [(0, .ref 102)]) rfl ?_
  refine g_aload_n (i := 0) (by decide +kernel) rfl ?_
  refine g_objInit L_Tray_3 Oc_inst Oc_code (by decide +kernel) (Nat.le_of_ble_eq_true rfl) (by decide) ?_
  refine g_aload_n (i := 0) (by decide +kernel) rfl ?_
  refine g_iconst (z := 0) (v := 0) (by decide +kernel) rfl ?_
  refine c_puti hI (hI.k 102 (by decide) (by decide +kernel)) F_Tray_9 (by decide +kernel) (Or.inl rfl) rfl rfl rfl (by decide +kernel) (fun h hI => ?_)
  refine g_aload_n (i := 0) (by decide +kernel) rfl ?_
  refine g_iconst (z := 0) (v := 0) (by decide +kernel) rfl ?_
  refine c_puti hI (hI.k 102 (by decide) (by decide +kernel)) F_Tray_15 (by decide +kernel) (Or.inl rfl) rfl rfl rfl (by decide +kernel) (fun h hI => ?_)
  refine g_aload_n (i := 0) (by decide +kernel) rfl ?_
  refine g_iconst (z := 0) (v := 0) (by decide +kernel) rfl ?_
  refine c_puti hI (hI.k 102 (by decide) (by decide +kernel)) F_Tray_19 (by decide +kernel) (Or.inl rfl) rfl rfl rfl (by decide +kernel) (fun h hI => ?_)
  refine g_aload_n (i := 0) (by decide +kernel) rfl ?_
  refine g_bipush (z := 40) (v := 40) (by decide +kernel) rfl ?_
  refine c_newa (aty := .long) (t0 := 1) (ty := .long) (N := 40) hI (by decide +kernel) (by decide +kernel) rfl rfl Ac_long ⟨by decide, by decide⟩ (by decide) (by decide) (by decide) (by decide +kernel) (by decide) (by decide) (by intro C; simp) (fun h hI => ?_)
  refine c_putr hI (hI.k 102 (by decide) (by decide +kernel)) F_Tray_22 (by decide +kernel) (Or.inr ⟨rfl, rfl, rfl⟩) rfl (by decide +kernel) (by decide +kernel) (fun h hI => ?_)
  exact g_vret (st := []) (by decide +kernel) rfl (by decide) (by decide) ⟨rfl, hI⟩
set_option maxRecDepth 100000 in
set_option maxHeartbeats 4000000 in
theorem ct_Tray_init_104 {h : am_H} (hI : am_In 105 113 74 h) : am_Ct 1 M_Tray_init [.ref 104] h 1 40 (fun v h => v = none ∧ am_In 106 114 77 h) := by
  refine am_Ct.of (by decide) rfl (Nat.le_of_ble_eq_true rfl) (ls := [(0, .ref 104)]) rfl ?_
  refine g_aload_n (i := 0) (by decide +kernel) rfl ?_
  refine g_objInit L_Tray_3 Oc_inst Oc_code (by decide +kernel) (Nat.le_of_ble_eq_true rfl) (by decide) ?_
  refine g_aload_n (i := 0) (by decide +kernel) rfl ?_
  refine g_iconst (z := 0) (v := 0) (by decide +kernel) rfl ?_
  refine c_puti hI (hI.k 104 (by decide) (by decide +kernel)) F_Tray_9 (by decide +kernel) (Or.inl rfl) rfl rfl rfl (by decide +kernel) (fun h hI => ?_)
  refine g_aload_n (i := 0) (by decide +kernel) rfl ?_
  refine g_iconst (z := 0) (v := 0) (by decide +kernel) rfl ?_
  refine c_puti hI (hI.k 104 (by decide) (by decide +kernel)) F_Tray_15 (by decide +kernel) (Or.inl rfl) rfl rfl rfl (by decide +kernel) (fun h hI => ?_)
  refine g_aload_n (i := 0) (by decide +kernel) rfl ?_
  refine g_iconst (z := 0) (v := 0) (by decide +kernel) rfl ?_
  refine c_puti hI (hI.k 104 (by decide) (by decide +kernel)) F_Tray_19 (by decide +kernel) (Or.inl rfl) rfl rfl rfl (by decide +kernel) (fun h hI => ?_)
  refine g_aload_n (i := 0) (by decide +kernel) rfl ?_
  refine g_bipush (z := 40) (v := 40) (by decide +kernel) rfl ?_
  refine c_newa (aty := .long) (t0 := 1) (ty := .long) (N := 40) hI (by decide +kernel) (by decide +kernel) rfl rfl Ac_long ⟨by decide, by decide⟩ (by decide) (by decide) (by decide) (by decide +kernel) (by decide) (by decide) (by intro C; simp) (fun h hI => ?_)
  refine c_putr hI (hI.k 104 (by decide) (by decide +kernel)) F_Tray_22 (by decide +kernel) (Or.inr ⟨rfl, rfl, rfl⟩) rfl (by decide +kernel) (by decide +kernel) (fun h hI => ?_)
  exact g_vret (st := []) (by decide +kernel) rfl (by decide) (by decide) ⟨rfl, hI⟩
set_option maxRecDepth 100000 in
set_option maxHeartbeats 4000000 in
theorem ct_Tray_init_106 {h : am_H} (hI : am_In 107 115 77 h) : am_Ct 1 M_Tray_init [.ref 106] h 1 40 (fun v h => v = none ∧ am_In 108 116 80 h) := by
  refine am_Ct.of (by decide) rfl (Nat.le_of_ble_eq_true rfl) (ls := [(0, .ref 106)]) rfl ?_
  refine g_aload_n (i := 0) (by decide +kernel) rfl ?_
  refine g_objInit L_Tray_3 Oc_inst Oc_code (by decide +kernel) (Nat.le_of_ble_eq_true rfl) (by decide) ?_
  refine g_aload_n (i := 0) (by decide +kernel) rfl ?_
  refine g_iconst (z := 0) (v := 0) (by decide +kernel) rfl ?_
  refine c_puti hI (hI.k 106 (by decide) (by decide +kernel)) F_Tray_9 (by decide +kernel) (Or.inl rfl) rfl rfl rfl (by decide +kernel) (fun h hI => ?_)
  refine g_aload_n (i := 0) (by decide +kernel) rfl ?_
  refine g_iconst (z := 0) (v := 0) (by decide +kernel) rfl ?_
  refine c_puti hI (hI.k 106 (by decide) (by decide +kernel)) F_Tray_15 (by decide +kernel) (Or.inl rfl) rfl rfl rfl (by decide +kernel) (fun h hI => ?_)
  refine g_aload_n (i := 0) (by decide +kernel) rfl ?_
  refine g_iconst (z := 0) (v := 0) (by decide +kernel) rfl ?_
  refine c_puti hI (hI.k 106 (by decide) (by decide +kernel)) F_Tray_19 (by decide +kernel) (Or.inl rfl) rfl rfl rfl (by decide +kernel) (fun h hI => ?_)
  refine g_aload_n (i := 0) (by decide +kernel) rfl ?_
  refine g_bipush (z := 40) (v := 40) (by decide +kernel) rfl ?_
  refine c_newa (aty := .long) (t0 := 1) (ty := .long) (N := 40) hI (by decide +kernel) (by decide +kernel) rfl rfl Ac_long ⟨by decide, by decide⟩ (by decide) (by decide) (by decide) (by decide +kernel) (by decide) (by decide) (by intro C; simp) (fun h hI => ?_)
  refine c_putr hI (hI.k 106 (by decide) (by decide +kernel)) F_Tray_22 (by decide +kernel) (Or.inr ⟨rfl, rfl, rfl⟩) rfl (by decide +kernel) (by decide +kernel) (fun h hI => ?_)
  exact g_vret (st := []) (by decide +kernel) rfl (by decide) (by decide) ⟨rfl, hI⟩
set_option maxRecDepth 100000 in
set_option maxHeartbeats 4000000 in
theorem ct_Tray_init_108 {h : am_H} (hI : am_In 109 117 80 h) : am_Ct 1 M_Tray_init [.ref 108] h 1 40 (fun v h => v = none ∧ am_In 110 118 83 h) := by
  refine am_Ct.of (by decide) rfl (Nat.le_of_ble_eq_true rfl) (ls := [(0, .ref 108)]) rfl ?_
  refine g_aload_n (i := 0) (by decide +kernel) rfl ?_
  refine g_objInit L_Tray_3 Oc_inst Oc_code (by decide +kernel) (Nat.le_of_ble_eq_true rfl) (by decide) ?_
  refine g_aload_n (i := 0) (by decide +kernel) rfl ?_
  refine g_iconst (z := 0) (v := 0) (by decide +kernel) rfl ?_
  refine c_puti hI (hI.k 108 (by decide) (by decide +kernel)) F_Tray_9 (by decide +kernel) (Or.inl rfl) rfl rfl rfl (by decide +kernel) (fun h hI => ?_)
  refine g_aload_n (i := 0) (by decide +kernel) rfl ?_
  refine g_iconst (z := 0) (v := 0) (by decide +kernel) rfl ?_
  refine c_puti hI (hI.k 108 (by decide) (by decide +kernel)) F_Tray_15 (by decide +kernel) (Or.inl rfl) rfl rfl rfl (by decide +kernel) (fun h hI => ?_)
  refine g_aload_n (i := 0) (by decide +kernel) rfl ?_
  refine g_iconst (z := 0) (v := 0) (by decide +kernel) rfl ?_
  refine c_puti hI (hI.k 108 (by decide) (by decide +kernel)) F_Tray_19 (by decide +kernel) (Or.inl rfl) rfl rfl rfl (by decide +kernel) (fun h hI => ?_)
  refine g_aload_n (i := 0) (by decide +kernel) rfl ?_
  refine g_bipush (z := 40) (v := 40) (by decide +kernel) rfl ?_
  refine c_newa (aty := .long) (t0 := 1) (ty := .long) (N := 40) hI (by decide +kernel) (by decide +kernel) rfl rfl Ac_long ⟨by decide, by decide⟩ (by decide) (by decide) (by decide) (by decide +kernel) (by decide) (by decide) (by intro C; simp) (fun h hI => ?_)
  refine c_putr hI (hI.k 108 (by decide) (by decide +kernel)) F_Tray_22 (by decide +kernel) (Or.inr ⟨rfl, rfl, rfl⟩) rfl (by decide +kernel) (by decide +kernel) (fun h hI => ?_)
  exact g_vret (st := []) (by decide +kernel) rfl (by decide) (by decide) ⟨rfl, hI⟩
set_option maxRecDepth 100000 in
set_option maxHeartbeats 4000000 in
theorem ct_River_init_110 {h : am_H} (hI : am_In 111 119 83 h) : am_Ct 1 M_River_init [.ref 110] h 8 206 (fun v h => v = none ∧ am_In 119 127 89 h) := by
  refine am_Ct.of (by decide) rfl (Nat.le_of_ble_eq_true rfl) (ls := [(0, .ref 110)]) rfl ?_
  refine g_aload_n (i := 0) (by decide +kernel) rfl ?_
  refine g_objInit L_River_3 Oc_inst Oc_code (by decide +kernel) (Nat.le_of_ble_eq_true rfl) (by decide) ?_
  refine g_aload_n (i := 0) (by decide +kernel) rfl ?_
  refine g_iconst (z := 2) (v := 2) (by decide +kernel) rfl ?_
  refine c_puti hI (hI.k 110 (by decide) (by decide +kernel)) F_River_9 (by decide +kernel) (Or.inl rfl) rfl rfl rfl (by decide +kernel) (fun h hI => ?_)
  refine g_aload_n (i := 0) (by decide +kernel) rfl ?_
  refine g_iconst (z := 1) (v := 1) (by decide +kernel) rfl ?_
  refine c_puti hI (hI.k 110 (by decide) (by decide +kernel)) F_River_15 (by decide +kernel) (Or.inl rfl) rfl rfl rfl (by decide +kernel) (fun h hI => ?_)
  refine g_aload_n (i := 0) (by decide +kernel) rfl ?_
  refine g_iconst (z := 0) (v := 0) (by decide +kernel) rfl ?_
  refine c_puti hI (hI.k 110 (by decide) (by decide +kernel)) F_River_18 (by decide +kernel) (Or.inl rfl) rfl rfl rfl (by decide +kernel) (fun h hI => ?_)
  refine g_aload_n (i := 0) (by decide +kernel) rfl ?_
  refine g_iconst (z := 0) (v := 0) (by decide +kernel) rfl ?_
  refine c_puti hI (hI.k 110 (by decide) (by decide +kernel)) F_River_21 (by decide +kernel) (Or.inl rfl) rfl rfl rfl (by decide +kernel) (fun h hI => ?_)
  refine g_aload_n (i := 0) (by decide +kernel) rfl ?_
  refine g_iconst (z := 0) (v := 0) (by decide +kernel) rfl ?_
  refine c_puti hI (hI.k 110 (by decide) (by decide +kernel)) F_River_24 (by decide +kernel) (Or.inl rfl) rfl rfl rfl (by decide +kernel) (fun h hI => ?_)
  refine g_aload_n (i := 0) (by decide +kernel) rfl ?_
  refine g_iconst (z := 0) (v := 0) (by decide +kernel) rfl ?_
  refine c_puti hI (hI.k 110 (by decide) (by decide +kernel)) F_River_27 (by decide +kernel) (Or.inl rfl) rfl rfl rfl (by decide +kernel) (fun h hI => ?_)
  refine g_aload_n (i := 0) (by decide +kernel) rfl ?_
  refine g_bipush (z := 6) (v := 6) (by decide +kernel) rfl ?_
  refine c_newa (aty := .int) (t0 := 0) (ty := .int) (N := 6) hI (by decide +kernel) (by decide +kernel) rfl rfl Ac_int ⟨by decide, by decide⟩ (by decide) (by decide) (by decide) (by decide +kernel) (by decide) (by decide) (by intro C; simp) (fun h hI => ?_)
  refine c_putr hI (hI.k 110 (by decide) (by decide +kernel)) F_River_30 (by decide +kernel) (Or.inr ⟨rfl, rfl, rfl⟩) rfl (by decide +kernel) (by decide +kernel) (fun h hI => ?_)
  refine g_aload_n (i := 0) (by decide +kernel) rfl ?_
  refine g_iconst (z := 5) (v := 5) (by decide +kernel) rfl ?_
  refine c_newa (aty := .int) (t0 := 0) (ty := .int) (N := 5) hI (by decide +kernel) (by decide +kernel) rfl rfl Ac_int ⟨by decide, by decide⟩ (by decide) (by decide) (by decide) (by decide +kernel) (by decide) (by decide) (by intro C; simp) (fun h hI => ?_)
  refine c_putr hI (hI.k 110 (by decide) (by decide +kernel)) F_River_34 (by decide +kernel) (Or.inr ⟨rfl, rfl, rfl⟩) rfl (by decide +kernel) (by decide +kernel) (fun h hI => ?_)
  refine g_aload_n (i := 0) (by decide +kernel) rfl ?_
  refine g_iconst (z := 5) (v := 5) (by decide +kernel) rfl ?_
  refine c_newa (aty := .int) (t0 := 0) (ty := .int) (N := 5) hI (by decide +kernel) (by decide +kernel) rfl rfl Ac_int ⟨by decide, by decide⟩ (by decide) (by decide) (by decide) (by decide +kernel) (by decide) (by decide) (by intro C; simp) (fun h hI => ?_)
  refine c_putr hI (hI.k 110 (by decide) (by decide +kernel)) F_River_37 (by decide +kernel) (Or.inr ⟨rfl, rfl, rfl⟩) rfl (by decide +kernel) (by decide +kernel) (fun h hI => ?_)
  refine g_aload_n (i := 0) (by decide +kernel) rfl ?_
  refine g_iconst (z := 5) (v := 5) (by decide +kernel) rfl ?_
  refine c_newa (aty := .int) (t0 := 0) (ty := .int) (N := 5) hI (by decide +kernel) (by decide +kernel) rfl rfl Ac_int ⟨by decide, by decide⟩ (by decide) (by decide) (by decide) (by decide +kernel) (by decide) (by decide) (by intro C; simp) (fun h hI => ?_)
  refine c_putr hI (hI.k 110 (by decide) (by decide +kernel)) F_River_40 (by decide +kernel) (Or.inr ⟨rfl, rfl, rfl⟩) rfl (by decide +kernel) (by decide +kernel) (fun h hI => ?_)
  refine g_aload_n (i := 0) (by decide +kernel) rfl ?_
  refine g_iconst (z := 5) (v := 5) (by decide +kernel) rfl ?_
  refine c_newa (aty := .int) (t0 := 0) (ty := .int) (N := 5) hI (by decide +kernel) (by decide +kernel) rfl rfl Ac_int ⟨by decide, by decide⟩ (by decide) (by decide) (by decide) (by decide +kernel) (by decide) (by decide) (by intro C; simp) (fun h hI => ?_)
  refine c_putr hI (hI.k 110 (by decide) (by decide +kernel)) F_River_43 (by decide +kernel) (Or.inr ⟨rfl, rfl, rfl⟩) rfl (by decide +kernel) (by decide +kernel) (fun h hI => ?_)
  refine g_aload_n (i := 0) (by decide +kernel) rfl ?_
  refine g_bipush (z := 60) (v := 60) (by decide +kernel) rfl ?_
  refine c_newa (aty := .int) (t0 := 0) (ty := .int) (N := 60) hI (by decide +kernel) (by decide +kernel) rfl rfl Ac_int ⟨by decide, by decide⟩ (by decide) (by decide) (by decide) (by decide +kernel) (by decide) (by decide) (by intro C; simp) (fun h hI => ?_)
  refine c_putr hI (hI.k 110 (by decide) (by decide +kernel)) F_River_46 (by decide +kernel) (Or.inr ⟨rfl, rfl, rfl⟩) rfl (by decide +kernel) (by decide +kernel) (fun h hI => ?_)
  refine g_aload_n (i := 0) (by decide +kernel) rfl ?_
  refine g_bipush (z := 60) (v := 60) (by decide +kernel) rfl ?_
  refine c_newa (aty := .int) (t0 := 0) (ty := .int) (N := 60) hI (by decide +kernel) (by decide +kernel) rfl rfl Ac_int ⟨by decide, by decide⟩ (by decide) (by decide) (by decide) (by decide +kernel) (by decide) (by decide) (by intro C; simp) (fun h hI => ?_)
  refine c_putr hI (hI.k 110 (by decide) (by decide +kernel)) F_River_49 (by decide +kernel) (Or.inr ⟨rfl, rfl, rfl⟩) rfl (by decide +kernel) (by decide +kernel) (fun h hI => ?_)
  refine g_aload_n (i := 0) (by decide +kernel) rfl ?_
  refine g_bipush (z := 60) (v := 60) (by decide +kernel) rfl ?_
  refine c_newa (aty := .int) (t0 := 0) (ty := .int) (N := 60) hI (by decide +kernel) (by decide +kernel) rfl rfl Ac_int ⟨by decide, by decide⟩ (by decide) (by decide) (by decide) (by decide +kernel) (by decide) (by decide) (by intro C; simp) (fun h hI => ?_)
  refine c_putr hI (hI.k 110 (by decide) (by decide +kernel)) F_River_52 (by decide +kernel) (Or.inr ⟨rfl, rfl, rfl⟩) rfl (by decide +kernel) (by decide +kernel) (fun h hI => ?_)
  exact g_vret (st := []) (by decide +kernel) rfl (by decide) (by decide) ⟨rfl, hI⟩
set_option maxRecDepth 100000 in
set_option maxHeartbeats 4000000 in
theorem ct_State_init_119 {h : am_H} (hI : am_In 120 128 89 h) : am_Ct 1 M_State_init [.ref 119] h 3 16 (fun v h => v = none ∧ am_In 123 131 92 h) := by
  refine am_Ct.of (by decide) rfl (Nat.le_of_ble_eq_true rfl) (ls := [(0, .ref 119)]) rfl ?_
  refine g_aload_n (i := 0) (by decide +kernel) rfl ?_
  refine g_objInit L_State_3 Oc_inst Oc_code (by decide +kernel) (Nat.le_of_ble_eq_true rfl) (by decide) ?_
  refine g_aload_n (i := 0) (by decide +kernel) rfl ?_
  refine g_iconst (z := 0) (v := 0) (by decide +kernel) rfl ?_
  refine c_puti hI (hI.k 119 (by decide) (by decide +kernel)) F_State_9 (by decide +kernel) (Or.inl rfl) rfl rfl rfl (by decide +kernel) (fun h hI => ?_)
  refine g_aload_n (i := 0) (by decide +kernel) rfl ?_
  refine g_iconst (z := 0) (v := 0) (by decide +kernel) rfl ?_
  refine c_puti hI (hI.k 119 (by decide) (by decide +kernel)) F_State_15 (by decide +kernel) (Or.inl rfl) rfl rfl rfl (by decide +kernel) (fun h hI => ?_)
  refine g_aload_n (i := 0) (by decide +kernel) rfl ?_
  refine g_iconst (z := 0) (v := 0) (by decide +kernel) rfl ?_
  refine c_puti hI (hI.k 119 (by decide) (by decide +kernel)) F_State_18 (by decide +kernel) (Or.inl rfl) rfl rfl rfl (by decide +kernel) (fun h hI => ?_)
  refine g_aload_n (i := 0) (by decide +kernel) rfl ?_
  refine g_bipush (z := 6) (v := 6) (by decide +kernel) rfl ?_
  refine c_newa (aty := .int) (t0 := 0) (ty := .int) (N := 6) hI (by decide +kernel) (by decide +kernel) rfl rfl Ac_int ⟨by decide, by decide⟩ (by decide) (by decide) (by decide) (by decide +kernel) (by decide) (by decide) (by intro C; simp) (fun h hI => ?_)
  refine c_putr hI (hI.k 119 (by decide) (by decide +kernel)) F_State_21 (by decide +kernel) (Or.inr ⟨rfl, rfl, rfl⟩) rfl (by decide +kernel) (by decide +kernel) (fun h hI => ?_)
  refine g_aload_n (i := 0) (by decide +kernel) rfl ?_
  refine g_iconst (z := 5) (v := 5) (by decide +kernel) rfl ?_
  refine c_newa (aty := .int) (t0 := 0) (ty := .int) (N := 5) hI (by decide +kernel) (by decide +kernel) rfl rfl Ac_int ⟨by decide, by decide⟩ (by decide) (by decide) (by decide) (by decide +kernel) (by decide) (by decide) (by intro C; simp) (fun h hI => ?_)
  refine c_putr hI (hI.k 119 (by decide) (by decide +kernel)) F_State_25 (by decide +kernel) (Or.inr ⟨rfl, rfl, rfl⟩) rfl (by decide +kernel) (by decide +kernel) (fun h hI => ?_)
  refine g_aload_n (i := 0) (by decide +kernel) rfl ?_
  refine g_iconst (z := 5) (v := 5) (by decide +kernel) rfl ?_
  refine c_newa (aty := .int) (t0 := 0) (ty := .int) (N := 5) hI (by decide +kernel) (by decide +kernel) rfl rfl Ac_int ⟨by decide, by decide⟩ (by decide) (by decide) (by decide) (by decide +kernel) (by decide) (by decide) (by intro C; simp) (fun h hI => ?_)
  refine c_putr hI (hI.k 119 (by decide) (by decide +kernel)) F_State_28 (by decide +kernel) (Or.inr ⟨rfl, rfl, rfl⟩) rfl (by decide +kernel) (by decide +kernel) (fun h hI => ?_)
  exact g_vret (st := []) (by decide +kernel) rfl (by decide) (by decide) ⟨rfl, hI⟩
set_option maxRecDepth 100000 in
set_option maxHeartbeats 4000000 in
theorem ct_River_init_123 {h : am_H} (hI : am_In 124 132 92 h) : am_Ct 1 M_River_init [.ref 123] h 8 206 (fun v h => v = none ∧ am_In 132 140 98 h) := by
  refine am_Ct.of (by decide) rfl (Nat.le_of_ble_eq_true rfl) (ls := [(0, .ref 123)]) rfl ?_
  refine g_aload_n (i := 0) (by decide +kernel) rfl ?_
  refine g_objInit L_River_3 Oc_inst Oc_code (by decide +kernel) (Nat.le_of_ble_eq_true rfl) (by decide) ?_
  refine g_aload_n (i := 0) (by decide +kernel) rfl ?_
  refine g_iconst (z := 2) (v := 2) (by decide +kernel) rfl ?_
  refine c_puti hI (hI.k 123 (by decide) (by decide +kernel)) F_River_9 (by decide +kernel) (Or.inl rfl) rfl rfl rfl (by decide +kernel) (fun h hI => ?_)
  refine g_aload_n (i := 0) (by decide +kernel) rfl ?_
  refine g_iconst (z := 1) (v := 1) (by decide +kernel) rfl ?_
  refine c_puti hI (hI.k 123 (by decide) (by decide +kernel)) F_River_15 (by decide +kernel) (Or.inl rfl) rfl rfl rfl (by decide +kernel) (fun h hI => ?_)
  refine g_aload_n (i := 0) (by decide +kernel) rfl ?_
  refine g_iconst (z := 0) (v := 0) (by decide +kernel) rfl ?_
  refine c_puti hI (hI.k 123 (by decide) (by decide +kernel)) F_River_18 (by decide +kernel) (Or.inl rfl) rfl rfl rfl (by decide +kernel) (fun h hI => ?_)
  refine g_aload_n (i := 0) (by decide +kernel) rfl ?_
  refine g_iconst (z := 0) (v := 0) (by decide +kernel) rfl ?_
  refine c_puti hI (hI.k 123 (by decide) (by decide +kernel)) F_River_21 (by decide +kernel) (Or.inl rfl) rfl rfl rfl (by decide +kernel) (fun h hI => ?_)
  refine g_aload_n (i := 0) (by decide +kernel) rfl ?_
  refine g_iconst (z := 0) (v := 0) (by decide +kernel) rfl ?_
  refine c_puti hI (hI.k 123 (by decide) (by decide +kernel)) F_River_24 (by decide +kernel) (Or.inl rfl) rfl rfl rfl (by decide +kernel) (fun h hI => ?_)
  refine g_aload_n (i := 0) (by decide +kernel) rfl ?_
  refine g_iconst (z := 0) (v := 0) (by decide +kernel) rfl ?_
  refine c_puti hI (hI.k 123 (by decide) (by decide +kernel)) F_River_27 (by decide +kernel) (Or.inl rfl) rfl rfl rfl (by decide +kernel) (fun h hI => ?_)
  refine g_aload_n (i := 0) (by decide +kernel) rfl ?_
  refine g_bipush (z := 6) (v := 6) (by decide +kernel) rfl ?_
  refine c_newa (aty := .int) (t0 := 0) (ty := .int) (N := 6) hI (by decide +kernel) (by decide +kernel) rfl rfl Ac_int ⟨by decide, by decide⟩ (by decide) (by decide) (by decide) (by decide +kernel) (by decide) (by decide) (by intro C; simp) (fun h hI => ?_)
  refine c_putr hI (hI.k 123 (by decide) (by decide +kernel)) F_River_30 (by decide +kernel) (Or.inr ⟨rfl, rfl, rfl⟩) rfl (by decide +kernel) (by decide +kernel) (fun h hI => ?_)
  refine g_aload_n (i := 0) (by decide +kernel) rfl ?_
  refine g_iconst (z := 5) (v := 5) (by decide +kernel) rfl ?_
  refine c_newa (aty := .int) (t0 := 0) (ty := .int) (N := 5) hI (by decide +kernel) (by decide +kernel) rfl rfl Ac_int ⟨by decide, by decide⟩ (by decide) (by decide) (by decide) (by decide +kernel) (by decide) (by decide) (by intro C; simp) (fun h hI => ?_)
  refine c_putr hI (hI.k 123 (by decide) (by decide +kernel)) F_River_34 (by decide +kernel) (Or.inr ⟨rfl, rfl, rfl⟩) rfl (by decide +kernel) (by decide +kernel) (fun h hI => ?_)
  refine g_aload_n (i := 0) (by decide +kernel) rfl ?_
  refine g_iconst (z := 5) (v := 5) (by decide +kernel) rfl ?_
  refine c_newa (aty := .int) (t0 := 0) (ty := .int) (N := 5) hI (by decide +kernel) (by decide +kernel) rfl rfl Ac_int ⟨by decide, by decide⟩ (by decide) (by decide) (by decide) (by decide +kernel) (by decide) (by decide) (by intro C; simp) (fun h hI => ?_)
  refine c_putr hI (hI.k 123 (by decide) (by decide +kernel)) F_River_37 (by decide +kernel) (Or.inr ⟨rfl, rfl, rfl⟩) rfl (by decide +kernel) (by decide +kernel) (fun h hI => ?_)
  refine g_aload_n (i := 0) (by decide +kernel) rfl ?_
  refine g_iconst (z := 5) (v := 5) (by decide +kernel) rfl ?_
  refine c_newa (aty := .int) (t0 := 0) (ty := .int) (N := 5) hI (by decide +kernel) (by decide +kernel) rfl rfl Ac_int ⟨by decide, by decide⟩ (by decide) (by decide) (by decide) (by decide +kernel) (by decide) (by decide) (by intro C; simp) (fun h hI => ?_)
  refine c_putr hI (hI.k 123 (by decide) (by decide +kernel)) F_River_40 (by decide +kernel) (Or.inr ⟨rfl, rfl, rfl⟩) rfl (by decide +kernel) (by decide +kernel) (fun h hI => ?_)
  refine g_aload_n (i := 0) (by decide +kernel) rfl ?_
  refine g_iconst (z := 5) (v := 5) (by decide +kernel) rfl ?_
  refine c_newa (aty := .int) (t0 := 0) (ty := .int) (N := 5) hI (by decide +kernel) (by decide +kernel) rfl rfl Ac_int ⟨by decide, by decide⟩ (by decide) (by decide) (by decide) (by decide +kernel) (by decide) (by decide) (by intro C; simp) (fun h hI => ?_)
  refine c_putr hI (hI.k 123 (by decide) (by decide +kernel)) F_River_43 (by decide +kernel) (Or.inr ⟨rfl, rfl, rfl⟩) rfl (by decide +kernel) (by decide +kernel) (fun h hI => ?_)
  refine g_aload_n (i := 0) (by decide +kernel) rfl ?_
  refine g_bipush (z := 60) (v := 60) (by decide +kernel) rfl ?_
  refine c_newa (aty := .int) (t0 := 0) (ty := .int) (N := 60) hI (by decide +kernel) (by decide +kernel) rfl rfl Ac_int ⟨by decide, by decide⟩ (by decide) (by decide) (by decide) (by decide +kernel) (by decide) (by decide) (by intro C; simp) (fun h hI => ?_)
  refine c_putr hI (hI.k 123 (by decide) (by decide +kernel)) F_River_46 (by decide +kernel) (Or.inr ⟨rfl, rfl, rfl⟩) rfl (by decide +kernel) (by decide +kernel) (fun h hI => ?_)
  refine g_aload_n (i := 0) (by decide +kernel) rfl ?_
  refine g_bipush (z := 60) (v := 60) (by decide +kernel) rfl ?_
  refine c_newa (aty := .int) (t0 := 0) (ty := .int) (N := 60) hI (by decide +kernel) (by decide +kernel) rfl rfl Ac_int ⟨by decide, by decide⟩ (by decide) (by decide) (by decide) (by decide +kernel) (by decide) (by decide) (by intro C; simp) (fun h hI => ?_)
  refine c_putr hI (hI.k 123 (by decide) (by decide +kernel)) F_River_49 (by decide +kernel) (Or.inr ⟨rfl, rfl, rfl⟩) rfl (by decide +kernel) (by decide +kernel) (fun h hI => ?_)
  refine g_aload_n (i := 0) (by decide +kernel) rfl ?_
  refine g_bipush (z := 60) (v := 60) (by decide +kernel) rfl ?_
  refine c_newa (aty := .int) (t0 := 0) (ty := .int) (N := 60) hI (by decide +kernel) (by decide +kernel) rfl rfl Ac_int ⟨by decide, by decide⟩ (by decide) (by decide) (by decide) (by decide +kernel) (by decide) (by decide) (by intro C; simp) (fun h hI => ?_)
  refine c_putr hI (hI.k 123 (by decide) (by decide +kernel)) F_River_52 (by decide +kernel) (Or.inr ⟨rfl, rfl, rfl⟩) rfl (by decide +kernel) (by decide +kernel) (fun h hI => ?_)
  exact g_vret (st := []) (by decide +kernel) rfl (by decide) (by decide) ⟨rfl, hI⟩
set_option maxRecDepth 100000 in
set_option maxHeartbeats 4000000 in
theorem ct_State_init_132 {h : am_H} (hI : am_In 133 141 98 h) : am_Ct 1 M_State_init [.ref 132] h 3 16 (fun v h => v = none ∧ am_In 136 144 101 h) := by
  refine am_Ct.of (by decide) rfl (Nat.le_of_ble_eq_true rfl) (ls := [(0, .ref 132)]) rfl ?_
  refine g_aload_n (i := 0) (by decide +kernel) rfl ?_
  refine g_objInit L_State_3 Oc_inst Oc_code (by decide +kernel) (Nat.le_of_ble_eq_true rfl) (by decide) ?_
  refine g_aload_n (i := 0) (by decide +kernel) rfl ?_
  refine g_iconst (z := 0) (v := 0) (by decide +kernel) rfl ?_
  refine c_puti hI (hI.k 132 (by decide) (by decide +kernel)) F_State_9 (by decide +kernel) (Or.inl rfl) rfl rfl rfl (by decide +kernel) (fun h hI => ?_)
  refine g_aload_n (i := 0) (by decide +kernel) rfl ?_
  refine g_iconst (z := 0) (v := 0) (by decide +kernel) rfl ?_
  refine c_puti hI (hI.k 132 (by decide) (by decide +kernel)) F_State_15 (by decide +kernel) (Or.inl rfl) rfl rfl rfl (by decide +kernel) (fun h hI => ?_)
  refine g_aload_n (i := 0) (by decide +kernel) rfl ?_
  refine g_iconst (z := 0) (v := 0) (by decide +kernel) rfl ?_
  refine c_puti hI (hI.k 132 (by decide) (by decide +kernel)) F_State_18 (by decide +kernel) (Or.inl rfl) rfl rfl rfl (by decide +kernel) (fun h hI => ?_)
  refine g_aload_n (i := 0) (by decide +kernel) rfl ?_
  refine g_bipush (z := 6) (v := 6) (by decide +kernel) rfl ?_
  refine c_newa (aty := .int) (t0 := 0) (ty := .int) (N := 6) hI (by decide +kernel) (by decide +kernel) rfl rfl Ac_int ⟨by decide, by decide⟩ (by decide) (by decide) (by decide) (by decide +kernel) (by decide) (by decide) (by intro C; simp) (fun h hI => ?_)
  refine c_putr hI (hI.k 132 (by decide) (by decide +kernel)) F_State_21 (by decide +kernel) (Or.inr ⟨rfl, rfl, rfl⟩) rfl (by decide +kernel) (by decide +kernel) (fun h hI => ?_)
  refine g_aload_n (i := 0) (by decide +kernel) rfl ?_
  refine g_iconst (z := 5) (v := 5) (by decide +kernel) rfl ?_
  refine c_newa (aty := .int) (t0 := 0) (ty := .int) (N := 5) hI (by decide +kernel) (by decide +kernel) rfl rfl Ac_int ⟨by decide, by decide⟩ (by decide) (by decide) (by decide) (by decide +kernel) (by decide) (by decide) (by intro C; simp) (fun h hI => ?_)
  refine c_putr hI (hI.k 132 (by decide) (by decide +kernel)) F_State_25 (by decide +kernel) (Or.inr ⟨rfl, rfl, rfl⟩) rfl (by decide +kernel) (by decide +kernel) (fun h hI => ?_)
  refine g_aload_n (i := 0) (by decide +kernel) rfl ?_
  refine g_iconst (z := 5) (v := 5) (by decide +kernel) rfl ?_
  refine c_newa (aty := .int) (t0 := 0) (ty := .int) (N := 5) hI (by decide +kernel) (by decide +kernel) rfl rfl Ac_int ⟨by decide, by decide⟩ (by decide) (by decide) (by decide) (by decide +kernel) (by decide) (by decide) (by intro C; simp) (fun h hI => ?_)
  refine c_putr hI (hI.k 132 (by decide) (by decide +kernel)) F_State_28 (by decide +kernel) (Or.inr ⟨rfl, rfl, rfl⟩) rfl (by decide +kernel) (by decide +kernel) (fun h hI => ?_)
  exact g_vret (st := []) (by decide +kernel) rfl (by decide) (by decide) ⟨rfl, hI⟩
set_option maxRecDepth 100000 in
set_option maxHeartbeats 4000000 in
theorem ct_Top_init_0 {h : am_H} (hI : am_In 1 0 0 h) : am_Ct 3 M_Top_init [.ref 0] h 135 7209 (fun v h => v = none ∧ am_In 136 145 101 h) := by
  refine am_Ct.of (by decide) rfl (Nat.le_of_ble_eq_true rfl) (ls := [(0, .ref 0)]) rfl ?_
  refine g_aload_n (i := 0) (by decide +kernel) rfl ?_
  refine g_objInit L_Top_1 Oc_inst Oc_code (by decide +kernel) (Nat.le_of_ble_eq_true rfl) (by decide) ?_
  refine g_aload_n (i := 0) (by decide +kernel) rfl ?_
  refine c_new (c := 5) hI (by decide +kernel) (by decide +kernel) (by decide) Cl_Top_7 Ins_River In_River (by decide +kernel) (by decide +kernel) (by decide) (by decide) (fun h hI => ?_)
  refine g_dup (by decide +kernel) rfl ?_
  refine g_callIN (as := []) (st := [.ref 1, .ref 0]) (ct_River_init_1 hI) Y_River_init Vi_River_init rfl rfl L_Top_9 (by decide +kernel) rfl rfl (Nat.le_of_ble_eq_true rfl) (by decide) (by decide) (by decide) (fun v h hq => ?_)
  obtain ⟨rfl, hI⟩ := hq
  refine c_putr hI (hI.k 0 (by decide) (by decide +kernel)) F_Top_10 (by decide +kernel) (Or.inr ⟨rfl, rfl, rfl⟩) rfl (by decide +kernel) (by decide +kernel) (fun h hI => ?_)
  refine g_aload_n (i := 0) (by decide +kernel) rfl ?_
  refine c_new (c := 7) hI (by decide +kernel) (by decide +kernel) (by decide) Cl_Top_16 Ins_State In_State (by decide +kernel) (by decide +kernel) (by decide) (by decide) (fun h hI => ?_)
  refine g_dup (by decide +kernel) rfl ?_
  refine g_callIN (as := []) (st := [.ref 10, .ref 0]) (ct_State_init_10 hI) Y_State_init Vi_State_init rfl rfl L_Top_18 (by decide +kernel) rfl rfl (Nat.le_of_ble_eq_true rfl) (by decide) (by decide) (by decide) (fun v h hq => ?_)
  obtain ⟨rfl, hI⟩ := hq
  refine c_putr hI (hI.k 0 (by decide) (by decide +kernel)) F_Top_19 (by decide +kernel) (Or.inr ⟨rfl, rfl, rfl⟩) rfl (by decide +kernel) (by decide +kernel) (fun h hI => ?_)
  refine g_aload_n (i := 0) (by decide +kernel) rfl ?_
  refine c_new (c := 7) hI (by decide +kernel) (by decide +kernel) (by decide) Cl_Top_16 Ins_State In_State (by decide +kernel) (by decide +kernel) (by decide) (by decide) (fun h hI => ?_)
  refine g_dup (by decide +kernel) rfl ?_
  refine g_callIN (as := []) (st := [.ref 14, .ref 0]) (ct_State_init_14 hI) Y_State_init Vi_State_init rfl rfl L_Top_18 (by decide +kernel) rfl rfl (Nat.le_of_ble_eq_true rfl) (by decide) (by decide) (by decide) (fun v h hq => ?_)
  obtain ⟨rfl, hI⟩ := hq
  refine c_putr hI (hI.k 0 (by decide) (by decide +kernel)) F_Top_23 (by decide +kernel) (Or.inr ⟨rfl, rfl, rfl⟩) rfl (by decide +kernel) (by decide +kernel) (fun h hI => ?_)
  refine g_aload_n (i := 0) (by decide +kernel) rfl ?_
  refine c_new (c := 3) hI (by decide +kernel) (by decide +kernel) (by decide) Cl_Top_26 Ins_Past In_Past (by decide +kernel) (by decide +kernel) (by decide) (by decide) (fun h hI => ?_)
  refine g_dup (by decide +kernel) rfl ?_
  refine g_callI (as := []) (st := [.ref 18, .ref 0]) (ct_Past_init_18 hI) Y_Past_init Vi_Past_init rfl rfl L_Top_28 (by decide +kernel) rfl rfl (Nat.le_of_ble_eq_true rfl) (by decide) (by decide) (by decide) (fun v h hq => ?_)
  obtain ⟨rfl, hI⟩ := hq
  refine c_putr hI (hI.k 0 (by decide) (by decide +kernel)) F_Top_29 (by decide +kernel) (Or.inr ⟨rfl, rfl, rfl⟩) rfl (by decide +kernel) (by decide +kernel) (fun h hI => ?_)
  refine g_aload_n (i := 0) (by decide +kernel) rfl ?_
  refine g_sipush (z := 900) (v := 900) (by decide +kernel) rfl ?_
  refine c_newa (aty := .byte) (t0 := 2) (ty := .byte) (N := 900) hI (by decide +kernel) (by decide +kernel) rfl rfl Ac_byte ⟨by decide, by decide⟩ (by decide) (by decide) (by decide) (by decide +kernel) (by decide) (by decide) (by intro C; simp) (fun h hI => ?_)
  refine c_putr hI (hI.k 0 (by decide) (by decide +kernel)) F_Top_33 (by decide +kernel) (Or.inr ⟨rfl, rfl, rfl⟩) rfl (by decide +kernel) (by decide +kernel) (fun h hI => ?_)
  refine g_aload_n (i := 0) (by decide +kernel) rfl ?_
  refine c_new (c := 4) hI (by decide +kernel) (by decide +kernel) (by decide) Cl_Top_37 Ins_Reader In_Reader (by decide +kernel) (by decide +kernel) (by decide) (by decide) (fun h hI => ?_)
  refine g_dup (by decide +kernel) rfl ?_
  refine g_callIN (as := []) (st := [.ref 61, .ref 0]) (ct_Reader_init_61 hI) Y_Reader_init Vi_Reader_init rfl rfl L_Top_39 (by decide +kernel) rfl rfl (Nat.le_of_ble_eq_true rfl) (by decide) (by decide) (by decide) (fun v h hq => ?_)
  obtain ⟨rfl, hI⟩ := hq
  refine c_putr hI (hI.k 0 (by decide) (by decide +kernel)) F_Top_40 (by decide +kernel) (Or.inr ⟨rfl, rfl, rfl⟩) rfl (by decide +kernel) (by decide +kernel) (fun h hI => ?_)
  refine g_aload_n (i := 0) (by decide +kernel) rfl ?_
  refine g_iconst (z := 4) (v := 4) (by decide +kernel) rfl ?_
  refine c_newq (t0 := 4) (N := 4) (C := "MovedSpan$Tray") hI (by decide +kernel) (by decide +kernel) rfl Cl_Top_44 Ao_Tray (by decide) (by decide) (by decide) (by decide +kernel) (by decide) (by decide) (fun h hI => ?_)
  refine c_putr hI (hI.k 0 (by decide) (by decide +kernel)) F_Top_46 (by decide +kernel) (Or.inr ⟨rfl, rfl, rfl⟩) rfl (by decide +kernel) (by decide +kernel) (fun h hI => ?_)
  refine g_aload_n (i := 0) (by decide +kernel) rfl ?_
  refine g_iconst (z := 2) (v := 2) (by decide +kernel) rfl ?_
  refine c_newq (t0 := 5) (N := 2) (C := "MovedSpan$River") hI (by decide +kernel) (by decide +kernel) rfl Cl_Top_7 Ao_River (by decide) (by decide) (by decide) (by decide +kernel) (by decide) (by decide) (fun h hI => ?_)
  refine c_putr hI (hI.k 0 (by decide) (by decide +kernel)) F_Top_50 (by decide +kernel) (Or.inr ⟨rfl, rfl, rfl⟩) rfl (by decide +kernel) (by decide +kernel) (fun h hI => ?_)
  refine g_aload_n (i := 0) (by decide +kernel) rfl ?_
  refine g_iconst (z := 2) (v := 2) (by decide +kernel) rfl ?_
  refine c_newq (t0 := 6) (N := 2) (C := "MovedSpan$State") hI (by decide +kernel) (by decide +kernel) rfl Cl_Top_16 Ao_State (by decide) (by decide) (by decide) (by decide +kernel) (by decide) (by decide) (fun h hI => ?_)
  refine c_putr hI (hI.k 0 (by decide) (by decide +kernel)) F_Top_54 (by decide +kernel) (Or.inr ⟨rfl, rfl, rfl⟩) rfl (by decide +kernel) (by decide +kernel) (fun h hI => ?_)
  refine g_aload_n (i := 0) (by decide +kernel) rfl ?_
  refine c_new (c := 0) hI (by decide +kernel) (by decide +kernel) (by decide) Cl_Top_58 Ins_Ahead In_Ahead (by decide +kernel) (by decide +kernel) (by decide) (by decide) (fun h hI => ?_)
  refine g_dup (by decide +kernel) rfl ?_
  refine g_aload_n (i := 0) (by decide +kernel) rfl ?_
  refine g_getr (hI.k 0 (by decide) (by decide +kernel)) F_Top_10.1 F_Top_10.2 (by decide +kernel) rfl (hI.r 8 (by decide) (q := (0, 0, 1)) (by decide +kernel)) ?_
  refine g_aload_n (i := 0) (by decide +kernel) rfl ?_
  refine g_getr (hI.k 0 (by decide) (by decide +kernel)) F_Top_19.1 F_Top_19.2 (by decide +kernel) rfl (hI.r 12 (by decide) (q := (0, 1, 10)) (by decide +kernel)) ?_
  refine g_callI (as := [.ref 1, .ref 10]) (st := [.ref 86, .ref 0]) (ct_Ahead_init_86 hI) Y_Ahead_init Vi_Ahead_init rfl rfl L_Top_60 (by decide +kernel) rfl rfl (Nat.le_of_ble_eq_true rfl) (by decide) (by decide) (by decide) (fun v h hq => ?_)
  obtain ⟨rfl, hI⟩ := hq
  refine c_putr hI (hI.k 0 (by decide) (by decide +kernel)) F_Top_63 (by decide +kernel) (Or.inr ⟨rfl, rfl, rfl⟩) rfl (by decide +kernel) (by decide +kernel) (fun h hI => ?_)
  refine g_aload_n (i := 0) (by decide +kernel) rfl ?_
  refine c_new (c := 10) hI (by decide +kernel) (by decide +kernel) (by decide) Cl_Top_67 Ins_Weeks In_Weeks (by decide +kernel) (by decide +kernel) (by decide) (by decide) (fun h hI => ?_)
  refine g_dup (by decide +kernel) rfl ?_
  refine g_aload_n (i := 0) (by decide +kernel) rfl ?_
  refine g_getr (hI.k 0 (by decide) (by decide +kernel)) F_Top_10.1 F_Top_10.2 (by decide +kernel) rfl (hI.r 8 (by decide) (q := (0, 0, 1)) (by decide +kernel)) ?_
  refine g_aload_n (i := 0) (by decide +kernel) rfl ?_
  refine g_getr (hI.k 0 (by decide) (by decide +kernel)) F_Top_19.1 F_Top_19.2 (by decide +kernel) rfl (hI.r 12 (by decide) (q := (0, 1, 10)) (by decide +kernel)) ?_
  refine g_aload_n (i := 0) (by decide +kernel) rfl ?_
  refine g_getr (hI.k 0 (by decide) (by decide +kernel)) F_Top_63.1 F_Top_63.2 (by decide +kernel) rfl (hI.r 92 (by decide) (q := (0, 9, 86)) (by decide +kernel)) ?_
  refine g_callI (as := [.ref 1, .ref 10, .ref 86]) (st := [.ref 91, .ref 0]) (ct_Weeks_init_91 hI) Y_Weeks_init Vi_Weeks_init rfl rfl L_Top_69 (by decide +kernel) rfl rfl (Nat.le_of_ble_eq_true rfl) (by decide) (by decide) (by decide) (fun v h hq => ?_)
  obtain ⟨rfl, hI⟩ := hq
  refine c_putr hI (hI.k 0 (by decide) (by decide +kernel)) F_Top_72 (by decide +kernel) (Or.inr ⟨rfl, rfl, rfl⟩) rfl (by decide +kernel) (by decide +kernel) (fun h hI => ?_)
  refine g_aload_n (i := 0) (by decide +kernel) rfl ?_
  refine c_new (c := 6) hI (by decide +kernel) (by decide +kernel) (by decide) Cl_Top_76 Ins_Sightings In_Sightings (by decide +kernel) (by decide +kernel) (by decide) (by decide) (fun h hI => ?_)
  refine g_dup (by decide +kernel) rfl ?_
  refine g_aload_n (i := 0) (by decide +kernel) rfl ?_
  refine g_getr (hI.k 0 (by decide) (by decide +kernel)) F_Top_10.1 F_Top_10.2 (by decide +kernel) rfl (hI.r 8 (by decide) (q := (0, 0, 1)) (by decide +kernel)) ?_
  refine g_aload_n (i := 0) (by decide +kernel) rfl ?_
  refine g_getr (hI.k 0 (by decide) (by decide +kernel)) F_Top_19.1 F_Top_19.2 (by decide +kernel) rfl (hI.r 12 (by decide) (q := (0, 1, 10)) (by decide +kernel)) ?_
  refine g_callI (as := [.ref 1, .ref 10]) (st := [.ref 96, .ref 0]) (ct_Sightings_init_96 hI) Y_Sightings_init Vi_Sightings_init rfl rfl L_Top_78 (by decide +kernel) rfl rfl (Nat.le_of_ble_eq_true rfl) (by decide) (by decide) (by decide) (fun v h hq => ?_)
  obtain ⟨rfl, hI⟩ := hq
  refine c_putr hI (hI.k 0 (by decide) (by decide +kernel)) F_Top_79 (by decide +kernel) (Or.inr ⟨rfl, rfl, rfl⟩) rfl (by decide +kernel) (by decide +kernel) (fun h hI => ?_)
  refine g_aload_n (i := 0) (by decide +kernel) rfl ?_
  refine c_new (c := 1) hI (by decide +kernel) (by decide +kernel) (by decide) Cl_Top_83 Ins_Chances In_Chances (by decide +kernel) (by decide +kernel) (by decide) (by decide) (fun h hI => ?_)
  refine g_dup (by decide +kernel) rfl ?_
  refine g_aload_n (i := 0) (by decide +kernel) rfl ?_
  refine g_getr (hI.k 0 (by decide) (by decide +kernel)) F_Top_10.1 F_Top_10.2 (by decide +kernel) rfl (hI.r 8 (by decide) (q := (0, 0, 1)) (by decide +kernel)) ?_
  refine g_aload_n (i := 0) (by decide +kernel) rfl ?_
  refine g_getr (hI.k 0 (by decide) (by decide +kernel)) F_Top_19.1 F_Top_19.2 (by decide +kernel) rfl (hI.r 12 (by decide) (q := (0, 1, 10)) (by decide +kernel)) ?_
  refine g_callI (as := [.ref 1, .ref 10]) (st := [.ref 99, .ref 0]) (ct_Chances_init_99 hI) Y_Chances_init Vi_Chances_init rfl rfl L_Top_85 (by decide +kernel) rfl rfl (Nat.le_of_ble_eq_true rfl) (by decide) (by decide) (by decide) (fun v h hq => ?_)
  obtain ⟨rfl, hI⟩ := hq
  refine c_putr hI (hI.k 0 (by decide) (by decide +kernel)) F_Top_86 (by decide +kernel) (Or.inr ⟨rfl, rfl, rfl⟩) rfl (by decide +kernel) (by decide +kernel) (fun h hI => ?_)
  refine g_aload_n (i := 0) (by decide +kernel) rfl ?_
  refine g_iconst (z := 0) (v := 0) (by decide +kernel) rfl ?_
  refine c_puti hI (hI.k 0 (by decide) (by decide +kernel)) F_Top_90 (by decide +kernel) (Or.inl rfl) rfl rfl rfl (by decide +kernel) (fun h hI => ?_)
  refine g_aload_n (i := 0) (by decide +kernel) rfl ?_
  refine g_iconst (z := 0) (v := 0) (by decide +kernel) rfl ?_
  refine c_puti hI (hI.k 0 (by decide) (by decide +kernel)) F_Top_94 (by decide +kernel) (Or.inl rfl) rfl rfl rfl (by decide +kernel) (fun h hI => ?_)
  refine g_iconst (z := 0) (v := 0) (by decide +kernel) rfl ?_
  refine g_istore_n (i := 1) (by decide +kernel) rfl (by decide) (ls1 := [(0, .ref 0), (1, .int 0)]) rfl ?_
  refine g_iload_n (i := 1) (by decide +kernel) rfl ?_
  refine g_iconst (z := 4) (v := 4) (by decide +kernel) rfl ?_
  refine g_icmp_ge (off := 22) (tgt := 208) (by decide +kernel) (by decide) (fun c => absurd c (by decide)) (fun _ => ?_)
  refine g_aload_n (i := 0) (by decide +kernel) rfl ?_
  refine g_getr (hI.k 0 (by decide) (by decide +kernel)) F_Top_46.1 F_Top_46.2 (by decide +kernel) rfl (hI.r 83 (by decide) (q := (0, 6, 83)) (by decide +kernel)) ?_
  refine g_iload_n (i := 1) (by decide +kernel) rfl ?_
  refine c_new (c := 9) hI (by decide +kernel) (by decide +kernel) (by decide) Cl_Top_44 Ins_Tray In_Tray (by decide +kernel) (by decide +kernel) (by decide) (by decide) (fun h hI => ?_)
  refine g_dup (by decide +kernel) rfl ?_
  refine g_callIN (as := []) (st := [.ref 102, .int 0, .ref 83]) (ct_Tray_init_102 hI) Y_Tray_init Vi_Tray_init rfl rfl L_Top_97 (by decide +kernel) rfl rfl (Nat.le_of_ble_eq_true rfl) (by decide) (by decide) (by decide) (fun v h hq => ?_)
  obtain ⟨rfl, hI⟩ := hq
  refine c_aast (c := 9) (t0 := 4) (L := 4) hI (hI.k 83 (by decide) (by decide +kernel)) rfl (hI.k 102 (by decide) (by decide +kernel)) (by unfold vp_in; decide) (by decide +kernel) (by decide +kernel) (by decide +kernel) (fun h hI => ?_)
  refine g_iinc (i := 1) (z := 1) (v := 1) (by decide +kernel) rfl rfl rfl (by decide) (ls1 := [(0, .ref 0), (1, .int 1)]) rfl ?_
  refine g_goto (off := (-21)) (tgt := 184) (by decide +kernel) (by decide) ?_
  refine g_iload_n (i := 1) (by decide +kernel) rfl ?_
  refine g_iconst (z := 4) (v := 4) (by decide +kernel) rfl ?_
  refine g_icmp_ge (off := 22) (tgt := 208) (by decide +kernel) (by decide) (fun c => absurd c (by decide)) (fun _ => ?_)
  refine g_aload_n (i := 0) (by decide +kernel) rfl ?_
  refine g_getr (hI.k 0 (by decide) (by decide +kernel)) F_Top_46.1 F_Top_46.2 (by decide +kernel) rfl (hI.r 83 (by decide) (q := (0, 6, 83)) (by decide +kernel)) ?_
  refine g_iload_n (i := 1) (by decide +kernel) rfl ?_
  refine c_new (c := 9) hI (by decide +kernel) (by decide +kernel) (by decide) Cl_Top_44 Ins_Tray In_Tray (by decide +kernel) (by decide +kernel) (by decide) (by decide) (fun h hI => ?_)
  refine g_dup (by decide +kernel) rfl ?_
  refine g_callIN (as := []) (st := [.ref 104, .int 1, .ref 83]) (ct_Tray_init_104 hI) Y_Tray_init Vi_Tray_init rfl rfl L_Top_97 (by decide +kernel) rfl rfl (Nat.le_of_ble_eq_true rfl) (by decide) (by decide) (by decide) (fun v h hq => ?_)
  obtain ⟨rfl, hI⟩ := hq
  refine c_aast (c := 9) (t0 := 4) (L := 4) hI (hI.k 83 (by decide) (by decide +kernel)) rfl (hI.k 104 (by decide) (by decide +kernel)) (by unfold vp_in; decide) (by decide +kernel) (by decide +kernel) (by decide +kernel) (fun h hI => ?_)
  refine g_iinc (i := 1) (z := 1) (v := 2) (by decide +kernel) rfl rfl rfl (by decide) (ls1 := [(0, .ref 0), (1, .int 2)]) rfl ?_
  refine g_goto (off := (-21)) (tgt := 184) (by decide +kernel) (by decide) ?_
  refine g_iload_n (i := 1) (by decide +kernel) rfl ?_
  refine g_iconst (z := 4) (v := 4) (by decide +kernel) rfl ?_
  refine g_icmp_ge (off := 22) (tgt := 208) (by decide +kernel) (by decide) (fun c => absurd c (by decide)) (fun _ => ?_)
  refine g_aload_n (i := 0) (by decide +kernel) rfl ?_
  refine g_getr (hI.k 0 (by decide) (by decide +kernel)) F_Top_46.1 F_Top_46.2 (by decide +kernel) rfl (hI.r 83 (by decide) (q := (0, 6, 83)) (by decide +kernel)) ?_
  refine g_iload_n (i := 1) (by decide +kernel) rfl ?_
  refine c_new (c := 9) hI (by decide +kernel) (by decide +kernel) (by decide) Cl_Top_44 Ins_Tray In_Tray (by decide +kernel) (by decide +kernel) (by decide) (by decide) (fun h hI => ?_)
  refine g_dup (by decide +kernel) rfl ?_
  refine g_callIN (as := []) (st := [.ref 106, .int 2, .ref 83]) (ct_Tray_init_106 hI) Y_Tray_init Vi_Tray_init rfl rfl L_Top_97 (by decide +kernel) rfl rfl (Nat.le_of_ble_eq_true rfl) (by decide) (by decide) (by decide) (fun v h hq => ?_)
  obtain ⟨rfl, hI⟩ := hq
  refine c_aast (c := 9) (t0 := 4) (L := 4) hI (hI.k 83 (by decide) (by decide +kernel)) rfl (hI.k 106 (by decide) (by decide +kernel)) (by unfold vp_in; decide) (by decide +kernel) (by decide +kernel) (by decide +kernel) (fun h hI => ?_)
  refine g_iinc (i := 1) (z := 1) (v := 3) (by decide +kernel) rfl rfl rfl (by decide) (ls1 := [(0, .ref 0), (1, .int 3)]) rfl ?_
  refine g_goto (off := (-21)) (tgt := 184) (by decide +kernel) (by decide) ?_
  refine g_iload_n (i := 1) (by decide +kernel) rfl ?_
  refine g_iconst (z := 4) (v := 4) (by decide +kernel) rfl ?_
  refine g_icmp_ge (off := 22) (tgt := 208) (by decide +kernel) (by decide) (fun c => absurd c (by decide)) (fun _ => ?_)
  refine g_aload_n (i := 0) (by decide +kernel) rfl ?_
  refine g_getr (hI.k 0 (by decide) (by decide +kernel)) F_Top_46.1 F_Top_46.2 (by decide +kernel) rfl (hI.r 83 (by decide) (q := (0, 6, 83)) (by decide +kernel)) ?_
  refine g_iload_n (i := 1) (by decide +kernel) rfl ?_
  refine c_new (c := 9) hI (by decide +kernel) (by decide +kernel) (by decide) Cl_Top_44 Ins_Tray In_Tray (by decide +kernel) (by decide +kernel) (by decide) (by decide) (fun h hI => ?_)
  refine g_dup (by decide +kernel) rfl ?_
  refine g_callIN (as := []) (st := [.ref 108, .int 3, .ref 83]) (ct_Tray_init_108 hI) Y_Tray_init Vi_Tray_init rfl rfl L_Top_97 (by decide +kernel) rfl rfl (Nat.le_of_ble_eq_true rfl) (by decide) (by decide) (by decide) (fun v h hq => ?_)
  obtain ⟨rfl, hI⟩ := hq
  refine c_aast (c := 9) (t0 := 4) (L := 4) hI (hI.k 83 (by decide) (by decide +kernel)) rfl (hI.k 108 (by decide) (by decide +kernel)) (by unfold vp_in; decide) (by decide +kernel) (by decide +kernel) (by decide +kernel) (fun h hI => ?_)
  refine g_iinc (i := 1) (z := 1) (v := 4) (by decide +kernel) rfl rfl rfl (by decide) (ls1 := [(0, .ref 0), (1, .int 4)]) rfl ?_
  refine g_goto (off := (-21)) (tgt := 184) (by decide +kernel) (by decide) ?_
  refine g_iload_n (i := 1) (by decide +kernel) rfl ?_
  refine g_iconst (z := 4) (v := 4) (by decide +kernel) rfl ?_
  refine g_icmp_ge (off := 22) (tgt := 208) (by decide +kernel) (by decide) (fun _ => ?_) (fun c => absurd (by decide) c)
  refine g_iconst (z := 0) (v := 0) (by decide +kernel) rfl ?_
  refine g_istore_n (i := 1) (by decide +kernel) rfl (by decide) (ls1 := [(0, .ref 0), (1, .int 0)]) rfl ?_
  refine g_iload_n (i := 1) (by decide +kernel) rfl ?_
  refine g_iconst (z := 2) (v := 2) (by decide +kernel) rfl ?_
  refine g_icmp_ge (off := 35) (tgt := 247) (by decide +kernel) (by decide) (fun c => absurd c (by decide)) (fun _ => ?_)
  refine g_aload_n (i := 0) (by decide +kernel) rfl ?_
  refine g_getr (hI.k 0 (by decide) (by decide +kernel)) F_Top_50.1 F_Top_50.2 (by decide +kernel) rfl (hI.r 84 (by decide) (q := (0, 7, 84)) (by decide +kernel)) ?_
  refine g_iload_n (i := 1) (by decide +kernel) rfl ?_
  refine c_new (c := 5) hI (by decide +kernel) (by decide +kernel) (by decide) Cl_Top_7 Ins_River In_River (by decide +kernel) (by decide +kernel) (by decide) (by decide) (fun h hI => ?_)
  refine g_dup (by decide +kernel) rfl ?_
  refine g_callIN (as := []) (st := [.ref 110, .int 0, .ref 84]) (ct_River_init_110 hI) Y_River_init Vi_River_init rfl rfl L_Top_9 (by decide +kernel) rfl rfl (Nat.le_of_ble_eq_true rfl) (by decide) (by decide) (by decide) (fun v h hq => ?_)
  obtain ⟨rfl, hI⟩ := hq
  refine c_aast (c := 5) (t0 := 5) (L := 2) hI (hI.k 84 (by decide) (by decide +kernel)) rfl (hI.k 110 (by decide) (by decide +kernel)) (by unfold vp_in; decide) (by decide +kernel) (by decide +kernel) (by decide +kernel) (fun h hI => ?_)
  refine g_aload_n (i := 0) (by decide +kernel) rfl ?_
  refine g_getr (hI.k 0 (by decide) (by decide +kernel)) F_Top_54.1 F_Top_54.2 (by decide +kernel) rfl (hI.r 85 (by decide) (q := (0, 8, 85)) (by decide +kernel)) ?_
  refine g_iload_n (i := 1) (by decide +kernel) rfl ?_
  refine c_new (c := 7) hI (by decide +kernel) (by decide +kernel) (by decide) Cl_Top_16 Ins_State In_State (by decide +kernel) (by decide +kernel) (by decide) (by decide) (fun h hI => ?_)
  refine g_dup (by decide +kernel) rfl ?_
  refine g_callIN (as := []) (st := [.ref 119, .int 0, .ref 85]) (ct_State_init_119 hI) Y_State_init Vi_State_init rfl rfl L_Top_18 (by decide +kernel) rfl rfl (Nat.le_of_ble_eq_true rfl) (by decide) (by decide) (by decide) (fun v h hq => ?_)
  obtain ⟨rfl, hI⟩ := hq
  refine c_aast (c := 7) (t0 := 6) (L := 2) hI (hI.k 85 (by decide) (by decide +kernel)) rfl (hI.k 119 (by decide) (by decide +kernel)) (by unfold vp_in; decide) (by decide +kernel) (by decide +kernel) (by decide +kernel) (fun h hI => ?_)
  refine g_iinc (i := 1) (z := 1) (v := 1) (by decide +kernel) rfl rfl rfl (by decide) (ls1 := [(0, .ref 0), (1, .int 1)]) rfl ?_
  refine g_goto (off := (-34)) (tgt := 210) (by decide +kernel) (by decide) ?_
  refine g_iload_n (i := 1) (by decide +kernel) rfl ?_
  refine g_iconst (z := 2) (v := 2) (by decide +kernel) rfl ?_
  refine g_icmp_ge (off := 35) (tgt := 247) (by decide +kernel) (by decide) (fun c => absurd c (by decide)) (fun _ => ?_)
  refine g_aload_n (i := 0) (by decide +kernel) rfl ?_
  refine g_getr (hI.k 0 (by decide) (by decide +kernel)) F_Top_50.1 F_Top_50.2 (by decide +kernel) rfl (hI.r 84 (by decide) (q := (0, 7, 84)) (by decide +kernel)) ?_
  refine g_iload_n (i := 1) (by decide +kernel) rfl ?_
  refine c_new (c := 5) hI (by decide +kernel) (by decide +kernel) (by decide) Cl_Top_7 Ins_River In_River (by decide +kernel) (by decide +kernel) (by decide) (by decide) (fun h hI => ?_)
  refine g_dup (by decide +kernel) rfl ?_
  refine g_callIN (as := []) (st := [.ref 123, .int 1, .ref 84]) (ct_River_init_123 hI) Y_River_init Vi_River_init rfl rfl L_Top_9 (by decide +kernel) rfl rfl (Nat.le_of_ble_eq_true rfl) (by decide) (by decide) (by decide) (fun v h hq => ?_)
  obtain ⟨rfl, hI⟩ := hq
  refine c_aast (c := 5) (t0 := 5) (L := 2) hI (hI.k 84 (by decide) (by decide +kernel)) rfl (hI.k 123 (by decide) (by decide +kernel)) (by unfold vp_in; decide) (by decide +kernel) (by decide +kernel) (by decide +kernel) (fun h hI => ?_)
  refine g_aload_n (i := 0) (by decide +kernel) rfl ?_
  refine g_getr (hI.k 0 (by decide) (by decide +kernel)) F_Top_54.1 F_Top_54.2 (by decide +kernel) rfl (hI.r 85 (by decide) (q := (0, 8, 85)) (by decide +kernel)) ?_
  refine g_iload_n (i := 1) (by decide +kernel) rfl ?_
  refine c_new (c := 7) hI (by decide +kernel) (by decide +kernel) (by decide) Cl_Top_16 Ins_State In_State (by decide +kernel) (by decide +kernel) (by decide) (by decide) (fun h hI => ?_)
  refine g_dup (by decide +kernel) rfl ?_
  refine g_callIN (as := []) (st := [.ref 132, .int 1, .ref 85]) (ct_State_init_132 hI) Y_State_init Vi_State_init rfl rfl L_Top_18 (by decide +kernel) rfl rfl (Nat.le_of_ble_eq_true rfl) (by decide) (by decide) (by decide) (fun v h hq => ?_)
  obtain ⟨rfl, hI⟩ := hq
  refine c_aast (c := 7) (t0 := 6) (L := 2) hI (hI.k 85 (by decide) (by decide +kernel)) rfl (hI.k 132 (by decide) (by decide +kernel)) (by unfold vp_in; decide) (by decide +kernel) (by decide +kernel) (by decide +kernel) (fun h hI => ?_)
  refine g_iinc (i := 1) (z := 1) (v := 2) (by decide +kernel) rfl rfl rfl (by decide) (ls1 := [(0, .ref 0), (1, .int 2)]) rfl ?_
  refine g_goto (off := (-34)) (tgt := 210) (by decide +kernel) (by decide) ?_
  refine g_iload_n (i := 1) (by decide +kernel) rfl ?_
  refine g_iconst (z := 2) (v := 2) (by decide +kernel) rfl ?_
  refine g_icmp_ge (off := 35) (tgt := 247) (by decide +kernel) (by decide) (fun _ => ?_) (fun c => absurd (by decide) c)
  exact g_vret (st := []) (by decide +kernel) rfl (by decide) (by decide) ⟨rfl, hI⟩
set_option maxRecDepth 100000 in
set_option maxHeartbeats 4000000 in
theorem ct_Mod_init_136 {h : am_H} (hI : am_In 137 145 101 h) (hp0 : ∀ h, am_In 161 169 106 h → ∃ r, f_Mod_plain 137 3411 h = some r) : am_Ct 1 M_Mod_init [.ref 136] h 24 6928 (fun v h1 => v = none ∧ ∃ h, am_In 161 169 106 h ∧ f_Mod_plain 137 3411 h = some h1 ∧ am_Sh h1) := by
  refine am_Ct.of (by decide) rfl (Nat.le_of_ble_eq_true rfl) (ls := [(0, .ref 136)]) rfl ?_
  refine g_aload_n (i := 0) (by decide +kernel) rfl ?_
  refine g_objInit L_Mod_7 Oc_inst Oc_code (by decide +kernel) (Nat.le_of_ble_eq_true rfl) (by decide) ?_
  refine g_aload_n (i := 0) (by decide +kernel) rfl ?_
  refine g_sipush (z := 3411) (v := 3411) (by decide +kernel) rfl ?_
  refine c_newa (aty := .int) (t0 := 0) (ty := .int) (N := 3411) hI (by decide +kernel) (by decide +kernel) rfl rfl Ac_int ⟨by decide, by decide⟩ (by decide) (by decide) (by decide) (by decide +kernel) (by decide) (by decide) (by intro C; simp) (fun h hI => ?_)
  refine c_putr hI (hI.k 136 (by decide) (by decide +kernel)) F_Mod_13 (by decide +kernel) (Or.inr ⟨rfl, rfl, rfl⟩) rfl (by decide +kernel) (by decide +kernel) (fun h hI => ?_)
  refine g_aload_n (i := 0) (by decide +kernel) rfl ?_
  refine g_iconst (z := 2) (v := 2) (by decide +kernel) rfl ?_
  refine c_newa (aty := .boolean) (t0 := 3) (ty := .boolean) (N := 2) hI (by decide +kernel) (by decide +kernel) rfl rfl Ac_boolean ⟨by decide, by decide⟩ (by decide) (by decide) (by decide) (by decide +kernel) (by decide) (by decide) (by intro C; simp) (fun h hI => ?_)
  refine c_putr hI (hI.k 136 (by decide) (by decide +kernel)) F_Mod_17 (by decide +kernel) (Or.inr ⟨rfl, rfl, rfl⟩) rfl (by decide +kernel) (by decide +kernel) (fun h hI => ?_)
  refine g_aload_n (i := 0) (by decide +kernel) rfl ?_
  refine g_sipush (z := 900) (v := 900) (by decide +kernel) rfl ?_
  refine c_newa (aty := .int) (t0 := 0) (ty := .int) (N := 900) hI (by decide +kernel) (by decide +kernel) rfl rfl Ac_int ⟨by decide, by decide⟩ (by decide) (by decide) (by decide) (by decide +kernel) (by decide) (by decide) (by intro C; simp) (fun h hI => ?_)
  refine c_putr hI (hI.k 136 (by decide) (by decide +kernel)) F_Mod_21 (by decide +kernel) (Or.inr ⟨rfl, rfl, rfl⟩) rfl (by decide +kernel) (by decide +kernel) (fun h hI => ?_)
  refine g_aload_n (i := 0) (by decide +kernel) rfl ?_
  refine g_sipush (z := 1137) (v := 1137) (by decide +kernel) rfl ?_
  refine c_newa (aty := .int) (t0 := 0) (ty := .int) (N := 1137) hI (by decide +kernel) (by decide +kernel) rfl rfl Ac_int ⟨by decide, by decide⟩ (by decide) (by decide) (by decide) (by decide +kernel) (by decide) (by decide) (by intro C; simp) (fun h hI => ?_)
  refine c_putr hI (hI.k 136 (by decide) (by decide +kernel)) F_Mod_24 (by decide +kernel) (Or.inr ⟨rfl, rfl, rfl⟩) rfl (by decide +kernel) (by decide +kernel) (fun h hI => ?_)
  refine g_aload_n (i := 0) (by decide +kernel) rfl ?_
  refine g_iconst (z := (-1)) (v := (-1)) (by decide +kernel) rfl ?_
  refine c_puti hI (hI.k 136 (by decide) (by decide +kernel)) F_Mod_27 (by decide +kernel) (Or.inl rfl) rfl rfl rfl (by decide +kernel) (fun h hI => ?_)
  refine g_aload_n (i := 0) (by decide +kernel) rfl ?_
  refine g_sipush (z := 900) (v := 900) (by decide +kernel) rfl ?_
  refine c_newa (aty := .int) (t0 := 0) (ty := .int) (N := 900) hI (by decide +kernel) (by decide +kernel) rfl rfl Ac_int ⟨by decide, by decide⟩ (by decide) (by decide) (by decide) (by decide +kernel) (by decide) (by decide) (by intro C; simp) (fun h hI => ?_)
  refine c_putr hI (hI.k 136 (by decide) (by decide +kernel)) F_Mod_30 (by decide +kernel) (Or.inr ⟨rfl, rfl, rfl⟩) rfl (by decide +kernel) (by decide +kernel) (fun h hI => ?_)
  refine g_aload_n (i := 0) (by decide +kernel) rfl ?_
  refine g_bipush (z := 6) (v := 6) (by decide +kernel) rfl ?_
  refine c_newa (aty := .int) (t0 := 0) (ty := .int) (N := 6) hI (by decide +kernel) (by decide +kernel) rfl rfl Ac_int ⟨by decide, by decide⟩ (by decide) (by decide) (by decide) (by decide +kernel) (by decide) (by decide) (by intro C; simp) (fun h hI => ?_)
  refine c_putr hI (hI.k 136 (by decide) (by decide +kernel)) F_Mod_33 (by decide +kernel) (Or.inr ⟨rfl, rfl, rfl⟩) rfl (by decide +kernel) (by decide +kernel) (fun h hI => ?_)
  refine g_aload_n (i := 0) (by decide +kernel) rfl ?_
  refine g_bipush (z := 19) (v := 19) (by decide +kernel) rfl ?_
  refine c_newa (aty := .int) (t0 := 0) (ty := .int) (N := 19) hI (by decide +kernel) (by decide +kernel) rfl rfl Ac_int ⟨by decide, by decide⟩ (by decide) (by decide) (by decide) (by decide +kernel) (by decide) (by decide) (by intro C; simp) (fun h hI => ?_)
  refine c_putr hI (hI.k 136 (by decide) (by decide +kernel)) F_Mod_36 (by decide +kernel) (Or.inr ⟨rfl, rfl, rfl⟩) rfl (by decide +kernel) (by decide +kernel) (fun h hI => ?_)
  refine g_aload_n (i := 0) (by decide +kernel) rfl ?_
  refine g_bipush (z := 12) (v := 12) (by decide +kernel) rfl ?_
  refine c_newa (aty := .int) (t0 := 0) (ty := .int) (N := 12) hI (by decide +kernel) (by decide +kernel) rfl rfl Ac_int ⟨by decide, by decide⟩ (by decide) (by decide) (by decide) (by decide +kernel) (by decide) (by decide) (by intro C; simp) (fun h hI => ?_)
  refine c_putr hI (hI.k 136 (by decide) (by decide +kernel)) F_Mod_39 (by decide +kernel) (Or.inr ⟨rfl, rfl, rfl⟩) rfl (by decide +kernel) (by decide +kernel) (fun h hI => ?_)
  refine g_aload_n (i := 0) (by decide +kernel) rfl ?_
  refine g_bipush (z := 12) (v := 12) (by decide +kernel) rfl ?_
  refine c_newa (aty := .int) (t0 := 0) (ty := .int) (N := 12) hI (by decide +kernel) (by decide +kernel) rfl rfl Ac_int ⟨by decide, by decide⟩ (by decide) (by decide) (by decide) (by decide +kernel) (by decide) (by decide) (by intro C; simp) (fun h hI => ?_)
  refine c_putr hI (hI.k 136 (by decide) (by decide +kernel)) F_Mod_42 (by decide +kernel) (Or.inr ⟨rfl, rfl, rfl⟩) rfl (by decide +kernel) (by decide +kernel) (fun h hI => ?_)
  refine g_aload_n (i := 0) (by decide +kernel) rfl ?_
  refine g_bipush (z := 12) (v := 12) (by decide +kernel) rfl ?_
  refine c_newa (aty := .int) (t0 := 0) (ty := .int) (N := 12) hI (by decide +kernel) (by decide +kernel) rfl rfl Ac_int ⟨by decide, by decide⟩ (by decide) (by decide) (by decide) (by decide +kernel) (by decide) (by decide) (by intro C; simp) (fun h hI => ?_)
  refine c_putr hI (hI.k 136 (by decide) (by decide +kernel)) F_Mod_45 (by decide +kernel) (Or.inr ⟨rfl, rfl, rfl⟩) rfl (by decide +kernel) (by decide +kernel) (fun h hI => ?_)
  refine g_aload_n (i := 0) (by decide +kernel) rfl ?_
  refine g_bipush (z := 61) (v := 61) (by decide +kernel) rfl ?_
  refine c_newa (aty := .int) (t0 := 0) (ty := .int) (N := 61) hI (by decide +kernel) (by decide +kernel) rfl rfl Ac_int ⟨by decide, by decide⟩ (by decide) (by decide) (by decide) (by decide +kernel) (by decide) (by decide) (by intro C; simp) (fun h hI => ?_)
  refine c_putr hI (hI.k 136 (by decide) (by decide +kernel)) F_Mod_48 (by decide +kernel) (Or.inr ⟨rfl, rfl, rfl⟩) rfl (by decide +kernel) (by decide +kernel) (fun h hI => ?_)
  refine g_aload_n (i := 0) (by decide +kernel) rfl ?_
  refine g_bipush (z := 60) (v := 60) (by decide +kernel) rfl ?_
  refine c_newa (aty := .int) (t0 := 0) (ty := .int) (N := 60) hI (by decide +kernel) (by decide +kernel) rfl rfl Ac_int ⟨by decide, by decide⟩ (by decide) (by decide) (by decide) (by decide +kernel) (by decide) (by decide) (by intro C; simp) (fun h hI => ?_)
  refine c_putr hI (hI.k 136 (by decide) (by decide +kernel)) F_Mod_51 (by decide +kernel) (Or.inr ⟨rfl, rfl, rfl⟩) rfl (by decide +kernel) (by decide +kernel) (fun h hI => ?_)
  refine g_aload_n (i := 0) (by decide +kernel) rfl ?_
  refine g_bipush (z := 9) (v := 9) (by decide +kernel) rfl ?_
  refine c_newa (aty := .long) (t0 := 1) (ty := .long) (N := 9) hI (by decide +kernel) (by decide +kernel) rfl rfl Ac_long ⟨by decide, by decide⟩ (by decide) (by decide) (by decide) (by decide +kernel) (by decide) (by decide) (by intro C; simp) (fun h hI => ?_)
  refine c_putr hI (hI.k 136 (by decide) (by decide +kernel)) F_Mod_54 (by decide +kernel) (Or.inr ⟨rfl, rfl, rfl⟩) rfl (by decide +kernel) (by decide +kernel) (fun h hI => ?_)
  refine g_aload_n (i := 0) (by decide +kernel) rfl ?_
  refine g_bipush (z := 9) (v := 9) (by decide +kernel) rfl ?_
  refine c_newa (aty := .long) (t0 := 1) (ty := .long) (N := 9) hI (by decide +kernel) (by decide +kernel) rfl rfl Ac_long ⟨by decide, by decide⟩ (by decide) (by decide) (by decide) (by decide +kernel) (by decide) (by decide) (by intro C; simp) (fun h hI => ?_)
  refine c_putr hI (hI.k 136 (by decide) (by decide +kernel)) F_Mod_58 (by decide +kernel) (Or.inr ⟨rfl, rfl, rfl⟩) rfl (by decide +kernel) (by decide +kernel) (fun h hI => ?_)
  refine g_aload_n (i := 0) (by decide +kernel) rfl ?_
  refine g_bipush (z := 6) (v := 6) (by decide +kernel) rfl ?_
  refine c_newa (aty := .int) (t0 := 0) (ty := .int) (N := 6) hI (by decide +kernel) (by decide +kernel) rfl rfl Ac_int ⟨by decide, by decide⟩ (by decide) (by decide) (by decide) (by decide +kernel) (by decide) (by decide) (by intro C; simp) (fun h hI => ?_)
  refine c_putr hI (hI.k 136 (by decide) (by decide +kernel)) F_Mod_61 (by decide +kernel) (Or.inr ⟨rfl, rfl, rfl⟩) rfl (by decide +kernel) (by decide +kernel) (fun h hI => ?_)
  refine g_aload_n (i := 0) (by decide +kernel) rfl ?_
  refine g_bipush (z := 6) (v := 6) (by decide +kernel) rfl ?_
  refine c_newa (aty := .int) (t0 := 0) (ty := .int) (N := 6) hI (by decide +kernel) (by decide +kernel) rfl rfl Ac_int ⟨by decide, by decide⟩ (by decide) (by decide) (by decide) (by decide +kernel) (by decide) (by decide) (by intro C; simp) (fun h hI => ?_)
  refine c_putr hI (hI.k 136 (by decide) (by decide +kernel)) F_Mod_64 (by decide +kernel) (Or.inr ⟨rfl, rfl, rfl⟩) rfl (by decide +kernel) (by decide +kernel) (fun h hI => ?_)
  refine g_aload_n (i := 0) (by decide +kernel) rfl ?_
  refine g_bipush (z := 60) (v := 60) (by decide +kernel) rfl ?_
  refine c_newa (aty := .int) (t0 := 0) (ty := .int) (N := 60) hI (by decide +kernel) (by decide +kernel) rfl rfl Ac_int ⟨by decide, by decide⟩ (by decide) (by decide) (by decide) (by decide +kernel) (by decide) (by decide) (by intro C; simp) (fun h hI => ?_)
  refine c_putr hI (hI.k 136 (by decide) (by decide +kernel)) F_Mod_67 (by decide +kernel) (Or.inr ⟨rfl, rfl, rfl⟩) rfl (by decide +kernel) (by decide +kernel) (fun h hI => ?_)
  refine g_aload_n (i := 0) (by decide +kernel) rfl ?_
  refine g_bipush (z := 60) (v := 60) (by decide +kernel) rfl ?_
  refine c_newa (aty := .int) (t0 := 0) (ty := .int) (N := 60) hI (by decide +kernel) (by decide +kernel) rfl rfl Ac_int ⟨by decide, by decide⟩ (by decide) (by decide) (by decide) (by decide +kernel) (by decide) (by decide) (by intro C; simp) (fun h hI => ?_)
  refine c_putr hI (hI.k 136 (by decide) (by decide +kernel)) F_Mod_70 (by decide +kernel) (Or.inr ⟨rfl, rfl, rfl⟩) rfl (by decide +kernel) (by decide +kernel) (fun h hI => ?_)
  refine g_aload_n (i := 0) (by decide +kernel) rfl ?_
  refine g_bipush (z := 60) (v := 60) (by decide +kernel) rfl ?_
  refine c_newa (aty := .int) (t0 := 0) (ty := .int) (N := 60) hI (by decide +kernel) (by decide +kernel) rfl rfl Ac_int ⟨by decide, by decide⟩ (by decide) (by decide) (by decide) (by decide +kernel) (by decide) (by decide) (by intro C; simp) (fun h hI => ?_)
  refine c_putr hI (hI.k 136 (by decide) (by decide +kernel)) F_Mod_73 (by decide +kernel) (Or.inr ⟨rfl, rfl, rfl⟩) rfl (by decide +kernel) (by decide +kernel) (fun h hI => ?_)
  refine g_aload_n (i := 0) (by decide +kernel) rfl ?_
  refine g_bipush (z := 9) (v := 9) (by decide +kernel) rfl ?_
  refine c_newa (aty := .long) (t0 := 1) (ty := .long) (N := 9) hI (by decide +kernel) (by decide +kernel) rfl rfl Ac_long ⟨by decide, by decide⟩ (by decide) (by decide) (by decide) (by decide +kernel) (by decide) (by decide) (by intro C; simp) (fun h hI => ?_)
  refine c_putr hI (hI.k 136 (by decide) (by decide +kernel)) F_Mod_76 (by decide +kernel) (Or.inr ⟨rfl, rfl, rfl⟩) rfl (by decide +kernel) (by decide +kernel) (fun h hI => ?_)
  refine g_aload_n (i := 0) (by decide +kernel) rfl ?_
  refine g_bipush (z := 9) (v := 9) (by decide +kernel) rfl ?_
  refine c_newa (aty := .long) (t0 := 1) (ty := .long) (N := 9) hI (by decide +kernel) (by decide +kernel) rfl rfl Ac_long ⟨by decide, by decide⟩ (by decide) (by decide) (by decide) (by decide +kernel) (by decide) (by decide) (by intro C; simp) (fun h hI => ?_)
  refine c_putr hI (hI.k 136 (by decide) (by decide +kernel)) F_Mod_79 (by decide +kernel) (Or.inr ⟨rfl, rfl, rfl⟩) rfl (by decide +kernel) (by decide +kernel) (fun h hI => ?_)
  refine g_aload_n (i := 0) (by decide +kernel) rfl ?_
  refine g_iconst (z := 4) (v := 4) (by decide +kernel) rfl ?_
  refine c_newa (aty := .int) (t0 := 0) (ty := .int) (N := 4) hI (by decide +kernel) (by decide +kernel) rfl rfl Ac_int ⟨by decide, by decide⟩ (by decide) (by decide) (by decide) (by decide +kernel) (by decide) (by decide) (by intro C; simp) (fun h hI => ?_)
  refine g_dup (by decide +kernel) rfl ?_
  refine g_iconst (z := 0) (v := 0) (by decide +kernel) rfl ?_
  refine g_iconst (z := (-1)) (v := (-1)) (by decide +kernel) rfl ?_
  refine c_iast (L := 4) hI (hI.k 158 (by decide) (by decide +kernel)) (by unfold vp_in; decide) (by decide +kernel) (by decide +kernel) (fun h hI => ?_)
  refine g_dup (by decide +kernel) rfl ?_
  refine g_iconst (z := 1) (v := 1) (by decide +kernel) rfl ?_
  refine g_iconst (z := (-1)) (v := (-1)) (by decide +kernel) rfl ?_
  refine c_iast (L := 4) hI (hI.k 158 (by decide) (by decide +kernel)) (by unfold vp_in; decide) (by decide +kernel) (by decide +kernel) (fun h hI => ?_)
  refine g_dup (by decide +kernel) rfl ?_
  refine g_iconst (z := 2) (v := 2) (by decide +kernel) rfl ?_
  refine g_iconst (z := (-1)) (v := (-1)) (by decide +kernel) rfl ?_
  refine c_iast (L := 4) hI (hI.k 158 (by decide) (by decide +kernel)) (by unfold vp_in; decide) (by decide +kernel) (by decide +kernel) (fun h hI => ?_)
  refine g_dup (by decide +kernel) rfl ?_
  refine g_iconst (z := 3) (v := 3) (by decide +kernel) rfl ?_
  refine g_iconst (z := (-1)) (v := (-1)) (by decide +kernel) rfl ?_
  refine c_iast (L := 4) hI (hI.k 158 (by decide) (by decide +kernel)) (by unfold vp_in; decide) (by decide +kernel) (by decide +kernel) (fun h hI => ?_)
  refine c_putr hI (hI.k 136 (by decide) (by decide +kernel)) F_Mod_82 (by decide +kernel) (Or.inr ⟨rfl, rfl, rfl⟩) rfl (by decide +kernel) (by decide +kernel) (fun h hI => ?_)
  refine g_aload_n (i := 0) (by decide +kernel) rfl ?_
  refine g_iconst (z := 4) (v := 4) (by decide +kernel) rfl ?_
  refine c_newa (aty := .int) (t0 := 0) (ty := .int) (N := 4) hI (by decide +kernel) (by decide +kernel) rfl rfl Ac_int ⟨by decide, by decide⟩ (by decide) (by decide) (by decide) (by decide +kernel) (by decide) (by decide) (by intro C; simp) (fun h hI => ?_)
  refine c_putr hI (hI.k 136 (by decide) (by decide +kernel)) F_Mod_85 (by decide +kernel) (Or.inr ⟨rfl, rfl, rfl⟩) rfl (by decide +kernel) (by decide +kernel) (fun h hI => ?_)
  refine g_aload_n (i := 0) (by decide +kernel) rfl ?_
  refine g_sipush (z := 160) (v := 160) (by decide +kernel) rfl ?_
  refine c_newa (aty := .long) (t0 := 1) (ty := .long) (N := 160) hI (by decide +kernel) (by decide +kernel) rfl rfl Ac_long ⟨by decide, by decide⟩ (by decide) (by decide) (by decide) (by decide +kernel) (by decide) (by decide) (by intro C; simp) (fun h hI => ?_)
  refine c_putr hI (hI.k 136 (by decide) (by decide +kernel)) F_Mod_88 (by decide +kernel) (Or.inr ⟨rfl, rfl, rfl⟩) rfl (by decide +kernel) (by decide +kernel) (fun h hI => ?_)
  refine g_aload_n (i := 0) (by decide +kernel) rfl ?_
  refine g_getr (hI.k 136 (by decide) (by decide +kernel)) F_Mod_13.1 F_Mod_13.2 (by decide +kernel) rfl (hI.r 145 (by decide) (q := (136, 1, 137)) (by decide +kernel)) ?_
  have hs := hI.sh (by decide +kernel)
  obtain ⟨r, hp⟩ := hp0 h hI
  refine g_callS (as := [.ref 137]) (st := []) (t_Mod_plain hs k_137 hp) Y_Mod_plain St_Mod_plain L_Mod_91 (by decide +kernel) rfl rfl (Nat.le_of_ble_eq_true rfl) (by decide) (by decide) (by decide) (fun v h1 hq => ?_)
  obtain ⟨rfl, rfl, hs1⟩ := hq
  exact g_vret (st := []) (by decide +kernel) rfl (by decide) (by decide) ⟨rfl, _, hI, hp, hs1⟩
