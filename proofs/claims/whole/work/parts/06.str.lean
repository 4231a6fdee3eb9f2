/-! ===== the texts' own methods ===== -/
theorem am_sbc : ∀ o, o < 4 → ∀ j, j < am_sl o → ((am_sb o j &&& 255).toUInt32 % 65536).toInt32 = am_sb o j ∧ narrow .char (.int (am_sb o j)) = .int (am_sb o j) := by decide +kernel
theorem am_slsh : ∀ o, o < 4 → Int32.ofNat (am_sl o) >>> ((0 : Int32) &&& 31) = Int32.ofNat (am_sl o) := by decide +kernel
def f_String_isLatin1 (_ : Nat) (_ : am_H) : Option Bool := some true
def f_String_length (o : Nat) (_ : am_H) : Option Int32 := some (Int32.ofNat (am_sl o))
def f_String_charAt (o : Nat) (i : Int32) (_ : am_H) : Option Int32 := am_rd (am_sb o) (am_sl o) i
theorem t_String_coder {o : Nat} {h : am_H} (ho : o < 4) : am_Ct 0 M_String_coder [.retAddr o] h 0 0 (am_pI h 0) := by
  refine am_Ct.of (by decide) rfl (Nat.le_of_ble_eq_true rfl) (ls := [(0, .retAddr o)]) rfl ?_
  refine g_getsC Fs_String_38 (by decide +kernel) ?_
  refine g_if_eq (off := 10) (tgt := 13) (by decide +kernel) (by decide) (fun c => absurd c (by decide)) (fun _ => ?_)
  refine g_aload_ns (i := 0) (by decide +kernel) rfl ?_
  refine g_sgetC ho Fs_String_15 (by decide +kernel) ?_
  refine g_goto (off := 4) (tgt := 14) (by decide +kernel) (by decide) ?_
  exact g_zret (st := []) (ty := .byte) (by decide +kernel) rfl rfl (Nat.le_refl _) (Nat.le_refl _) ⟨rfl, rfl⟩
theorem t_String_isLatin1 {o : Nat} {h : am_H} (hs : am_Sh h) (ho : o < 4) {r : Bool} (hf : f_String_isLatin1 o h = some r) : am_Ct 0 M_String_isLatin1 [.retAddr o] h 0 0 (am_pB h r) := by
  cases hf
  refine am_Ct.of (by decide) rfl (Nat.le_of_ble_eq_true rfl) (ls := [(0, .retAddr o)]) rfl ?_
  refine g_getsC Fs_String_38 (by decide +kernel) ?_
  refine g_if_eq (off := 14) (tgt := 17) (by decide +kernel) (by decide) (fun c => absurd c (by decide)) (fun _ => ?_)
  refine g_aload_ns (i := 0) (by decide +kernel) rfl ?_
  refine g_sgetC ho Fs_String_15 (by decide +kernel) ?_
  refine g_if_ne (off := 7) (tgt := 17) (by decide +kernel) (by decide) (fun c => absurd rfl c) (fun _ => ?_)
  refine g_iconst (z := 1) (v := 1) (by decide +kernel) rfl ?_
  refine g_goto (off := 4) (tgt := 18) (by decide +kernel) (by decide) ?_
  exact g_zret (st := []) (ty := .boolean) (by decide +kernel) rfl rfl (Nat.le_refl _) (Nat.le_refl _) ⟨rfl, rfl⟩
theorem t_Prec_checkIndex {i n : Int32} {v : Value} {h : am_H} (hv : v = .null ∨ v = .retAddr 200) (h0 : ¬ i < 0) (h1 : i < n) : am_Ct 0 M_Preconditions_checkIndex [.int i, .int n, v] h 0 0 (am_pI h i) := by
  rcases hv with rfl | rfl
  · refine am_Ct.of (by decide) rfl (Nat.le_of_ble_eq_true rfl) (ls := [(0, .int i), (1, .int n), (2, .null)]) rfl ?_
    refine g_iload_n (i := 0) (by decide +kernel) rfl ?_
    refine g_if_lt (off := 8) (tgt := 9) (by decide +kernel) (by decide) (fun c => absurd c h0) (fun _ => ?_)
    refine g_iload_n (i := 0) (by decide +kernel) rfl ?_
    refine g_iload_n (i := 1) (by decide +kernel) rfl ?_
    refine g_icmp_lt (off := 10) (tgt := 16) (by decide +kernel) (by decide) (fun _ => ?_) (fun c => absurd h1 c)
    refine g_iload_n (i := 0) (by decide +kernel) rfl ?_
    exact g_iret (st := []) (by decide +kernel) rfl (Nat.le_refl _) (Nat.le_refl _) ⟨rfl, rfl⟩
  · refine am_Ct.of (by decide) rfl (Nat.le_of_ble_eq_true rfl) (ls := [(0, .int i), (1, .int n), (2, .retAddr 200)]) rfl ?_
    refine g_iload_n (i := 0) (by decide +kernel) rfl ?_
    refine g_if_lt (off := 8) (tgt := 9) (by decide +kernel) (by decide) (fun c => absurd c h0) (fun _ => ?_)
    refine g_iload_n (i := 0) (by decide +kernel) rfl ?_
    refine g_iload_n (i := 1) (by decide +kernel) rfl ?_
    refine g_icmp_lt (off := 10) (tgt := 16) (by decide +kernel) (by decide) (fun _ => ?_) (fun c => absurd h1 c)
    refine g_iload_n (i := 0) (by decide +kernel) rfl ?_
    exact g_iret (st := []) (by decide +kernel) rfl (Nat.le_refl _) (Nat.le_refl _) ⟨rfl, rfl⟩
theorem t_String_checkIndex {i n : Int32} {h : am_H} (h0 : ¬ i < 0) (h1 : i < n) : am_Ct 1 M_String_checkIndex [.int i, .int n] h 0 0 (am_q none h) := by
  refine am_Ct.of (by decide) rfl (Nat.le_of_ble_eq_true rfl) (ls := [(0, .int i), (1, .int n)]) rfl ?_
  refine g_iload_n (i := 0) (by decide +kernel) rfl ?_
  refine g_iload_n (i := 1) (by decide +kernel) rfl ?_
  refine g_getsF Fs_String_1053 (by decide +kernel) (fun v hv => ?_)
  refine g_callS (as := [.int i, .int n, v]) (st := []) (t_Prec_checkIndex hv h0 h1) Y_Preconditions_checkIndex St_Preconditions_checkIndex L_String_1059 (by decide +kernel) rfl rfl (Nat.le_of_ble_eq_true rfl) (by decide) (Nat.le_refl _) (Nat.le_refl _) (fun v h' hq => ?_)
  obtain ⟨rfl, rfl⟩ := hq
  refine g_pop (by decide +kernel) rfl ?_
  exact g_vret (st := []) (by decide +kernel) rfl (Nat.le_refl _) (Nat.le_refl _) ⟨rfl, rfl⟩
theorem t_Latin1_charAt {o : Nat} {i : Int32} {h : am_H} (ho : o < 4) (hin : vp_in i (am_sl o)) : am_Ct 2 M_StringLatin1_charAt [.retAddr (10 + o), .int i] h 0 0 (am_pI h (am_sb o i.toNatClampNeg)) := by
  have h0 : ¬ i < 0 := fun c => hin (Or.inl c)
  have hlt : i.toNatClampNeg < am_sl o := Nat.not_le.mp fun q => hin (Or.inr q)
  have h1 : i < Int32.ofNat (am_sl o) := by
    obtain ⟨j, hj, rfl⟩ := vp_in_of hin (am_sl_lt o)
    exact nI_lt hj (am_sl_lt o)
  refine am_Ct.of (by decide) rfl (Nat.le_of_ble_eq_true rfl) (ls := [(0, .retAddr (10 + o)), (1, .int i)]) rfl ?_
  refine g_iload_n (i := 1) (by decide +kernel) rfl ?_
  refine g_aload_ns (i := 0) (by decide +kernel) rfl ?_
  refine g_solen ho (by decide +kernel) ?_
  refine g_callS (as := [.int i, .int (Int32.ofNat (am_sl o))]) (st := []) (t_String_checkIndex h0 h1) Y_String_checkIndex St_String_checkIndex L_StringLatin1_9 (by decide +kernel) rfl rfl (Nat.le_of_ble_eq_true rfl) (by decide) (Nat.le_refl _) (Nat.le_refl _) (fun v h' hq => ?_)
  obtain ⟨rfl, rfl⟩ := hq
  refine g_aload_ns (i := 0) (by decide +kernel) rfl ?_
  refine g_iload_n (i := 1) (by decide +kernel) rfl ?_
  refine g_sbald ho hin (by decide +kernel) ?_
  refine g_sipush (z := 255) (v := 255) (by decide +kernel) rfl ?_
  refine g_iand (by decide +kernel) ?_
  refine g_i2c (by decide +kernel) ?_
  rw [(am_sbc o ho _ hlt).1]
  exact g_zret (st := []) (ty := .char) (by decide +kernel) rfl (am_sbc o ho _ hlt).2 (Nat.le_refl _) (Nat.le_refl _) ⟨rfl, rfl⟩
theorem t_String_charAt {o : Nat} {i : Int32} {h : am_H} (hs : am_Sh h) (ho : o < 4) {r : Int32} (hf : f_String_charAt o i h = some r) : am_Ct 3 M_String_charAt [.retAddr o, .int i] h 0 0 (am_pI h r) := by
  unfold f_String_charAt am_rd at hf
  split at hf
  · cases hf
  · rename_i hin
    cases hf
    have hlt : i.toNatClampNeg < am_sl o := Nat.not_le.mp fun q => hin (Or.inr q)
    refine am_Ct.of (by decide) rfl (Nat.le_of_ble_eq_true rfl) (ls := [(0, .retAddr o), (1, .int i)]) rfl ?_
    refine g_aload_ns (i := 0) (by decide +kernel) rfl ?_
    refine g_callVs (as := []) (st := []) (t_String_isLatin1 hs ho rfl) Y_String_isLatin1 Vi_String_isLatin1 Vs_String_isLatin1 L_String_492 ho rfl (by decide +kernel) rfl rfl (Nat.le_of_ble_eq_true rfl) (by decide) (Nat.le_refl _) (Nat.le_refl _) (fun v h' hq => ?_)
    obtain ⟨rfl, rfl⟩ := hq
    refine g_if_eq (off := 12) (tgt := 16) (by decide +kernel) (by decide) (fun c => absurd c (by decide)) (fun _ => ?_)
    refine g_aload_ns (i := 0) (by decide +kernel) rfl ?_
    refine g_sgetV ho Fs_String_9 (by decide +kernel) ?_
    refine g_iload_n (i := 1) (by decide +kernel) rfl ?_
    refine g_callS (as := [.retAddr (10 + o), .int i]) (st := []) (t_Latin1_charAt ho hin) Y_StringLatin1_charAt St_StringLatin1_charAt L_String_495 (by decide +kernel) rfl rfl (Nat.le_of_ble_eq_true rfl) (by decide) (Nat.le_refl _) (Nat.le_refl _) (fun v h' hq => ?_)
    obtain ⟨rfl, rfl⟩ := hq
    exact g_zret (st := []) (ty := .char) (by decide +kernel) rfl (am_sbc o ho _ hlt).2 (Nat.le_refl _) (Nat.le_refl _) ⟨rfl, rfl⟩
theorem t_String_length {o : Nat} {h : am_H} (hs : am_Sh h) (ho : o < 4) {r : Int32} (hf : f_String_length o h = some r) : am_Ct 1 M_String_length [.retAddr o] h 0 0 (am_pI h r) := by
  cases hf
  refine am_Ct.of (by decide) rfl (Nat.le_of_ble_eq_true rfl) (ls := [(0, .retAddr o)]) rfl ?_
  refine g_aload_ns (i := 0) (by decide +kernel) rfl ?_
  refine g_sgetV ho Fs_String_9 (by decide +kernel) ?_
  refine g_solen ho (by decide +kernel) ?_
  refine g_aload_ns (i := 0) (by decide +kernel) rfl ?_
  refine g_callVs (as := []) (st := [.int (Int32.ofNat (am_sl o))]) (t_String_coder ho) Y_String_coder Vi_String_coder Vs_String_coder L_String_335 ho rfl (by decide +kernel) rfl rfl (Nat.le_of_ble_eq_true rfl) (by decide) (Nat.le_refl _) (Nat.le_refl _) (fun v h' hq => ?_)
  obtain ⟨rfl, rfl⟩ := hq
  refine g_ishr (by decide +kernel) ?_
  rw [am_slsh o ho]
  exact g_iret (st := []) (by decide +kernel) rfl (Nat.le_refl _) (Nat.le_refl _) ⟨rfl, rfl⟩
theorem sS_0 : ("MovedSpan$Tokens", 47, ";:+-*()[]=<>", 0) ∈ am_strs := List.mem_of_getElem? (i := 0) rfl
theorem sS_1 : ("MovedSpan$Tokens", 55, " river week span at rest person west east load to by walks serves foggy hour or and not gap who fog side ", 1) ∈ am_strs := List.mem_of_getElem? (i := 1) rfl
theorem sS_2 : ("MovedSpanModel", 101, " river week span at rest person west east load to by walks serves foggy hour gap who fog side and or not ", 2) ∈ am_strs := List.mem_of_getElem? (i := 2) rfl
theorem sS_3 : ("MovedSpanModel", 139, ";:+-*()[]=<>", 3) ∈ am_strs := List.mem_of_getElem? (i := 3) rfl
