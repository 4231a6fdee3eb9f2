def f_StringLatin1_canEncode (p0 : Int32) (h : am_H) : Option (Bool) :=
  (if p0 < 0 then
    some false
  else
    (if (255 : Int32) < p0 then
      some false
    else
      some true))
set_option maxRecDepth 100000 in
set_option maxHeartbeats 4000000 in
theorem t_StringLatin1_canEncode {p0 : Int32} {h : am_H} (hs : am_Sh h)  {r : Bool} (hf : f_StringLatin1_canEncode p0 h = some r) : am_Ct 0 M_StringLatin1_canEncode [.int p0] h 0 0 (am_pB h r) := by
  unfold f_StringLatin1_canEncode at hf
  refine am_Ct.of (by decide) rfl (Nat.le_of_ble_eq_true rfl) (ls := [(0, .int p0)]) rfl ?_
  refine g_iload_n (i := 0) (by decide +kernel) rfl ?_
  refine x_if_lt (off := 14) (tgt := 15) hf (by decide +kernel) (by decide) (fun c1 hf => ?_) (fun c1 hf => ?_)
  · refine g_iconst (z := 0) (v := 0) (by decide +kernel) rfl ?_
    exact x_zretp rfl hf (by decide +kernel) rfl (Nat.le_refl _) (Nat.le_refl _)
  · refine g_iload_n (i := 0) (by decide +kernel) rfl ?_
    refine g_sipush (z := 255) (v := 255) (by decide +kernel) rfl ?_
    refine x_icmp_gt (off := 7) (tgt := 15) hf (by decide +kernel) (by decide) (fun c2 hf => ?_) (fun c2 hf => ?_)
    · refine g_iconst (z := 0) (v := 0) (by decide +kernel) rfl ?_
      exact x_zretp rfl hf (by decide +kernel) rfl (Nat.le_refl _) (Nat.le_refl _)
    · refine g_iconst (z := 1) (v := 1) (by decide +kernel) rfl ?_
      refine g_goto (off := 4) (tgt := 16) (by decide +kernel) (by decide) ?_
      exact x_zretp rfl hf (by decide +kernel) rfl (Nat.le_refl _) (Nat.le_refl _)
def f_StringLatin1_indexOfChar_L7 (p0 : Nat) (p1 : Int32) (p2 : Int32) (p3 : Int32) : Nat → Int32 → Int32 → am_H → Option (Int32)
  | 0, _, _, _ => none
  | n + 1, v4, v5, h =>
    (if p3 ≤ v5 then
      some (-1 : Int32)
    else
      (am_rd (am_sb p0) (am_sl p0) v5).bind fun x2 =>
      (if x2 = v4 then
        some v5
      else
        f_StringLatin1_indexOfChar_L7 p0 p1 p2 p3 n v4 (v5 + (1 : Int32)) h))
set_option maxRecDepth 100000 in
set_option maxHeartbeats 4000000 in
theorem t_StringLatin1_indexOfChar_L7 {p0 : Nat} {p1 : Int32} {p2 : Int32} {p3 : Int32} (hp0 : p0 < 4) : ∀ (n : Nat) (v4 : Int32) (v5 : Int32) (h : am_H) (r : Int32), am_Sh h → f_StringLatin1_indexOfChar_L7 p0 p1 p2 p3 n v4 v5 h = some r → am_G 0 M_StringLatin1_indexOfChar 0 0 (am_pI h r) 7 [(0, .retAddr (10 + p0)), (1, .int p1), (2, .int p2), (3, .int p3), (4, .int v4), (5, .int v5)] [] h 0 0 := by
  intro n
  induction n with
  | zero =>
    intro v4 v5 h r hs hf
    rw [f_StringLatin1_indexOfChar_L7] at hf
    cases hf
  | succ n ih =>
    intro v4 v5 h r hs hf
    rw [f_StringLatin1_indexOfChar_L7] at hf
    refine g_iload (i := 5) (by decide +kernel) rfl ?_
    refine g_iload_n (i := 3) (by decide +kernel) rfl ?_
    refine x_icmp_ge (off := 21) (tgt := 31) hf (by decide +kernel) (by decide) (fun c1 hf => ?_) (fun c1 hf => ?_)
    · refine g_iconst (z := (-1)) (v := (-1)) (by decide +kernel) rfl ?_
      exact x_iretp hf (by decide +kernel) rfl (Nat.le_refl _) (Nat.le_refl _)
    · refine g_aload_ns (i := 0) (by decide +kernel) rfl ?_
      refine g_iload (i := 5) (by decide +kernel) rfl ?_
      refine x_sbald hf hp0 (by decide +kernel) (fun x2 hf => ?_)
      refine g_iload (i := 4) (by decide +kernel) rfl ?_
      refine x_icmp_ne (off := 6) (tgt := 25) hf (by decide +kernel) (by decide) (fun c3 hf => ?_) (fun c3 hf => ?_)
      · refine g_iinc (i := 5) (z := 1) (v := (v5 + (1 : Int32))) (by decide +kernel) rfl rfl rfl (by decide) (ls1 := [(0, .retAddr (10 + p0)), (1, .int p1), (2, .int p2), (3, .int p3), (4, .int v4), (5, .int (v5 + (1 : Int32)))]) rfl ?_
        refine g_goto (off := (-21)) (tgt := 7) (by decide +kernel) (by decide) ?_
        exact am_G.forget (am_subp [0, 1, 2, 3, 4, 5] rfl) (ih _ _ _ _ hs hf)
      · refine g_iload (i := 5) (by decide +kernel) rfl ?_
        exact x_iretp hf (by decide +kernel) rfl (Nat.le_refl _) (Nat.le_refl _)
def f_StringLatin1_indexOfChar (p0 : Nat) (p1 : Int32) (p2 : Int32) (p3 : Int32) (h : am_H) : Option (Int32) :=
  f_StringLatin1_indexOfChar_L7 p0 p1 p2 p3 am_fu ((p1).toInt8.toInt32) p2 h
set_option maxRecDepth 100000 in
set_option maxHeartbeats 4000000 in
theorem t_StringLatin1_indexOfChar {p0 : Nat} {p1 : Int32} {p2 : Int32} {p3 : Int32} {h : am_H} (hs : am_Sh h) (hp0 : p0 < 4) {r : Int32} (hf : f_StringLatin1_indexOfChar p0 p1 p2 p3 h = some r) : am_Ct 0 M_StringLatin1_indexOfChar [.retAddr (10 + p0), .int p1, .int p2, .int p3] h 0 0 (am_pI h r) := by
  unfold f_StringLatin1_indexOfChar at hf
  refine am_Ct.of (by decide) rfl (Nat.le_of_ble_eq_true rfl) (ls := [(0, .retAddr (10 + p0)), (1, .int p1), (2, .int p2), (3, .int p3)]) rfl ?_
  refine g_iload_n (i := 1) (by decide +kernel) rfl ?_
  refine g_i2b (by decide +kernel) ?_
  refine g_istore (i := 4) (by decide +kernel) rfl (by decide) (ls1 := [(0, .retAddr (10 + p0)), (1, .int p1), (2, .int p2), (3, .int p3), (4, .int ((p1).toInt8.toInt32))]) rfl ?_
  refine g_iload_n (i := 2) (by decide +kernel) rfl ?_
  refine g_istore (i := 5) (by decide +kernel) rfl (by decide) (ls1 := [(0, .retAddr (10 + p0)), (1, .int p1), (2, .int p2), (3, .int p3), (4, .int ((p1).toInt8.toInt32)), (5, .int p2)]) rfl ?_
  exact am_G.forget (am_subp [0, 1, 2, 3, 4, 5] rfl) (t_StringLatin1_indexOfChar_L7 hp0 am_fu _ _ _ _ hs hf)
def f_StringLatin1_indexOf (p0 : Nat) (p1 : Int32) (p2 : Int32) (p3 : Int32) (h : am_H) : Option (Int32) :=
  (f_StringLatin1_canEncode p1 h).bind fun q1 =>
  (if q1 = true then
    am_let (if p2 < (0 : Int32) then (0 : Int32) else p2) fun y3 =>
    am_let (if (Int32.ofNat (am_sl p0)) < p3 then (Int32.ofNat (am_sl p0)) else p3) fun y4 =>
    (if y3 < y4 then
      (f_StringLatin1_indexOfChar p0 p1 y3 y4 h).bind fun q6 =>
      some q6
    else
      some (-1 : Int32))
  else
    some (-1 : Int32))
set_option maxRecDepth 100000 in
set_option maxHeartbeats 4000000 in
theorem t_StringLatin1_indexOf {p0 : Nat} {p1 : Int32} {p2 : Int32} {p3 : Int32} {h : am_H} (hs : am_Sh h) (hp0 : p0 < 4) {r : Int32} (hf : f_StringLatin1_indexOf p0 p1 p2 p3 h = some r) : am_Ct 1 M_StringLatin1_indexOf [.retAddr (10 + p0), .int p1, .int p2, .int p3] h 0 0 (am_pI h r) := by
  unfold f_StringLatin1_indexOf at hf
  refine am_Ct.of (by decide) rfl (Nat.le_of_ble_eq_true rfl) (ls := [(0, .retAddr (10 + p0)), (1, .int p1), (2, .int p2), (3, .int p3)]) rfl ?_
  refine g_iload_n (i := 1) (by decide +kernel) rfl ?_
  refine x_callSBp (as := [.int p1]) St_StringLatin1_canEncode hf (fun q hq => t_StringLatin1_canEncode hs  hq) Y_StringLatin1_canEncode L_StringLatin1_88 (by decide +kernel) rfl rfl (Nat.le_of_ble_eq_true rfl) (by decide) (Nat.le_refl _) (Nat.le_refl _) (fun q1 hf => ?_)
  refine x_ifb_ne (off := 5) (tgt := 9) hf (by decide +kernel) (by decide) (fun c2 hf => ?_) (fun c2 hf => ?_)
  · refine g_iload_n (i := 2) (by decide +kernel) rfl ?_
    refine g_iconst (z := 0) (v := 0) (by decide +kernel) rfl ?_
    refine g_mmax L_StringLatin1_92 (by decide +kernel) (by decide) (Nat.le_refl _) (Nat.le_refl _) (Nat.le_of_ble_eq_true rfl) ?_
    refine x_nmI hf (fun y3 hf => ?_)
    refine g_istore_n (i := 2) (by decide +kernel) rfl (by decide) (ls1 := [(0, .retAddr (10 + p0)), (1, .int p1), (2, .int y3), (3, .int p3)]) rfl ?_
    refine g_iload_n (i := 3) (by decide +kernel) rfl ?_
    refine g_aload_ns (i := 0) (by decide +kernel) rfl ?_
    refine g_solen hp0 (by decide +kernel) ?_
    refine g_mmin L_StringLatin1_38 (by decide +kernel) (by decide) (Nat.le_refl _) (Nat.le_refl _) (Nat.le_of_ble_eq_true rfl) ?_
    refine x_nmI hf (fun y4 hf => ?_)
    refine g_istore_n (i := 3) (by decide +kernel) rfl (by decide) (ls1 := [(0, .retAddr (10 + p0)), (1, .int p1), (2, .int y3), (3, .int y4)]) rfl ?_
    refine g_iload_n (i := 2) (by decide +kernel) rfl ?_
    refine g_iload_n (i := 3) (by decide +kernel) rfl ?_
    refine x_icmp_lt (off := 5) (tgt := 29) hf (by decide +kernel) (by decide) (fun c5 hf => ?_) (fun c5 hf => ?_)
    · refine g_aload_ns (i := 0) (by decide +kernel) rfl ?_
      refine g_iload_n (i := 1) (by decide +kernel) rfl ?_
      refine g_iload_n (i := 2) (by decide +kernel) rfl ?_
      refine g_iload_n (i := 3) (by decide +kernel) rfl ?_
      refine x_callSIp (as := [.retAddr (10 + p0), .int p1, .int y3, .int y4]) St_StringLatin1_indexOfChar hf (fun q hq => t_StringLatin1_indexOfChar hs hp0 hq) Y_StringLatin1_indexOfChar L_StringLatin1_95 (by decide +kernel) rfl rfl (Nat.le_of_ble_eq_true rfl) (by decide) (Nat.le_refl _) (Nat.le_refl _) (fun q6 hf => ?_)
      exact x_iretp hf (by decide +kernel) rfl (Nat.le_refl _) (Nat.le_refl _)
    · refine g_iconst (z := (-1)) (v := (-1)) (by decide +kernel) rfl ?_
      exact x_iretp hf (by decide +kernel) rfl (Nat.le_refl _) (Nat.le_refl _)
  · refine g_iconst (z := (-1)) (v := (-1)) (by decide +kernel) rfl ?_
    exact x_iretp hf (by decide +kernel) rfl (Nat.le_refl _) (Nat.le_refl _)
def f_String_indexOf_III (o : Nat) (p1 : Int32) (p2 : Int32) (h : am_H) : Option (Int32) :=
  (f_String_isLatin1 o h).bind fun q1 =>
  (if q1 = true then
    (f_String_length o h).bind fun q4 =>
    (f_StringLatin1_indexOf o p1 p2 q4 h).bind fun q5 =>
    some q5
  else
    (f_String_length o h).bind fun q3 =>
    none)
set_option maxRecDepth 100000 in
set_option maxHeartbeats 4000000 in
theorem t_String_indexOf_III {o : Nat} {p1 : Int32} {p2 : Int32} {h : am_H} (hs : am_Sh h) (ho : o < 4) {r : Int32} (hf : f_String_indexOf_III o p1 p2 h = some r) : am_Ct 2 M_String_indexOf_III [.retAddr o, .int p1, .int p2] h 0 0 (am_pI h r) := by
  unfold f_String_indexOf_III at hf
  refine am_Ct.of (by decide) rfl (Nat.le_of_ble_eq_true rfl) (ls := [(0, .retAddr o), (1, .int p1), (2, .int p2)]) rfl ?_
  refine g_aload_ns (i := 0) (by decide +kernel) rfl ?_
  refine x_callVsBp (as := []) Vi_String_isLatin1 Vs_String_isLatin1 ho rfl hf (fun q hq => t_String_isLatin1 hs ho hq) Y_String_isLatin1 L_String_492 (by decide +kernel) rfl rfl (Nat.le_of_ble_eq_true rfl) (by decide) (Nat.le_refl _) (Nat.le_refl _) (fun q1 hf => ?_)
  refine x_ifb_eq (off := 19) (tgt := 23) hf (by decide +kernel) (by decide) (fun c2 hf => ?_) (fun c2 hf => ?_)
  · refine g_aload_ns (i := 0) (by decide +kernel) rfl ?_
    refine g_sgetV ho Fs_String_9 (by decide +kernel) ?_
    refine g_iload_n (i := 1) (by decide +kernel) rfl ?_
    refine g_iload_n (i := 2) (by decide +kernel) rfl ?_
    refine g_aload_ns (i := 0) (by decide +kernel) rfl ?_
    refine x_callVsIp (as := []) Vi_String_length Vs_String_length ho rfl hf (fun q hq => t_String_length hs ho hq) Y_String_length L_String_505 (by decide +kernel) rfl rfl (Nat.le_of_ble_eq_true rfl) (by decide) (Nat.le_refl _) (Nat.le_refl _) (fun q3 hf => ?_)
    cases hf
  · refine g_aload_ns (i := 0) (by decide +kernel) rfl ?_
    refine g_sgetV ho Fs_String_9 (by decide +kernel) ?_
    refine g_iload_n (i := 1) (by decide +kernel) rfl ?_
    refine g_iload_n (i := 2) (by decide +kernel) rfl ?_
    refine g_aload_ns (i := 0) (by decide +kernel) rfl ?_
    refine x_callVsIp (as := []) Vi_String_length Vs_String_length ho rfl hf (fun q hq => t_String_length hs ho hq) Y_String_length L_String_505 (by decide +kernel) rfl rfl (Nat.le_of_ble_eq_true rfl) (by decide) (Nat.le_refl _) (Nat.le_refl _) (fun q4 hf => ?_)
    refine x_callSIp (as := [.retAddr (10 + o), .int p1, .int p2, .int q4]) St_StringLatin1_indexOf hf (fun q hq => t_StringLatin1_indexOf hs ho hq) Y_StringLatin1_indexOf L_String_637 (by decide +kernel) rfl rfl (Nat.le_of_ble_eq_true rfl) (by decide) (Nat.le_refl _) (Nat.le_refl _) (fun q5 hf => ?_)
    refine g_goto (off := 16) (tgt := 36) (by decide +kernel) (by decide) ?_
    exact x_iretp hf (by decide +kernel) rfl (Nat.le_refl _) (Nat.le_refl _)
def f_String_indexOf (o : Nat) (p1 : Int32) (h : am_H) : Option (Int32) :=
  (f_String_indexOf_III o p1 (0 : Int32) h).bind fun q1 =>
  some q1
set_option maxRecDepth 100000 in
set_option maxHeartbeats 4000000 in
theorem t_String_indexOf {o : Nat} {p1 : Int32} {h : am_H} (hs : am_Sh h) (ho : o < 4) {r : Int32} (hf : f_String_indexOf o p1 h = some r) : am_Ct 3 M_String_indexOf [.retAddr o, .int p1] h 0 0 (am_pI h r) := by
  unfold f_String_indexOf at hf
  refine am_Ct.of (by decide) rfl (Nat.le_of_ble_eq_true rfl) (ls := [(0, .retAddr o), (1, .int p1)]) rfl ?_
  refine g_aload_ns (i := 0) (by decide +kernel) rfl ?_
  refine g_iload_n (i := 1) (by decide +kernel) rfl ?_
  refine g_iconst (z := 0) (v := 0) (by decide +kernel) rfl ?_
  refine x_callVsIp (as := [.int p1, .int (0 : Int32)]) Vi_String_indexOf_III Vs_String_indexOf_III ho rfl hf (fun q hq => t_String_indexOf_III hs ho hq) Y_String_indexOf_III L_String_633 (by decide +kernel) rfl rfl (Nat.le_of_ble_eq_true rfl) (by decide) (Nat.le_refl _) (Nat.le_refl _) (fun q1 hf => ?_)
  exact x_iretp hf (by decide +kernel) rfl (Nat.le_refl _) (Nat.le_refl _)
def f_Arrays_fill_L5 (p0 : Nat) (p0L : Nat) (p1 : Int32) : Nat → Int32 → Int32 → am_H → Option (Int32 × am_H)
  | 0, _, _, _ => none
  | n + 1, v2, v3, h =>
    (if v3 ≤ v2 then
      some (v2, h)
    else
      (am_wr h p0 p0L v2 p1).bind fun h2 =>
      f_Arrays_fill_L5 p0 p0L p1 n (v2 + (1 : Int32)) v3 h2)
set_option maxRecDepth 100000 in
set_option maxHeartbeats 4000000 in
theorem t_Arrays_fill_L5 {p0 : Nat} {p0L : Nat} {p1 : Int32} (hp0 : am_K0[p0]? = some (.inr (.int, p0L))) {Q : Option Value → am_H → Prop} : ∀ (n : Nat) (v2 : Int32) (v3 : Int32) (h : am_H) (q : Int32 × am_H), am_Sh h → f_Arrays_fill_L5 p0 p0L p1 n v2 v3 h = some q → (am_Sh q.2 → am_G 0 M_Arrays_fill 0 0 Q 20 [(0, .ref p0), (1, .int p1), (2, .int q.1), (3, .int v3)] [] q.2 0 0) → am_G 0 M_Arrays_fill 0 0 Q 5 [(0, .ref p0), (1, .int p1), (2, .int v2), (3, .int v3)] [] h 0 0 := by
  intro n
  induction n with
  | zero =>
    intro v2 v3 h q hs hf kont
    rw [f_Arrays_fill_L5] at hf
    cases hf
  | succ n ih =>
    intro v2 v3 h q hs hf kont
    rw [f_Arrays_fill_L5] at hf
    refine g_iload_n (i := 2) (by decide +kernel) rfl ?_
    refine g_iload_n (i := 3) (by decide +kernel) rfl ?_
    refine x_icmp_ge (off := 13) (tgt := 20) hf (by decide +kernel) (by decide) (fun c1 hf => ?_) (fun c1 hf => ?_)
    · cases hf
      exact am_G.forget (am_subp [0, 1, 2, 3] rfl) (kont hs)
    · refine g_aload_n (i := 0) (by decide +kernel) rfl ?_
      refine g_iload_n (i := 2) (by decide +kernel) rfl ?_
      refine g_iload_n (i := 1) (by decide +kernel) rfl ?_
      refine x_iast hf hs (hs.k hp0) (by decide +kernel) (fun h2 hf hs => ?_)
      refine g_iinc (i := 2) (z := 1) (v := (v2 + (1 : Int32))) (by decide +kernel) rfl rfl rfl (by decide) (ls1 := [(0, .ref p0), (1, .int p1), (2, .int (v2 + (1 : Int32))), (3, .int v3)]) rfl ?_
      refine g_goto (off := (-12)) (tgt := 5) (by decide +kernel) (by decide) ?_
      exact am_G.forget (am_subp [0, 1, 2, 3] rfl) (ih _ _ _ _ hs hf kont)
def f_Arrays_fill (p0 : Nat) (p0L : Nat) (p1 : Int32) (h : am_H) : Option (am_H) :=
  (f_Arrays_fill_L5 p0 p0L p1 am_fu (0 : Int32) (Int32.ofNat p0L) h).bind fun q3 =>
  some q3.2
set_option maxRecDepth 100000 in
set_option maxHeartbeats 4000000 in
theorem t_Arrays_fill {p0 : Nat} {p0L : Nat} {p1 : Int32} {h : am_H} (hs : am_Sh h) (hp0 : am_K0[p0]? = some (.inr (.int, p0L))) {r : am_H} (hf : f_Arrays_fill p0 p0L p1 h = some r) : am_Ct 0 M_Arrays_fill [.ref p0, .int p1] h 0 0 (am_qV r) := by
  unfold f_Arrays_fill at hf
  refine am_Ct.of (by decide) rfl (Nat.le_of_ble_eq_true rfl) (ls := [(0, .ref p0), (1, .int p1)]) rfl ?_
  refine g_iconst (z := 0) (v := 0) (by decide +kernel) rfl ?_
  refine g_istore_n (i := 2) (by decide +kernel) rfl (by decide) (ls1 := [(0, .ref p0), (1, .int p1), (2, .int (0 : Int32))]) rfl ?_
  refine g_aload_n (i := 0) (by decide +kernel) rfl ?_
  refine g_alen (t0 := 0) (hs.k hp0) rfl rfl (by decide +kernel) ?_
  refine g_istore_n (i := 3) (by decide +kernel) rfl (by decide) (ls1 := [(0, .ref p0), (1, .int p1), (2, .int (0 : Int32)), (3, .int (Int32.ofNat p0L))]) rfl ?_
  obtain ⟨q3, hqq3, hf⟩ := Option.bind_eq_some_iff.mp hf
  refine am_G.forget (am_subp [0, 1, 2, 3] rfl) (t_Arrays_fill_L5 hp0 am_fu _ _ _ q3 hs hqq3 (fun hs => ?_))
  exact x_vret hf hs (by decide +kernel) rfl (Nat.le_refl _) (Nat.le_refl _)
def f_Integer_bitCount (p0 : Int32) (h : am_H) : Option (Int32) :=
  am_let (p0 - ((((p0).toUInt32 >>> (((1 : Int32)).toUInt32 &&& Int32.toUInt32 31)).toInt32) &&& (1431655765 : Int32))) fun y1 =>
  am_let ((y1 &&& (858993459 : Int32)) + ((((y1).toUInt32 >>> (((2 : Int32)).toUInt32 &&& Int32.toUInt32 31)).toInt32) &&& (858993459 : Int32))) fun y2 =>
  am_let ((y2 + (((y2).toUInt32 >>> (((4 : Int32)).toUInt32 &&& Int32.toUInt32 31)).toInt32)) &&& (252645135 : Int32)) fun y3 =>
  am_let (y3 + (((y3).toUInt32 >>> (((8 : Int32)).toUInt32 &&& Int32.toUInt32 31)).toInt32)) fun y4 =>
  am_let (y4 + (((y4).toUInt32 >>> (((16 : Int32)).toUInt32 &&& Int32.toUInt32 31)).toInt32)) fun y5 =>
  some (y5 &&& (63 : Int32))
set_option maxRecDepth 100000 in
set_option maxHeartbeats 4000000 in
theorem t_Integer_bitCount {p0 : Int32} {h : am_H} (hs : am_Sh h)  {r : Int32} (hf : f_Integer_bitCount p0 h = some r) : am_Ct 0 M_Integer_bitCount [.int p0] h 0 0 (am_pI h r) := by
  unfold f_Integer_bitCount at hf
  refine am_Ct.of (by decide) rfl (Nat.le_of_ble_eq_true rfl) (ls := [(0, .int p0)]) rfl ?_
  refine g_iload_n (i := 0) (by decide +kernel) rfl ?_
  refine g_iload_n (i := 0) (by decide +kernel) rfl ?_
  refine g_iconst (z := 1) (v := 1) (by decide +kernel) rfl ?_
  refine g_iushr (by decide +kernel) ?_
  refine g_ldcw (by decide +kernel) C_Integer_265 ?_
  refine g_iand (by decide +kernel) ?_
  refine g_isub (by decide +kernel) ?_
  refine x_nmI hf (fun y1 hf => ?_)
  refine g_istore_n (i := 0) (by decide +kernel) rfl (by decide) (ls1 := [(0, .int y1)]) rfl ?_
  refine g_iload_n (i := 0) (by decide +kernel) rfl ?_
  refine g_ldcw (by decide +kernel) C_Integer_266 ?_
  refine g_iand (by decide +kernel) ?_
  refine g_iload_n (i := 0) (by decide +kernel) rfl ?_
  refine g_iconst (z := 2) (v := 2) (by decide +kernel) rfl ?_
  refine g_iushr (by decide +kernel) ?_
  refine g_ldcw (by decide +kernel) C_Integer_266 ?_
  refine g_iand (by decide +kernel) ?_
  refine g_iadd (by decide +kernel) ?_
  refine x_nmI hf (fun y2 hf => ?_)
  refine g_istore_n (i := 0) (by decide +kernel) rfl (by decide) (ls1 := [(0, .int y2)]) rfl ?_
  refine g_iload_n (i := 0) (by decide +kernel) rfl ?_
  refine g_iload_n (i := 0) (by decide +kernel) rfl ?_
  refine g_iconst (z := 4) (v := 4) (by decide +kernel) rfl ?_
  refine g_iushr (by decide +kernel) ?_
  refine g_iadd (by decide +kernel) ?_
  refine g_ldcw (by decide +kernel) C_Integer_267 ?_
  refine g_iand (by decide +kernel) ?_
  refine x_nmI hf (fun y3 hf => ?_)
  refine g_istore_n (i := 0) (by decide +kernel) rfl (by decide) (ls1 := [(0, .int y3)]) rfl ?_
  refine g_iload_n (i := 0) (by decide +kernel) rfl ?_
  refine g_iload_n (i := 0) (by decide +kernel) rfl ?_
  refine g_bipush (z := 8) (v := 8) (by decide +kernel) rfl ?_
  refine g_iushr (by decide +kernel) ?_
  refine g_iadd (by decide +kernel) ?_
  refine x_nmI hf (fun y4 hf => ?_)
  refine g_istore_n (i := 0) (by decide +kernel) rfl (by decide) (ls1 := [(0, .int y4)]) rfl ?_
  refine g_iload_n (i := 0) (by decide +kernel) rfl ?_
  refine g_iload_n (i := 0) (by decide +kernel) rfl ?_
  refine g_bipush (z := 16) (v := 16) (by decide +kernel) rfl ?_
  refine g_iushr (by decide +kernel) ?_
  refine g_iadd (by decide +kernel) ?_
  refine x_nmI hf (fun y5 hf => ?_)
  refine g_istore_n (i := 0) (by decide +kernel) rfl (by decide) (ls1 := [(0, .int y5)]) rfl ?_
  refine g_iload_n (i := 0) (by decide +kernel) rfl ?_
  refine g_bipush (z := 63) (v := 63) (by decide +kernel) rfl ?_
  refine g_iand (by decide +kernel) ?_
  exact x_iretp hf (by decide +kernel) rfl (Nat.le_refl _) (Nat.le_refl _)
def f_Arrays_fill_JJV_L6 (p0 : Nat) (p0L : Nat) (p1 : Int64) : Nat → Int32 → Int32 → am_H → Option (Int32 × am_H)
  | 0, _, _, _ => none
  | n + 1, v3, v4, h =>
    (if v4 ≤ v3 then
      some (v3, h)
    else
      (am_wrJ h p0 p0L v3 p1).bind fun h2 =>
      f_Arrays_fill_JJV_L6 p0 p0L p1 n (v3 + (1 : Int32)) v4 h2)
set_option maxRecDepth 100000 in
set_option maxHeartbeats 4000000 in
theorem t_Arrays_fill_JJV_L6 {p0 : Nat} {p0L : Nat} {p1 : Int64} (hp0 : am_K0[p0]? = some (.inr (.long, p0L))) {Q : Option Value → am_H → Prop} : ∀ (n : Nat) (v3 : Int32) (v4 : Int32) (h : am_H) (q : Int32 × am_H), am_Sh h → f_Arrays_fill_JJV_L6 p0 p0L p1 n v3 v4 h = some q → (am_Sh q.2 → am_G 0 M_Arrays_fill_JJV 0 0 Q 22 [(0, .ref p0), (1, .long p1), (3, .int q.1), (4, .int v4)] [] q.2 0 0) → am_G 0 M_Arrays_fill_JJV 0 0 Q 6 [(0, .ref p0), (1, .long p1), (3, .int v3), (4, .int v4)] [] h 0 0 := by
  intro n
  induction n with
  | zero =>
    intro v3 v4 h q hs hf kont
    rw [f_Arrays_fill_JJV_L6] at hf
    cases hf
  | succ n ih =>
    intro v3 v4 h q hs hf kont
    rw [f_Arrays_fill_JJV_L6] at hf
    refine g_iload_n (i := 3) (by decide +kernel) rfl ?_
    refine g_iload (i := 4) (by decide +kernel) rfl ?_
    refine x_icmp_ge (off := 13) (tgt := 22) hf (by decide +kernel) (by decide) (fun c1 hf => ?_) (fun c1 hf => ?_)
    · cases hf
      exact am_G.forget (am_subp [0, 1, 2, 3] rfl) (kont hs)
    · refine g_aload_n (i := 0) (by decide +kernel) rfl ?_
      refine g_iload_n (i := 3) (by decide +kernel) rfl ?_
      refine g_lload_n (i := 1) (by decide +kernel) rfl ?_
      refine x_last hf hs (hs.k hp0) (by decide +kernel) (fun h2 hf hs => ?_)
      refine g_iinc (i := 3) (z := 1) (v := (v3 + (1 : Int32))) (by decide +kernel) rfl rfl rfl (by decide) (ls1 := [(0, .ref p0), (1, .long p1), (3, .int (v3 + (1 : Int32))), (4, .int v4)]) rfl ?_
      refine g_goto (off := (-13)) (tgt := 6) (by decide +kernel) (by decide) ?_
      exact am_G.forget (am_subp [0, 1, 2, 3] rfl) (ih _ _ _ _ hs hf kont)
def f_Arrays_fill_JJV (p0 : Nat) (p0L : Nat) (p1 : Int64) (h : am_H) : Option (am_H) :=
  (f_Arrays_fill_JJV_L6 p0 p0L p1 am_fu (0 : Int32) (Int32.ofNat p0L) h).bind fun q3 =>
  some q3.2
set_option maxRecDepth 100000 in
set_option maxHeartbeats 4000000 in
theorem t_Arrays_fill_JJV {p0 : Nat} {p0L : Nat} {p1 : Int64} {h : am_H} (hs : am_Sh h) (hp0 : am_K0[p0]? = some (.inr (.long, p0L))) {r : am_H} (hf : f_Arrays_fill_JJV p0 p0L p1 h = some r) : am_Ct 0 M_Arrays_fill_JJV [.ref p0, .long p1] h 0 0 (am_qV r) := by
  unfold f_Arrays_fill_JJV at hf
  refine am_Ct.of (by decide) rfl (Nat.le_of_ble_eq_true rfl) (ls := [(0, .ref p0), (1, .long p1)]) rfl ?_
  refine g_iconst (z := 0) (v := 0) (by decide +kernel) rfl ?_
  refine g_istore_n (i := 3) (by decide +kernel) rfl (by decide) (ls1 := [(0, .ref p0), (1, .long p1), (3, .int (0 : Int32))]) rfl ?_
  refine g_aload_n (i := 0) (by decide +kernel) rfl ?_
  refine g_alen (t0 := 1) (hs.k hp0) rfl rfl (by decide +kernel) ?_
  refine g_istore (i := 4) (by decide +kernel) rfl (by decide) (ls1 := [(0, .ref p0), (1, .long p1), (3, .int (0 : Int32)), (4, .int (Int32.ofNat p0L))]) rfl ?_
  obtain ⟨q3, hqq3, hf⟩ := Option.bind_eq_some_iff.mp hf
  refine am_G.forget (am_subp [0, 1, 2, 3] rfl) (t_Arrays_fill_JJV_L6 hp0 am_fu _ _ _ q3 hs hqq3 (fun hs => ?_))
  exact x_vret hf hs (by decide +kernel) rfl (Nat.le_refl _) (Nat.le_refl _)
def f_Integer_numberOfTrailingZeros (p0 : Int32) (h : am_H) : Option (Int32) :=
  am_let ((p0 ^^^ (-1 : Int32)) &&& (p0 - (1 : Int32))) fun y1 =>
  (if 0 < y1 then
    ((if y1 ≤ (65536 : Int32) then
        some (y1, (1 : Int32))
      else
        am_let (((y1).toUInt32 >>> (((16 : Int32)).toUInt32 &&& Int32.toUInt32 31)).toInt32) fun y4 =>
        some (y4, ((1 : Int32) + (16 : Int32)))) : Option (Int32 × Int32)).bind fun m5 =>
    ((if m5.1 ≤ (256 : Int32) then
        some (m5.1, m5.2)
      else
        am_let (((m5.1).toUInt32 >>> (((8 : Int32)).toUInt32 &&& Int32.toUInt32 31)).toInt32) fun y7 =>
        some (y7, (m5.2 + (8 : Int32)))) : Option (Int32 × Int32)).bind fun m8 =>
    ((if m8.1 ≤ (16 : Int32) then
        some (m8.1, m8.2)
      else
        am_let (((m8.1).toUInt32 >>> (((4 : Int32)).toUInt32 &&& Int32.toUInt32 31)).toInt32) fun y10 =>
        some (y10, (m8.2 + (4 : Int32)))) : Option (Int32 × Int32)).bind fun m11 =>
    (if m11.1 ≤ (4 : Int32) then
      some (m11.2 + (((m11.1).toUInt32 >>> (((1 : Int32)).toUInt32 &&& Int32.toUInt32 31)).toInt32))
    else
      am_let (((m11.1).toUInt32 >>> (((2 : Int32)).toUInt32 &&& Int32.toUInt32 31)).toInt32) fun y13 =>
      some ((m11.2 + (2 : Int32)) + (((y13).toUInt32 >>> (((1 : Int32)).toUInt32 &&& Int32.toUInt32 31)).toInt32)))
  else
    some (y1 &&& (32 : Int32)))
set_option maxRecDepth 100000 in
set_option maxHeartbeats 4000000 in
theorem t_Integer_numberOfTrailingZeros {p0 : Int32} {h : am_H} (hs : am_Sh h)  {r : Int32} (hf : f_Integer_numberOfTrailingZeros p0 h = some r) : am_Ct 0 M_Integer_numberOfTrailingZeros [.int p0] h 0 0 (am_pI h r) := by
  unfold f_Integer_numberOfTrailingZeros at hf
  refine am_Ct.of (by decide) rfl (Nat.le_of_ble_eq_true rfl) (ls := [(0, .int p0)]) rfl ?_
  refine g_iload_n (i := 0) (by decide +kernel) rfl ?_
  refine g_iconst (z := (-1)) (v := (-1)) (by decide +kernel) rfl ?_
  refine g_ixor (by decide +kernel) ?_
  refine g_iload_n (i := 0) (by decide +kernel) rfl ?_
  refine g_iconst (z := 1) (v := 1) (by decide +kernel) rfl ?_
  refine g_isub (by decide +kernel) ?_
  refine g_iand (by decide +kernel) ?_
  refine x_nmI hf (fun y1 hf => ?_)
  refine g_istore_n (i := 0) (by decide +kernel) rfl (by decide) (ls1 := [(0, .int y1)]) rfl ?_
  refine g_iload_n (i := 0) (by decide +kernel) rfl ?_
  refine x_if_gt (off := 8) (tgt := 17) hf (by decide +kernel) (by decide) (fun c2 hf => ?_) (fun c2 hf => ?_)
  · refine g_iconst (z := 1) (v := 1) (by decide +kernel) rfl ?_
    refine g_istore_n (i := 1) (by decide +kernel) rfl (by decide) (ls1 := [(0, .int y1), (1, .int (1 : Int32))]) rfl ?_
    refine g_iload_n (i := 0) (by decide +kernel) rfl ?_
    refine g_ldcw (by decide +kernel) C_Integer_264 ?_
    obtain ⟨m5, hm34, hf⟩ := Option.bind_eq_some_iff.mp hf
    refine am_cut (J := 34) (ls' := [(0, .int m5.1), (1, .int m5.2)]) (st' := []) ?_ (fun K34 => ?_)
    · refine g_iload_n (i := 0) (by decide +kernel) rfl ?_
      refine g_sipush (z := 256) (v := 256) (by decide +kernel) rfl ?_
      obtain ⟨m8, hm49, hf⟩ := Option.bind_eq_some_iff.mp hf
      refine am_cut (J := 49) (ls' := [(0, .int m8.1), (1, .int m8.2)]) (st' := []) ?_ (fun K49 => ?_)
      · refine g_iload_n (i := 0) (by decide +kernel) rfl ?_
        refine g_bipush (z := 16) (v := 16) (by decide +kernel) rfl ?_
        obtain ⟨m11, hm62, hf⟩ := Option.bind_eq_some_iff.mp hf
        refine am_cut (J := 62) (ls' := [(0, .int m11.1), (1, .int m11.2)]) (st' := []) ?_ (fun K62 => ?_)
        · refine g_iload_n (i := 0) (by decide +kernel) rfl ?_
          refine g_iconst (z := 4) (v := 4) (by decide +kernel) rfl ?_
          refine x_icmp_le (off := 10) (tgt := 74) hf (by decide +kernel) (by decide) (fun c12 hf => ?_) (fun c12 hf => ?_)
          · refine g_iload_n (i := 1) (by decide +kernel) rfl ?_
            refine g_iload_n (i := 0) (by decide +kernel) rfl ?_
            refine g_iconst (z := 1) (v := 1) (by decide +kernel) rfl ?_
            refine g_iushr (by decide +kernel) ?_
            refine g_iadd (by decide +kernel) ?_
            exact x_iretp hf (by decide +kernel) rfl (Nat.le_refl _) (Nat.le_refl _)
          · refine g_iinc (i := 1) (z := 2) (v := (m11.2 + (2 : Int32))) (by decide +kernel) rfl rfl rfl (by decide) (ls1 := [(0, .int m11.1), (1, .int (m11.2 + (2 : Int32)))]) rfl ?_
            refine g_iload_n (i := 0) (by decide +kernel) rfl ?_
            refine g_iconst (z := 2) (v := 2) (by decide +kernel) rfl ?_
            refine g_iushr (by decide +kernel) ?_
            refine x_nmI hf (fun y13 hf => ?_)
            refine g_istore_n (i := 0) (by decide +kernel) rfl (by decide) (ls1 := [(0, .int y13), (1, .int (m11.2 + (2 : Int32)))]) rfl ?_
            refine g_iload_n (i := 1) (by decide +kernel) rfl ?_
            refine g_iload_n (i := 0) (by decide +kernel) rfl ?_
            refine g_iconst (z := 1) (v := 1) (by decide +kernel) rfl ?_
            refine g_iushr (by decide +kernel) ?_
            refine g_iadd (by decide +kernel) ?_
            exact x_iretp hf (by decide +kernel) rfl (Nat.le_refl _) (Nat.le_refl _)
        refine x_icmp_le (off := 10) (tgt := 62) hm62 (by decide +kernel) (by decide) (fun c9 hm62 => ?_) (fun c9 hm62 => ?_)
        · cases hm62
          exact am_G.forget (am_subp [0, 1] rfl) K62
        · refine g_iinc (i := 1) (z := 4) (v := (m8.2 + (4 : Int32))) (by decide +kernel) rfl rfl rfl (by decide) (ls1 := [(0, .int m8.1), (1, .int (m8.2 + (4 : Int32)))]) rfl ?_
          refine g_iload_n (i := 0) (by decide +kernel) rfl ?_
          refine g_iconst (z := 4) (v := 4) (by decide +kernel) rfl ?_
          refine g_iushr (by decide +kernel) ?_
          refine x_nmI hm62 (fun y10 hm62 => ?_)
          refine g_istore_n (i := 0) (by decide +kernel) rfl (by decide) (ls1 := [(0, .int y10), (1, .int (m8.2 + (4 : Int32)))]) rfl ?_
          cases hm62
          exact am_G.forget (am_subp [0, 1] rfl) K62
      refine x_icmp_le (off := 11) (tgt := 49) hm49 (by decide +kernel) (by decide) (fun c6 hm49 => ?_) (fun c6 hm49 => ?_)
      · cases hm49
        exact am_G.forget (am_subp [0, 1] rfl) K49
      · refine g_iinc (i := 1) (z := 8) (v := (m5.2 + (8 : Int32))) (by decide +kernel) rfl rfl rfl (by decide) (ls1 := [(0, .int m5.1), (1, .int (m5.2 + (8 : Int32)))]) rfl ?_
        refine g_iload_n (i := 0) (by decide +kernel) rfl ?_
        refine g_bipush (z := 8) (v := 8) (by decide +kernel) rfl ?_
        refine g_iushr (by decide +kernel) ?_
        refine x_nmI hm49 (fun y7 hm49 => ?_)
        refine g_istore_n (i := 0) (by decide +kernel) rfl (by decide) (ls1 := [(0, .int y7), (1, .int (m5.2 + (8 : Int32)))]) rfl ?_
        cases hm49
        exact am_G.forget (am_subp [0, 1] rfl) K49
    refine x_icmp_le (off := 11) (tgt := 34) hm34 (by decide +kernel) (by decide) (fun c3 hm34 => ?_) (fun c3 hm34 => ?_)
    · cases hm34
      exact am_G.forget (am_subp [0, 1] rfl) K34
    · refine g_iinc (i := 1) (z := 16) (v := ((1 : Int32) + (16 : Int32))) (by decide +kernel) rfl rfl rfl (by decide) (ls1 := [(0, .int y1), (1, .int ((1 : Int32) + (16 : Int32)))]) rfl ?_
      refine g_iload_n (i := 0) (by decide +kernel) rfl ?_
      refine g_bipush (z := 16) (v := 16) (by decide +kernel) rfl ?_
      refine g_iushr (by decide +kernel) ?_
      refine x_nmI hm34 (fun y4 hm34 => ?_)
      refine g_istore_n (i := 0) (by decide +kernel) rfl (by decide) (ls1 := [(0, .int y4), (1, .int ((1 : Int32) + (16 : Int32)))]) rfl ?_
      cases hm34
      exact am_G.forget (am_subp [0, 1] rfl) K34
  · refine g_iload_n (i := 0) (by decide +kernel) rfl ?_
    refine g_bipush (z := 32) (v := 32) (by decide +kernel) rfl ?_
    refine g_iand (by decide +kernel) ?_
    exact x_iretp hf (by decide +kernel) rfl (Nat.le_refl _) (Nat.le_refl _)
