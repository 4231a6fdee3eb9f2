def f_Top_putBytes_L3 (p1 : Int32) : Nat → Int32 → am_H → Option (Int32 × am_H)
  | 0, _, _ => none
  | n + 1, v2, h =>
    (if v2 < 0 then
      some (v2, h)
    else
      (if (900 : Int32) ≤ (h.2.1 0 13) then
        some (v2, h)
      else
        (am_wr h 60 900 (h.2.1 0 13) (vp_nar .byte (((p1 >>> (v2 &&& 31))).toInt8.toInt32))).bind fun h3 =>
        am_let (am_sI h3 0 13 ((h3.2.1 0 13) + (1 : Int32))) fun h4 =>
        f_Top_putBytes_L3 p1 n (v2 + (-8 : Int32)) h4))
set_option maxRecDepth 100000 in
set_option maxHeartbeats 4000000 in
theorem t_Top_putBytes_L3 {p1 : Int32}  {Q : Option Value → am_H → Prop} : ∀ (n : Nat) (v2 : Int32) (h : am_H) (q : Int32 × am_H), am_Sh h → f_Top_putBytes_L3 p1 n v2 h = some q → (am_Sh q.2 → am_G 0 M_Top_putBytes 0 0 Q 46 [(0, .ref 0), (1, .int p1), (2, .int q.1)] [] q.2 0 0) → am_G 0 M_Top_putBytes 0 0 Q 3 [(0, .ref 0), (1, .int p1), (2, .int v2)] [] h 0 0 := by
  intro n
  induction n with
  | zero =>
    intro v2 h q hs hf kont
    rw [f_Top_putBytes_L3] at hf
    cases hf
  | succ n ih =>
    intro v2 h q hs hf kont
    rw [f_Top_putBytes_L3] at hf
    refine g_iload_n (i := 2) (by decide +kernel) rfl ?_
    refine x_if_lt (off := 42) (tgt := 46) hf (by decide +kernel) (by decide) (fun c1 hf => ?_) (fun c1 hf => ?_)
    · cases hf
      exact am_G.forget (am_subp [0, 1, 2] rfl) (kont hs)
    · refine g_aload_n (i := 0) (by decide +kernel) rfl ?_
      refine x_geti (hs.k k_0) F_Top_90 (by decide +kernel) rfl ?_
      refine g_sipush (z := 900) (v := 900) (by decide +kernel) rfl ?_
      refine x_icmp_ge (off := 32) (tgt := 46) hf (by decide +kernel) (by decide) (fun c2 hf => ?_) (fun c2 hf => ?_)
      · cases hf
        exact am_G.forget (am_subp [0, 1, 2] rfl) (kont hs)
      · refine g_aload_n (i := 0) (by decide +kernel) rfl ?_
        refine x_getr (hs.k k_0) F_Top_33 (by decide +kernel) rfl (hs.r r_0_4) ?_
        refine g_aload_n (i := 0) (by decide +kernel) rfl ?_
        refine x_geti (hs.k k_0) F_Top_90 (by decide +kernel) rfl ?_
        refine g_iload_n (i := 1) (by decide +kernel) rfl ?_
        refine g_iload_n (i := 2) (by decide +kernel) rfl ?_
        refine g_ishr (by decide +kernel) ?_
        refine g_i2b (by decide +kernel) ?_
        refine x_bast hf hs (hs.k k_60) (by decide +kernel) (fun h3 hf hs => ?_)
        refine g_aload_n (i := 0) (by decide +kernel) rfl ?_
        refine g_dup (by decide +kernel) rfl ?_
        refine x_geti (hs.k k_0) F_Top_90 (by decide +kernel) rfl ?_
        refine g_iconst (z := 1) (v := 1) (by decide +kernel) rfl ?_
        refine g_iadd (by decide +kernel) ?_
        refine x_puti hf hs (hs.k k_0) F_Top_90 (by decide +kernel) rfl rfl rfl rfl (fun h4 hf hs => ?_)
        refine g_iinc (i := 2) (z := (-8)) (v := (v2 + (-8 : Int32))) (by decide +kernel) rfl rfl rfl (by decide) (ls1 := [(0, .ref 0), (1, .int p1), (2, .int (v2 + (-8 : Int32)))]) rfl ?_
        refine g_goto (off := (-40)) (tgt := 3) (by decide +kernel) (by decide) ?_
        exact am_G.forget (am_subp [0, 1, 2] rfl) (ih _ _ _ hs hf kont)
def f_Top_putBytes (p1 : Int32) (h : am_H) : Option (am_H) :=
  (f_Top_putBytes_L3 p1 am_fu (24 : Int32) h).bind fun q5 =>
  some q5.2
set_option maxRecDepth 100000 in
set_option maxHeartbeats 4000000 in
theorem t_Top_putBytes {p1 : Int32} {h : am_H} (hs : am_Sh h)  {r : am_H} (hf : f_Top_putBytes p1 h = some r) : am_Ct 0 M_Top_putBytes [.ref 0, .int p1] h 0 0 (am_qV r) := by
  unfold f_Top_putBytes at hf
  refine am_Ct.of (by decide) rfl (Nat.le_of_ble_eq_true rfl) (ls := [(0, .ref 0), (1, .int p1)]) rfl ?_
  refine g_bipush (z := 24) (v := 24) (by decide +kernel) rfl ?_
  refine g_istore_n (i := 2) (by decide +kernel) rfl (by decide) (ls1 := [(0, .ref 0), (1, .int p1), (2, .int (24 : Int32))]) rfl ?_
  obtain ⟨q5, hqq5, hf⟩ := Option.bind_eq_some_iff.mp hf
  refine t_Top_putBytes_L3  am_fu _ _ q5 hs hqq5 (fun hs => ?_)
  exact x_vret hf hs (by decide +kernel) rfl
def f_Top_feed (p1 : Int32) (p2 : Int32) (p3 : Int32) (p4 : Int32) (p5 : Int32) (h : am_H) : Option (Int32 × am_H) :=
  (if ((h.2.1 0 13) + (20 : Int32)) ≤ (900 : Int32) then
    (f_Top_putBytes p1 h).bind fun q2 =>
    (f_Top_putBytes p2 q2).bind fun q3 =>
    (f_Top_putBytes p3 q3).bind fun q4 =>
    (f_Top_putBytes p4 q4).bind fun q5 =>
    (f_Top_putBytes p5 q5).bind fun q6 =>
    some ((q6.2.1 0 13), q6)
  else
    some ((-5 : Int32), h))
set_option maxRecDepth 100000 in
set_option maxHeartbeats 4000000 in
theorem t_Top_feed {p1 : Int32} {p2 : Int32} {p3 : Int32} {p4 : Int32} {p5 : Int32} {h : am_H} (hs : am_Sh h)  {r : Int32 × am_H} (hf : f_Top_feed p1 p2 p3 p4 p5 h = some r) : am_Ct 1 M_Top_feed [.ref 0, .int p1, .int p2, .int p3, .int p4, .int p5] h 0 0 (am_qI r) := by
  unfold f_Top_feed at hf
  refine am_Ct.of (by decide) rfl (Nat.le_of_ble_eq_true rfl) (ls := [(0, .ref 0), (1, .int p1), (2, .int p2), (3, .int p3), (4, .int p4), (5, .int p5)]) rfl ?_
  refine g_aload_n (i := 0) (by decide +kernel) rfl ?_
  refine x_geti (hs.k k_0) F_Top_90 (by decide +kernel) rfl ?_
  refine g_bipush (z := 20) (v := 20) (by decide +kernel) rfl ?_
  refine g_iadd (by decide +kernel) ?_
  refine g_sipush (z := 900) (v := 900) (by decide +kernel) rfl ?_
  refine x_icmp_le (off := 6) (tgt := 16) hf (by decide +kernel) (by decide) (fun c1 hf => ?_) (fun c1 hf => ?_)
  · refine g_aload_n (i := 0) (by decide +kernel) rfl ?_
    refine g_iload_n (i := 1) (by decide +kernel) rfl ?_
    refine x_callVV (as := [.int p1]) Vi_Top_putBytes Vs_Top_putBytes (hs.k k_0) rfl hf (fun q hq => t_Top_putBytes hs  hq) Y_Top_putBytes L_Top_98 (by decide +kernel) rfl rfl (Nat.le_of_ble_eq_true rfl) (by decide) (fun q2 hf hs => ?_)
    refine g_aload_n (i := 0) (by decide +kernel) rfl ?_
    refine g_iload_n (i := 2) (by decide +kernel) rfl ?_
    refine x_callVV (as := [.int p2]) Vi_Top_putBytes Vs_Top_putBytes (hs.k k_0) rfl hf (fun q hq => t_Top_putBytes hs  hq) Y_Top_putBytes L_Top_98 (by decide +kernel) rfl rfl (Nat.le_of_ble_eq_true rfl) (by decide) (fun q3 hf hs => ?_)
    refine g_aload_n (i := 0) (by decide +kernel) rfl ?_
    refine g_iload_n (i := 3) (by decide +kernel) rfl ?_
    refine x_callVV (as := [.int p3]) Vi_Top_putBytes Vs_Top_putBytes (hs.k k_0) rfl hf (fun q hq => t_Top_putBytes hs  hq) Y_Top_putBytes L_Top_98 (by decide +kernel) rfl rfl (Nat.le_of_ble_eq_true rfl) (by decide) (fun q4 hf hs => ?_)
    refine g_aload_n (i := 0) (by decide +kernel) rfl ?_
    refine g_iload (i := 4) (by decide +kernel) rfl ?_
    refine x_callVV (as := [.int p4]) Vi_Top_putBytes Vs_Top_putBytes (hs.k k_0) rfl hf (fun q hq => t_Top_putBytes hs  hq) Y_Top_putBytes L_Top_98 (by decide +kernel) rfl rfl (Nat.le_of_ble_eq_true rfl) (by decide) (fun q5 hf hs => ?_)
    refine g_aload_n (i := 0) (by decide +kernel) rfl ?_
    refine g_iload (i := 5) (by decide +kernel) rfl ?_
    refine x_callVV (as := [.int p5]) Vi_Top_putBytes Vs_Top_putBytes (hs.k k_0) rfl hf (fun q hq => t_Top_putBytes hs  hq) Y_Top_putBytes L_Top_98 (by decide +kernel) rfl rfl (Nat.le_of_ble_eq_true rfl) (by decide) (fun q6 hf hs => ?_)
    refine g_aload_n (i := 0) (by decide +kernel) rfl ?_
    refine x_geti (hs.k k_0) F_Top_90 (by decide +kernel) rfl ?_
    exact x_iret hf hs (by decide +kernel) rfl
  · refine g_bipush (z := (-5)) (v := (-5)) (by decide +kernel) rfl ?_
    exact x_iret hf hs (by decide +kernel) rfl
def f_Tokens_isLetter (p0 : Int32) (h : am_H) : Option (Bool) :=
  (if p0 < (97 : Int32) then
    some false
  else
    (if (122 : Int32) < p0 then
      some false
    else
      some true))
set_option maxRecDepth 100000 in
set_option maxHeartbeats 4000000 in
theorem t_Tokens_isLetter {p0 : Int32} {h : am_H} (hs : am_Sh h)  {r : Bool} (hf : f_Tokens_isLetter p0 h = some r) : am_Ct 0 M_Tokens_isLetter [.int p0] h 0 0 (am_pB h r) := by
  unfold f_Tokens_isLetter at hf
  refine am_Ct.of (by decide) rfl (Nat.le_of_ble_eq_true rfl) (ls := [(0, .int p0)]) rfl ?_
  refine g_iload_n (i := 0) (by decide +kernel) rfl ?_
  refine g_bipush (z := 97) (v := 97) (by decide +kernel) rfl ?_
  refine x_icmp_lt (off := 13) (tgt := 16) hf (by decide +kernel) (by decide) (fun c1 hf => ?_) (fun c1 hf => ?_)
  · refine g_iconst (z := 0) (v := 0) (by decide +kernel) rfl ?_
    exact x_zretp rfl hf (by decide +kernel) rfl
  · refine g_iload_n (i := 0) (by decide +kernel) rfl ?_
    refine g_bipush (z := 122) (v := 122) (by decide +kernel) rfl ?_
    refine x_icmp_gt (off := 7) (tgt := 16) hf (by decide +kernel) (by decide) (fun c2 hf => ?_) (fun c2 hf => ?_)
    · refine g_iconst (z := 0) (v := 0) (by decide +kernel) rfl ?_
      exact x_zretp rfl hf (by decide +kernel) rfl
    · refine g_iconst (z := 1) (v := 1) (by decide +kernel) rfl ?_
      refine g_goto (off := 4) (tgt := 17) (by decide +kernel) (by decide) ?_
      exact x_zretp rfl hf (by decide +kernel) rfl
def f_Tokens_isDigit (p0 : Int32) (h : am_H) : Option (Bool) :=
  (if p0 < (48 : Int32) then
    some false
  else
    (if (57 : Int32) < p0 then
      some false
    else
      some true))
set_option maxRecDepth 100000 in
set_option maxHeartbeats 4000000 in
theorem t_Tokens_isDigit {p0 : Int32} {h : am_H} (hs : am_Sh h)  {r : Bool} (hf : f_Tokens_isDigit p0 h = some r) : am_Ct 0 M_Tokens_isDigit [.int p0] h 0 0 (am_pB h r) := by
  unfold f_Tokens_isDigit at hf
  refine am_Ct.of (by decide) rfl (Nat.le_of_ble_eq_true rfl) (ls := [(0, .int p0)]) rfl ?_
  refine g_iload_n (i := 0) (by decide +kernel) rfl ?_
  refine g_bipush (z := 48) (v := 48) (by decide +kernel) rfl ?_
  refine x_icmp_lt (off := 13) (tgt := 16) hf (by decide +kernel) (by decide) (fun c1 hf => ?_) (fun c1 hf => ?_)
  · refine g_iconst (z := 0) (v := 0) (by decide +kernel) rfl ?_
    exact x_zretp rfl hf (by decide +kernel) rfl
  · refine g_iload_n (i := 0) (by decide +kernel) rfl ?_
    refine g_bipush (z := 57) (v := 57) (by decide +kernel) rfl ?_
    refine x_icmp_gt (off := 7) (tgt := 16) hf (by decide +kernel) (by decide) (fun c2 hf => ?_) (fun c2 hf => ?_)
    · refine g_iconst (z := 0) (v := 0) (by decide +kernel) rfl ?_
      exact x_zretp rfl hf (by decide +kernel) rfl
    · refine g_iconst (z := 1) (v := 1) (by decide +kernel) rfl ?_
      refine g_goto (off := 4) (tgt := 17) (by decide +kernel) (by decide) ?_
      exact x_zretp rfl hf (by decide +kernel) rfl
def f_Tokens_endOf_L3 (p0 : Nat) (p0L : Nat) (p1 : Int32) (p2 : Int32) (p3 : Int32) : Nat → Int32 → am_H → Option (Int32)
  | 0, _, _ => none
  | n + 1, v4, h =>
    (if p2 ≤ v4 then
      some v4
    else
      (if (Int32.ofNat p0L) ≤ v4 then
        some v4
      else
        (if p3 = 0 then
          (am_rd (h.2.1 p0) p0L v4).bind fun x4 =>
          (f_Tokens_isLetter x4 h).bind fun q5 =>
          (if q5 = true then
            f_Tokens_endOf_L3 p0 p0L p1 p2 p3 n (v4 + (1 : Int32)) h
          else
            some v4)
        else
          (am_rd (h.2.1 p0) p0L v4).bind fun x7 =>
          (f_Tokens_isDigit x7 h).bind fun q8 =>
          (if q8 = true then
            f_Tokens_endOf_L3 p0 p0L p1 p2 p3 n (v4 + (1 : Int32)) h
          else
            some v4))))
set_option maxRecDepth 100000 in
set_option maxHeartbeats 4000000 in
theorem t_Tokens_endOf_L3 {p0 : Nat} {p0L : Nat} {p1 : Int32} {p2 : Int32} {p3 : Int32} (hp0 : am_K0[p0]? = some (.inr (.byte, p0L))) {Q : Option Value → am_H → Prop} : ∀ (n : Nat) (v4 : Int32) (h : am_H) (q : Int32), am_Sh h → f_Tokens_endOf_L3 p0 p0L p1 p2 p3 n v4 h = some q → (am_G 1 M_Tokens_endOf 0 0 Q 49 [(0, .ref p0), (1, .int p1), (2, .int p2), (3, .int p3), (4, .int q)] [] h 0 0) → am_G 1 M_Tokens_endOf 0 0 Q 3 [(0, .ref p0), (1, .int p1), (2, .int p2), (3, .int p3), (4, .int v4)] [] h 0 0 := by
  intro n
  induction n with
  | zero =>
    intro v4 h q hs hf kont
    rw [f_Tokens_endOf_L3] at hf
    cases hf
  | succ n ih =>
    intro v4 h q hs hf kont
    rw [f_Tokens_endOf_L3] at hf
    refine g_iload (i := 4) (by decide +kernel) rfl ?_
    refine g_iload_n (i := 2) (by decide +kernel) rfl ?_
    refine x_icmp_ge (off := 43) (tgt := 49) hf (by decide +kernel) (by decide) (fun c1 hf => ?_) (fun c1 hf => ?_)
    · cases hf
      exact am_G.forget (am_subp [0, 1, 2, 3, 4] rfl) kont
    · refine g_iload (i := 4) (by decide +kernel) rfl ?_
      refine g_aload_n (i := 0) (by decide +kernel) rfl ?_
      refine g_alen (t0 := 2) (hs.k hp0) rfl rfl (by decide +kernel) ?_
      refine x_icmp_ge (off := 36) (tgt := 49) hf (by decide +kernel) (by decide) (fun c2 hf => ?_) (fun c2 hf => ?_)
      · cases hf
        exact am_G.forget (am_subp [0, 1, 2, 3, 4] rfl) kont
      · refine g_iload_n (i := 3) (by decide +kernel) rfl ?_
        refine x_if_eq (off := 16) (tgt := 33) hf (by decide +kernel) (by decide) (fun c3 hf => ?_) (fun c3 hf => ?_)
        · refine g_aload_n (i := 0) (by decide +kernel) rfl ?_
          refine g_iload (i := 4) (by decide +kernel) rfl ?_
          refine x_bald hf (hs.k hp0) (by decide +kernel) (fun x4 hf => ?_)
          refine x_callSBp (as := [.int x4]) St_Tokens_isLetter hf (fun q hq => t_Tokens_isLetter hs  hq) Y_Tokens_isLetter L_Tokens_25 (by decide +kernel) rfl rfl (Nat.le_of_ble_eq_true rfl) (by decide) (fun q5 hf => ?_)
          refine x_ifb_eq (off := 9) (tgt := 49) hf (by decide +kernel) (by decide) (fun c6 hf => ?_) (fun c6 hf => ?_)
          · cases hf
            exact am_G.forget (am_subp [0, 1, 2, 3, 4] rfl) kont
          · refine g_iinc (i := 4) (z := 1) (v := (v4 + (1 : Int32))) (by decide +kernel) rfl rfl rfl (by decide) (ls1 := [(0, .ref p0), (1, .int p1), (2, .int p2), (3, .int p3), (4, .int (v4 + (1 : Int32)))]) rfl ?_
            refine g_goto (off := (-43)) (tgt := 3) (by decide +kernel) (by decide) ?_
            exact am_G.forget (am_subp [0, 1, 2, 3, 4] rfl) (ih _ _ _ hs hf kont)
        · refine g_aload_n (i := 0) (by decide +kernel) rfl ?_
          refine g_iload (i := 4) (by decide +kernel) rfl ?_
          refine x_bald hf (hs.k hp0) (by decide +kernel) (fun x7 hf => ?_)
          refine x_callSBp (as := [.int x7]) St_Tokens_isDigit hf (fun q hq => t_Tokens_isDigit hs  hq) Y_Tokens_isDigit L_Tokens_41 (by decide +kernel) rfl rfl (Nat.le_of_ble_eq_true rfl) (by decide) (fun q8 hf => ?_)
          refine x_ifb_eq (off := 22) (tgt := 49) hf (by decide +kernel) (by decide) (fun c9 hf => ?_) (fun c9 hf => ?_)
          · cases hf
            exact am_G.forget (am_subp [0, 1, 2, 3, 4] rfl) kont
          · refine g_goto (off := 13) (tgt := 43) (by decide +kernel) (by decide) ?_
            refine g_iinc (i := 4) (z := 1) (v := (v4 + (1 : Int32))) (by decide +kernel) rfl rfl rfl (by decide) (ls1 := [(0, .ref p0), (1, .int p1), (2, .int p2), (3, .int p3), (4, .int (v4 + (1 : Int32)))]) rfl ?_
            refine g_goto (off := (-43)) (tgt := 3) (by decide +kernel) (by decide) ?_
            exact am_G.forget (am_subp [0, 1, 2, 3, 4] rfl) (ih _ _ _ hs hf kont)
def f_Tokens_endOf (p0 : Nat) (p0L : Nat) (p1 : Int32) (p2 : Int32) (p3 : Int32) (h : am_H) : Option (Int32) :=
  (f_Tokens_endOf_L3 p0 p0L p1 p2 p3 am_fu p1 h).bind fun q10 =>
  some q10
set_option maxRecDepth 100000 in
set_option maxHeartbeats 4000000 in
theorem t_Tokens_endOf {p0 : Nat} {p0L : Nat} {p1 : Int32} {p2 : Int32} {p3 : Int32} {h : am_H} (hs : am_Sh h) (hp0 : am_K0[p0]? = some (.inr (.byte, p0L))) {r : Int32} (hf : f_Tokens_endOf p0 p0L p1 p2 p3 h = some r) : am_Ct 1 M_Tokens_endOf [.ref p0, .int p1, .int p2, .int p3] h 0 0 (am_pI h r) := by
  unfold f_Tokens_endOf at hf
  refine am_Ct.of (by decide) rfl (Nat.le_of_ble_eq_true rfl) (ls := [(0, .ref p0), (1, .int p1), (2, .int p2), (3, .int p3)]) rfl ?_
  refine g_iload_n (i := 1) (by decide +kernel) rfl ?_
  refine g_istore (i := 4) (by decide +kernel) rfl (by decide) (ls1 := [(0, .ref p0), (1, .int p1), (2, .int p2), (3, .int p3), (4, .int p1)]) rfl ?_
  obtain ⟨q10, hqq10, hf⟩ := Option.bind_eq_some_iff.mp hf
  refine t_Tokens_endOf_L3 hp0 am_fu _ _ q10 hs hqq10 ?_
  refine g_iload (i := 4) (by decide +kernel) rfl ?_
  exact x_iretp hf (by decide +kernel) rfl
def f_Tokens_add (p1 : Int32) (p2 : Int32) (p3 : Int32) (h : am_H) : Option (am_H) :=
  (if (Int32.ofNat 901) ≤ (h.2.1 71 0) then
    some h
  else
    (am_wr h 72 901 (h.2.1 71 0) p1).bind fun h2 =>
    (am_wr h2 73 901 (h2.2.1 71 0) p2).bind fun h3 =>
    (am_wr h3 74 901 (h3.2.1 71 0) p3).bind fun h4 =>
    am_let (am_sI h4 71 0 ((h4.2.1 71 0) + (1 : Int32))) fun h5 =>
    some h5)
set_option maxRecDepth 100000 in
set_option maxHeartbeats 4000000 in
theorem t_Tokens_add {p1 : Int32} {p2 : Int32} {p3 : Int32} {h : am_H} (hs : am_Sh h)  {r : am_H} (hf : f_Tokens_add p1 p2 p3 h = some r) : am_Ct 0 M_Tokens_add [.ref 71, .int p1, .int p2, .int p3] h 0 0 (am_qV r) := by
  unfold f_Tokens_add at hf
  refine am_Ct.of (by decide) rfl (Nat.le_of_ble_eq_true rfl) (ls := [(0, .ref 71), (1, .int p1), (2, .int p2), (3, .int p3)]) rfl ?_
  refine g_aload_n (i := 0) (by decide +kernel) rfl ?_
  refine x_geti (hs.k k_71) F_Tokens_9 (by decide +kernel) rfl ?_
  refine g_aload_n (i := 0) (by decide +kernel) rfl ?_
  refine x_getr (hs.k k_71) F_Tokens_15 (by decide +kernel) rfl (hs.r r_71_1) ?_
  refine g_alen (t0 := 0) (hs.k k_72) rfl rfl (by decide +kernel) ?_
  refine x_icmp_ge (off := 43) (tgt := 52) hf (by decide +kernel) (by decide) (fun c1 hf => ?_) (fun c1 hf => ?_)
  · exact x_vret hf hs (by decide +kernel) rfl
  · refine g_aload_n (i := 0) (by decide +kernel) rfl ?_
    refine x_getr (hs.k k_71) F_Tokens_15 (by decide +kernel) rfl (hs.r r_71_1) ?_
    refine g_aload_n (i := 0) (by decide +kernel) rfl ?_
    refine x_geti (hs.k k_71) F_Tokens_9 (by decide +kernel) rfl ?_
    refine g_iload_n (i := 1) (by decide +kernel) rfl ?_
    refine x_iast hf hs (hs.k k_72) (by decide +kernel) (fun h2 hf hs => ?_)
    refine g_aload_n (i := 0) (by decide +kernel) rfl ?_
    refine x_getr (hs.k k_71) F_Tokens_19 (by decide +kernel) rfl (hs.r r_71_2) ?_
    refine g_aload_n (i := 0) (by decide +kernel) rfl ?_
    refine x_geti (hs.k k_71) F_Tokens_9 (by decide +kernel) rfl ?_
    refine g_iload_n (i := 2) (by decide +kernel) rfl ?_
    refine x_iast hf hs (hs.k k_73) (by decide +kernel) (fun h3 hf hs => ?_)
    refine g_aload_n (i := 0) (by decide +kernel) rfl ?_
    refine x_getr (hs.k k_71) F_Tokens_22 (by decide +kernel) rfl (hs.r r_71_3) ?_
    refine g_aload_n (i := 0) (by decide +kernel) rfl ?_
    refine x_geti (hs.k k_71) F_Tokens_9 (by decide +kernel) rfl ?_
    refine g_iload_n (i := 3) (by decide +kernel) rfl ?_
    refine x_iast hf hs (hs.k k_74) (by decide +kernel) (fun h4 hf hs => ?_)
    refine g_aload_n (i := 0) (by decide +kernel) rfl ?_
    refine g_dup (by decide +kernel) rfl ?_
    refine x_geti (hs.k k_71) F_Tokens_9 (by decide +kernel) rfl ?_
    refine g_iconst (z := 1) (v := 1) (by decide +kernel) rfl ?_
    refine g_iadd (by decide +kernel) ?_
    refine x_puti hf hs (hs.k k_71) F_Tokens_9 (by decide +kernel) rfl rfl rfl rfl (fun h5 hf hs => ?_)
    exact x_vret hf hs (by decide +kernel) rfl
def f_Tokens_valueOf_L5 (p0 : Nat) (p0L : Nat) (p1 : Int32) (p2 : Int32) : Nat → Int32 → Int32 → am_H → Option (Int32 × Int32)
  | 0, _, _, _ => none
  | n + 1, v3, v4, h =>
    (if p2 ≤ v4 then
      some (v3, v4)
    else
      (if (p1 + (3 : Int32)) ≤ v4 then
        some (v3, v4)
      else
        (am_rd (h.2.1 p0) p0L v4).bind fun x3 =>
        f_Tokens_valueOf_L5 p0 p0L p1 p2 n (((v3 * (10 : Int32)) + x3) - (48 : Int32)) (v4 + (1 : Int32)) h))
set_option maxRecDepth 100000 in
set_option maxHeartbeats 4000000 in
theorem t_Tokens_valueOf_L5 {p0 : Nat} {p0L : Nat} {p1 : Int32} {p2 : Int32} (hp0 : am_K0[p0]? = some (.inr (.byte, p0L))) {Q : Option Value → am_H → Prop} : ∀ (n : Nat) (v3 : Int32) (v4 : Int32) (h : am_H) (q : Int32 × Int32), am_Sh h → f_Tokens_valueOf_L5 p0 p0L p1 p2 n v3 v4 h = some q → (am_G 0 M_Tokens_valueOf 0 0 Q 38 [(0, .ref p0), (1, .int p1), (2, .int p2), (3, .int q.1), (4, .int q.2)] [] h 0 0) → am_G 0 M_Tokens_valueOf 0 0 Q 5 [(0, .ref p0), (1, .int p1), (2, .int p2), (3, .int v3), (4, .int v4)] [] h 0 0 := by
  intro n
  induction n with
  | zero =>
    intro v3 v4 h q hs hf kont
    rw [f_Tokens_valueOf_L5] at hf
    cases hf
  | succ n ih =>
    intro v3 v4 h q hs hf kont
    rw [f_Tokens_valueOf_L5] at hf
    refine g_iload (i := 4) (by decide +kernel) rfl ?_
    refine g_iload_n (i := 2) (by decide +kernel) rfl ?_
    refine x_icmp_ge (off := 30) (tgt := 38) hf (by decide +kernel) (by decide) (fun c1 hf => ?_) (fun c1 hf => ?_)
    · cases hf
      exact am_G.forget (am_subp [0, 1, 2, 3, 4] rfl) kont
    · refine g_iload (i := 4) (by decide +kernel) rfl ?_
      refine g_iload_n (i := 1) (by decide +kernel) rfl ?_
      refine g_iconst (z := 3) (v := 3) (by decide +kernel) rfl ?_
      refine g_iadd (by decide +kernel) ?_
      refine x_icmp_ge (off := 22) (tgt := 38) hf (by decide +kernel) (by decide) (fun c2 hf => ?_) (fun c2 hf => ?_)
      · cases hf
        exact am_G.forget (am_subp [0, 1, 2, 3, 4] rfl) kont
      · refine g_iload_n (i := 3) (by decide +kernel) rfl ?_
        refine g_bipush (z := 10) (v := 10) (by decide +kernel) rfl ?_
        refine g_imul (by decide +kernel) ?_
        refine g_aload_n (i := 0) (by decide +kernel) rfl ?_
        refine g_iload (i := 4) (by decide +kernel) rfl ?_
        refine x_bald hf (hs.k hp0) (by decide +kernel) (fun x3 hf => ?_)
        refine g_iadd (by decide +kernel) ?_
        refine g_bipush (z := 48) (v := 48) (by decide +kernel) rfl ?_
        refine g_isub (by decide +kernel) ?_
        refine g_istore_n (i := 3) (by decide +kernel) rfl (by decide) (ls1 := [(0, .ref p0), (1, .int p1), (2, .int p2), (3, .int (((v3 * (10 : Int32)) + x3) - (48 : Int32))), (4, .int v4)]) rfl ?_
        refine g_iinc (i := 4) (z := 1) (v := (v4 + (1 : Int32))) (by decide +kernel) rfl rfl rfl (by decide) (ls1 := [(0, .ref p0), (1, .int p1), (2, .int p2), (3, .int (((v3 * (10 : Int32)) + x3) - (48 : Int32))), (4, .int (v4 + (1 : Int32)))]) rfl ?_
        refine g_goto (off := (-30)) (tgt := 5) (by decide +kernel) (by decide) ?_
        exact am_G.forget (am_subp [0, 1, 2, 3, 4] rfl) (ih _ _ _ _ hs hf kont)
def f_Tokens_valueOf (p0 : Nat) (p0L : Nat) (p1 : Int32) (p2 : Int32) (h : am_H) : Option (Int32) :=
  (f_Tokens_valueOf_L5 p0 p0L p1 p2 am_fu (0 : Int32) p1 h).bind fun q4 =>
  some q4.1
set_option maxRecDepth 100000 in
set_option maxHeartbeats 4000000 in
theorem t_Tokens_valueOf {p0 : Nat} {p0L : Nat} {p1 : Int32} {p2 : Int32} {h : am_H} (hs : am_Sh h) (hp0 : am_K0[p0]? = some (.inr (.byte, p0L))) {r : Int32} (hf : f_Tokens_valueOf p0 p0L p1 p2 h = some r) : am_Ct 0 M_Tokens_valueOf [.ref p0, .int p1, .int p2] h 0 0 (am_pI h r) := by
  unfold f_Tokens_valueOf at hf
  refine am_Ct.of (by decide) rfl (Nat.le_of_ble_eq_true rfl) (ls := [(0, .ref p0), (1, .int p1), (2, .int p2)]) rfl ?_
  refine g_iconst (z := 0) (v := 0) (by decide +kernel) rfl ?_
  refine g_istore_n (i := 3) (by decide +kernel) rfl (by decide) (ls1 := [(0, .ref p0), (1, .int p1), (2, .int p2), (3, .int (0 : Int32))]) rfl ?_
  refine g_iload_n (i := 1) (by decide +kernel) rfl ?_
  refine g_istore (i := 4) (by decide +kernel) rfl (by decide) (ls1 := [(0, .ref p0), (1, .int p1), (2, .int p2), (3, .int (0 : Int32)), (4, .int p1)]) rfl ?_
  obtain ⟨q4, hqq4, hf⟩ := Option.bind_eq_some_iff.mp hf
  refine t_Tokens_valueOf_L5 hp0 am_fu _ _ _ q4 hs hqq4 ?_
  refine g_iload_n (i := 3) (by decide +kernel) rfl ?_
  exact x_iretp hf (by decide +kernel) rfl
def f_River_clear (o : Nat) (h : am_H) : Option (am_H) :=
  am_let (am_sI h o 0 (2 : Int32)) fun h1 =>
  am_let (am_sI h1 o 1 (1 : Int32)) fun h2 =>
  am_let (am_sI h2 o 2 (0 : Int32)) fun h3 =>
  am_let (am_sI h3 o 3 (0 : Int32)) fun h4 =>
  am_let (am_sI h4 o 4 (0 : Int32)) fun h5 =>
  am_let (am_sI h5 o 5 (0 : Int32)) fun h6 =>
  (f_Arrays_fill (o + 1) 6 (0 : Int32) h6).bind fun q7 =>
  (f_Arrays_fill (o + 3) 5 (0 : Int32) q7).bind fun q8 =>
  (f_Arrays_fill (o + 4) 5 (-1 : Int32) q8).bind fun q9 =>
  (f_Arrays_fill (o + 5) 5 (-1 : Int32) q9).bind fun q10 =>
  some q10
set_option maxRecDepth 100000 in
set_option maxHeartbeats 4000000 in
theorem t_River_clear {o : Nat} {h : am_H} (hs : am_Sh h) (ho : o ∈ am_rvL) {r : am_H} (hf : f_River_clear o h = some r) : am_Ct 1 M_River_clear [.ref o] h 0 0 (am_qV r) := by
  unfold f_River_clear at hf
  refine am_Ct.of (by decide) rfl (Nat.le_of_ble_eq_true rfl) (ls := [(0, .ref o)]) rfl ?_
  refine g_aload_n (i := 0) (by decide +kernel) rfl ?_
  refine g_iconst (z := 2) (v := 2) (by decide +kernel) rfl ?_
  refine x_puti hf hs (hs.k (k_Rv ho)) F_River_9 (by decide +kernel) rfl rfl rfl rfl (fun h1 hf hs => ?_)
  refine g_aload_n (i := 0) (by decide +kernel) rfl ?_
  refine g_iconst (z := 1) (v := 1) (by decide +kernel) rfl ?_
  refine x_puti hf hs (hs.k (k_Rv ho)) F_River_15 (by decide +kernel) rfl rfl rfl rfl (fun h2 hf hs => ?_)
  refine g_aload_n (i := 0) (by decide +kernel) rfl ?_
  refine g_iconst (z := 0) (v := 0) (by decide +kernel) rfl ?_
  refine x_puti hf hs (hs.k (k_Rv ho)) F_River_18 (by decide +kernel) rfl rfl rfl rfl (fun h3 hf hs => ?_)
  refine g_aload_n (i := 0) (by decide +kernel) rfl ?_
  refine g_iconst (z := 0) (v := 0) (by decide +kernel) rfl ?_
  refine x_puti hf hs (hs.k (k_Rv ho)) F_River_21 (by decide +kernel) rfl rfl rfl rfl (fun h4 hf hs => ?_)
  refine g_aload_n (i := 0) (by decide +kernel) rfl ?_
  refine g_iconst (z := 0) (v := 0) (by decide +kernel) rfl ?_
  refine x_puti hf hs (hs.k (k_Rv ho)) F_River_24 (by decide +kernel) rfl rfl rfl rfl (fun h5 hf hs => ?_)
  refine g_aload_n (i := 0) (by decide +kernel) rfl ?_
  refine g_iconst (z := 0) (v := 0) (by decide +kernel) rfl ?_
  refine x_puti hf hs (hs.k (k_Rv ho)) F_River_27 (by decide +kernel) rfl rfl rfl rfl (fun h6 hf hs => ?_)
  refine g_aload_n (i := 0) (by decide +kernel) rfl ?_
  refine x_getr (hs.k (k_Rv ho)) F_River_30 (by decide +kernel) rfl (hs.r (r_Rv_6 ho)) ?_
  refine g_iconst (z := 0) (v := 0) (by decide +kernel) rfl ?_
  refine x_callSV (as := [.ref (o + 1), .int (0 : Int32)]) St_Arrays_fill hf (fun q hq => t_Arrays_fill hs (k_Rv_6 ho) hq) Y_Arrays_fill L_River_55 (by decide +kernel) rfl rfl (Nat.le_of_ble_eq_true rfl) (by decide) (fun q7 hf hs => ?_)
  refine g_aload_n (i := 0) (by decide +kernel) rfl ?_
  refine x_getr (hs.k (k_Rv ho)) F_River_37 (by decide +kernel) rfl (hs.r (r_Rv_8 ho)) ?_
  refine g_iconst (z := 0) (v := 0) (by decide +kernel) rfl ?_
  refine x_callSV (as := [.ref (o + 3), .int (0 : Int32)]) St_Arrays_fill hf (fun q hq => t_Arrays_fill hs (k_Rv_8 ho) hq) Y_Arrays_fill L_River_55 (by decide +kernel) rfl rfl (Nat.le_of_ble_eq_true rfl) (by decide) (fun q8 hf hs => ?_)
  refine g_aload_n (i := 0) (by decide +kernel) rfl ?_
  refine x_getr (hs.k (k_Rv ho)) F_River_40 (by decide +kernel) rfl (hs.r (r_Rv_9 ho)) ?_
  refine g_iconst (z := (-1)) (v := (-1)) (by decide +kernel) rfl ?_
  refine x_callSV (as := [.ref (o + 4), .int (-1 : Int32)]) St_Arrays_fill hf (fun q hq => t_Arrays_fill hs (k_Rv_9 ho) hq) Y_Arrays_fill L_River_55 (by decide +kernel) rfl rfl (Nat.le_of_ble_eq_true rfl) (by decide) (fun q9 hf hs => ?_)
  refine g_aload_n (i := 0) (by decide +kernel) rfl ?_
  refine x_getr (hs.k (k_Rv ho)) F_River_43 (by decide +kernel) rfl (hs.r (r_Rv_10 ho)) ?_
  refine g_iconst (z := (-1)) (v := (-1)) (by decide +kernel) rfl ?_
  refine x_callSV (as := [.ref (o + 5), .int (-1 : Int32)]) St_Arrays_fill hf (fun q hq => t_Arrays_fill hs (k_Rv_10 ho) hq) Y_Arrays_fill L_River_55 (by decide +kernel) rfl rfl (Nat.le_of_ble_eq_true rfl) (by decide) (fun q10 hf hs => ?_)
  exact x_vret hf hs (by decide +kernel) rfl
def f_Law_clear (o : Nat) (h : am_H) : Option (am_H) :=
  am_let (am_sI h o 0 (0 : Int32)) fun h1 =>
  am_let (am_sI h1 o 1 (0 : Int32)) fun h2 =>
  some h2
set_option maxRecDepth 100000 in
set_option maxHeartbeats 4000000 in
theorem t_Law_clear {o : Nat} {h : am_H} (hs : am_Sh h) (ho : o ∈ am_lwL) {r : am_H} (hf : f_Law_clear o h = some r) : am_Ct 0 M_Law_clear [.ref o] h 0 0 (am_qV r) := by
  unfold f_Law_clear at hf
  refine am_Ct.of (by decide) rfl (Nat.le_of_ble_eq_true rfl) (ls := [(0, .ref o)]) rfl ?_
  refine g_aload_n (i := 0) (by decide +kernel) rfl ?_
  refine g_iconst (z := 0) (v := 0) (by decide +kernel) rfl ?_
  refine x_puti hf hs (hs.k (k_Lw ho)) F_Law_9 (by decide +kernel) rfl rfl rfl rfl (fun h1 hf hs => ?_)
  refine g_aload_n (i := 0) (by decide +kernel) rfl ?_
  refine g_iconst (z := 0) (v := 0) (by decide +kernel) rfl ?_
  refine x_puti hf hs (hs.k (k_Lw ho)) F_Law_15 (by decide +kernel) rfl rfl rfl rfl (fun h2 hf hs => ?_)
  exact x_vret hf hs (by decide +kernel) rfl
def f_Reader_kind  (h : am_H) : Option (Int32) :=
  (if (h.2.1 61 1) = 0 then
    (if (h.2.1 61 3) < (h.2.1 71 0) then
      (am_rd (h.2.1 72) 901 (h.2.1 61 3)).bind fun x3 =>
      some x3
    else
      some (-1 : Int32))
  else
    some (-1 : Int32))
set_option maxRecDepth 100000 in
set_option maxHeartbeats 4000000 in
theorem t_Reader_kind  {h : am_H} (hs : am_Sh h)  {r : Int32} (hf : f_Reader_kind  h = some r) : am_Ct 0 M_Reader_kind [.ref 61] h 0 0 (am_pI h r) := by
  unfold f_Reader_kind at hf
  refine am_Ct.of (by decide) rfl (Nat.le_of_ble_eq_true rfl) (ls := [(0, .ref 61)]) rfl ?_
  refine g_aload_n (i := 0) (by decide +kernel) rfl ?_
  refine x_geti (hs.k k_61) F_Reader_18 (by decide +kernel) rfl ?_
  refine x_if_ne (off := 17) (tgt := 21) hf (by decide +kernel) (by decide) (fun c1 hf => ?_) (fun c1 hf => ?_)
  · refine g_iconst (z := (-1)) (v := (-1)) (by decide +kernel) rfl ?_
    refine g_goto (off := 15) (tgt := 37) (by decide +kernel) (by decide) ?_
    exact x_iretp hf (by decide +kernel) rfl
  · refine g_aload_n (i := 0) (by decide +kernel) rfl ?_
    refine x_geti (hs.k k_61) F_Reader_25 (by decide +kernel) rfl ?_
    refine g_aload_n (i := 0) (by decide +kernel) rfl ?_
    refine x_getr (hs.k k_61) F_Reader_31 (by decide +kernel) rfl (hs.r r_61_4) ?_
    refine x_geti (hs.k k_71) F_Reader_164 (by decide +kernel) rfl ?_
    refine x_icmp_lt (off := 7) (tgt := 25) hf (by decide +kernel) (by decide) (fun c2 hf => ?_) (fun c2 hf => ?_)
    · refine g_aload_n (i := 0) (by decide +kernel) rfl ?_
      refine x_getr (hs.k k_61) F_Reader_31 (by decide +kernel) rfl (hs.r r_61_4) ?_
      refine x_getr (hs.k k_71) F_Reader_167 (by decide +kernel) rfl (hs.r r_71_1) ?_
      refine g_aload_n (i := 0) (by decide +kernel) rfl ?_
      refine x_geti (hs.k k_61) F_Reader_25 (by decide +kernel) rfl ?_
      refine x_iald hf (hs.k k_72) (by decide +kernel) (fun x3 hf => ?_)
      exact x_iretp hf (by decide +kernel) rfl
    · refine g_iconst (z := (-1)) (v := (-1)) (by decide +kernel) rfl ?_
      refine g_goto (off := 15) (tgt := 37) (by decide +kernel) (by decide) ?_
      exact x_iretp hf (by decide +kernel) rfl
def f_Reader_take (p1 : Int32) (h : am_H) : Option (Bool × am_H) :=
  (f_Reader_kind  h).bind fun q1 =>
  (if q1 = p1 then
    am_let (am_sI h 61 3 ((h.2.1 61 3) + (1 : Int32))) fun h3 =>
    some (true, h3)
  else
    some (false, h))
set_option maxRecDepth 100000 in
set_option maxHeartbeats 4000000 in
theorem t_Reader_take {p1 : Int32} {h : am_H} (hs : am_Sh h)  {r : Bool × am_H} (hf : f_Reader_take p1 h = some r) : am_Ct 1 M_Reader_take [.ref 61, .int p1] h 0 0 (am_qB r) := by
  unfold f_Reader_take at hf
  refine am_Ct.of (by decide) rfl (Nat.le_of_ble_eq_true rfl) (ls := [(0, .ref 61), (1, .int p1)]) rfl ?_
  refine g_aload_n (i := 0) (by decide +kernel) rfl ?_
  refine x_callVIp (as := []) Vi_Reader_kind Vs_Reader_kind (hs.k k_61) rfl hf (fun q hq => t_Reader_kind hs  hq) Y_Reader_kind L_Reader_59 (by decide +kernel) rfl rfl (Nat.le_of_ble_eq_true rfl) (by decide) (fun q1 hf => ?_)
  refine g_iload_n (i := 1) (by decide +kernel) rfl ?_
  refine x_icmp_eq (off := 5) (tgt := 10) hf (by decide +kernel) (by decide) (fun c2 hf => ?_) (fun c2 hf => ?_)
  · refine g_aload_n (i := 0) (by decide +kernel) rfl ?_
    refine g_dup (by decide +kernel) rfl ?_
    refine x_geti (hs.k k_61) F_Reader_25 (by decide +kernel) rfl ?_
    refine g_iconst (z := 1) (v := 1) (by decide +kernel) rfl ?_
    refine g_iadd (by decide +kernel) ?_
    refine x_puti hf hs (hs.k k_61) F_Reader_25 (by decide +kernel) rfl rfl rfl rfl (fun h3 hf hs => ?_)
    refine g_iconst (z := 1) (v := 1) (by decide +kernel) rfl ?_
    exact x_zret rfl hf hs (by decide +kernel) rfl
  · refine g_iconst (z := 0) (v := 0) (by decide +kernel) rfl ?_
    exact x_zret rfl hf hs (by decide +kernel) rfl
def f_Reader_blame (p1 : Int32) (h : am_H) : Option (am_H) :=
  (if (h.2.1 61 1) = 0 then
    (if (h.2.1 71 0) ≤ (h.2.1 61 3) then
      some h
    else
      (am_rd (h.2.1 72) 901 (h.2.1 61 3)).bind fun x3 =>
      am_let (am_sI h 61 1 (if x3 = (1 : Int32) then (1 : Int32) else p1)) fun h5 =>
      (am_rd (h5.2.1 73) 901 (h5.2.1 61 3)).bind fun x6 =>
      am_let (am_sI h5 61 2 x6) fun h7 =>
      some h7)
  else
    some h)
set_option maxRecDepth 100000 in
set_option maxHeartbeats 4000000 in
theorem t_Reader_blame {p1 : Int32} {h : am_H} (hs : am_Sh h)  {r : am_H} (hf : f_Reader_blame p1 h = some r) : am_Ct 0 M_Reader_blame [.ref 61, .int p1] h 0 0 (am_qV r) := by
  unfold f_Reader_blame at hf
  refine am_Ct.of (by decide) rfl (Nat.le_of_ble_eq_true rfl) (ls := [(0, .ref 61), (1, .int p1)]) rfl ?_
  refine g_aload_n (i := 0) (by decide +kernel) rfl ?_
  refine x_geti (hs.k k_61) F_Reader_18 (by decide +kernel) rfl ?_
  refine x_if_ne (off := 58) (tgt := 62) hf (by decide +kernel) (by decide) (fun c1 hf => ?_) (fun c1 hf => ?_)
  · exact x_vret hf hs (by decide +kernel) rfl
  · refine g_aload_n (i := 0) (by decide +kernel) rfl ?_
    refine x_geti (hs.k k_61) F_Reader_25 (by decide +kernel) rfl ?_
    refine g_aload_n (i := 0) (by decide +kernel) rfl ?_
    refine x_getr (hs.k k_61) F_Reader_31 (by decide +kernel) rfl (hs.r r_61_4) ?_
    refine x_geti (hs.k k_71) F_Reader_164 (by decide +kernel) rfl ?_
    refine x_icmp_ge (off := 44) (tgt := 62) hf (by decide +kernel) (by decide) (fun c2 hf => ?_) (fun c2 hf => ?_)
    · exact x_vret hf hs (by decide +kernel) rfl
    · refine g_aload_n (i := 0) (by decide +kernel) rfl ?_
      refine g_aload_n (i := 0) (by decide +kernel) rfl ?_
      refine x_getr (hs.k k_61) F_Reader_31 (by decide +kernel) rfl (hs.r r_61_4) ?_
      refine x_getr (hs.k k_71) F_Reader_167 (by decide +kernel) rfl (hs.r r_71_1) ?_
      refine g_aload_n (i := 0) (by decide +kernel) rfl ?_
      refine x_geti (hs.k k_61) F_Reader_25 (by decide +kernel) rfl ?_
      refine x_iald hf (hs.k k_72) (by decide +kernel) (fun x3 hf => ?_)
      refine g_iconst (z := 1) (v := 1) (by decide +kernel) rfl ?_
      refine am_cut (J := 43) (ls' := [(0, .ref 61), (1, .int p1)]) (st' := [.int (if x3 = (1 : Int32) then (1 : Int32) else p1), .ref 61]) ?_ (fun K43 => ?_)
      · refine x_puti hf hs (hs.k k_61) F_Reader_18 (by decide +kernel) rfl rfl rfl rfl (fun h5 hf hs => ?_)
        refine g_aload_n (i := 0) (by decide +kernel) rfl ?_
        refine g_aload_n (i := 0) (by decide +kernel) rfl ?_
        refine x_getr (hs.k k_61) F_Reader_31 (by decide +kernel) rfl (hs.r r_61_4) ?_
        refine x_getr (hs.k k_71) F_Reader_173 (by decide +kernel) rfl (hs.r r_71_2) ?_
        refine g_aload_n (i := 0) (by decide +kernel) rfl ?_
        refine x_geti (hs.k k_61) F_Reader_25 (by decide +kernel) rfl ?_
        refine x_iald hf (hs.k k_73) (by decide +kernel) (fun x6 hf => ?_)
        refine x_puti hf hs (hs.k k_61) F_Reader_22 (by decide +kernel) rfl rfl rfl rfl (fun h7 hf hs => ?_)
        exact x_vret hf hs (by decide +kernel) rfl
      refine p_icmp_ne (off := 7) (tgt := 42) (by decide +kernel) (by decide) (fun c4 => ?_) (fun c4 => ?_)
      · refine g_iload_n (i := 1) (by decide +kernel) rfl ?_
        have K1 := K43
        simp only [if_neg c4] at K1
        exact am_G.forget (am_subp [0, 1] rfl) K1
      · refine g_iconst (z := 1) (v := 1) (by decide +kernel) rfl ?_
        refine g_goto (off := 4) (tgt := 43) (by decide +kernel) (by decide) ?_
        have K1 := K43
        simp only [if_pos c4] at K1
        exact am_G.forget (am_subp [0, 1] rfl) K1
def f_Reader_expect (p1 : Int32) (h : am_H) : Option (am_H) :=
  (f_Reader_take p1 h).bind fun q1 =>
  (if q1.1 = true then
    some q1.2
  else
    (f_Reader_blame (2 : Int32) q1.2).bind fun q3 =>
    some q3)
set_option maxRecDepth 100000 in
set_option maxHeartbeats 4000000 in
theorem t_Reader_expect {p1 : Int32} {h : am_H} (hs : am_Sh h)  {r : am_H} (hf : f_Reader_expect p1 h = some r) : am_Ct 2 M_Reader_expect [.ref 61, .int p1] h 0 0 (am_qV r) := by
  unfold f_Reader_expect at hf
  refine am_Ct.of (by decide) rfl (Nat.le_of_ble_eq_true rfl) (ls := [(0, .ref 61), (1, .int p1)]) rfl ?_
  refine g_aload_n (i := 0) (by decide +kernel) rfl ?_
  refine g_iload_n (i := 1) (by decide +kernel) rfl ?_
  refine x_callVB (as := [.int p1]) Vi_Reader_take Vs_Reader_take (hs.k k_61) rfl hf (fun q hq => t_Reader_take hs  hq) Y_Reader_take L_Reader_112 (by decide +kernel) rfl rfl (Nat.le_of_ble_eq_true rfl) (by decide) (fun q1 hf hs => ?_)
  refine x_ifb_ne (off := 8) (tgt := 13) hf (by decide +kernel) (by decide) (fun c2 hf => ?_) (fun c2 hf => ?_)
  · exact x_vret hf hs (by decide +kernel) rfl
  · refine g_aload_n (i := 0) (by decide +kernel) rfl ?_
    refine g_iconst (z := 2) (v := 2) (by decide +kernel) rfl ?_
    refine x_callVV (as := [.int (2 : Int32)]) Vi_Reader_blame Vs_Reader_blame (hs.k k_61) rfl hf (fun q hq => t_Reader_blame hs  hq) Y_Reader_blame L_Reader_93 (by decide +kernel) rfl rfl (Nat.le_of_ble_eq_true rfl) (by decide) (fun q3 hf hs => ?_)
    exact x_vret hf hs (by decide +kernel) rfl
def f_Reader_readNumber (p1 : Int32) (p2 : Int32) (h : am_H) : Option (Int32 × am_H) :=
  (f_Reader_kind  h).bind fun q1 =>
  (if q1 = (2 : Int32) then
    (am_rd (h.2.1 74) 901 (h.2.1 61 3)).bind fun x3 =>
    (if x3 < p1 then
      (f_Reader_blame (3 : Int32) h).bind fun q5 =>
      some (p1, q5)
    else
      (if x3 ≤ p2 then
        am_let (am_sI h 61 3 ((h.2.1 61 3) + (1 : Int32))) fun h7 =>
        some (x3, h7)
      else
        (f_Reader_blame (3 : Int32) h).bind fun q8 =>
        some (p1, q8)))
  else
    (f_Reader_blame (2 : Int32) h).bind fun q9 =>
    some (p1, q9))
set_option maxRecDepth 100000 in
set_option maxHeartbeats 4000000 in
theorem t_Reader_readNumber {p1 : Int32} {p2 : Int32} {h : am_H} (hs : am_Sh h)  {r : Int32 × am_H} (hf : f_Reader_readNumber p1 p2 h = some r) : am_Ct 1 M_Reader_readNumber [.ref 61, .int p1, .int p2] h 0 0 (am_qI r) := by
  unfold f_Reader_readNumber at hf
  refine am_Ct.of (by decide) rfl (Nat.le_of_ble_eq_true rfl) (ls := [(0, .ref 61), (1, .int p1), (2, .int p2)]) rfl ?_
  refine g_aload_n (i := 0) (by decide +kernel) rfl ?_
  refine x_callVIp (as := []) Vi_Reader_kind Vs_Reader_kind (hs.k k_61) rfl hf (fun q hq => t_Reader_kind hs  hq) Y_Reader_kind L_Reader_59 (by decide +kernel) rfl rfl (Nat.le_of_ble_eq_true rfl) (by decide) (fun q1 hf => ?_)
  refine g_iconst (z := 2) (v := 2) (by decide +kernel) rfl ?_
  refine x_icmp_eq (off := 10) (tgt := 15) hf (by decide +kernel) (by decide) (fun c2 hf => ?_) (fun c2 hf => ?_)
  · refine g_aload_n (i := 0) (by decide +kernel) rfl ?_
    refine x_getr (hs.k k_61) F_Reader_31 (by decide +kernel) rfl (hs.r r_61_4) ?_
    refine x_getr (hs.k k_71) F_Reader_170 (by decide +kernel) rfl (hs.r r_71_3) ?_
    refine g_aload_n (i := 0) (by decide +kernel) rfl ?_
    refine x_geti (hs.k k_61) F_Reader_25 (by decide +kernel) rfl ?_
    refine x_iald hf (hs.k k_74) (by decide +kernel) (fun x3 hf => ?_)
    refine g_istore_n (i := 3) (by decide +kernel) rfl (by decide) (ls1 := [(0, .ref 61), (1, .int p1), (2, .int p2), (3, .int x3)]) rfl ?_
    refine g_iload_n (i := 3) (by decide +kernel) rfl ?_
    refine g_iload_n (i := 1) (by decide +kernel) rfl ?_
    refine x_icmp_lt (off := 8) (tgt := 38) hf (by decide +kernel) (by decide) (fun c4 hf => ?_) (fun c4 hf => ?_)
    · refine g_aload_n (i := 0) (by decide +kernel) rfl ?_
      refine g_iconst (z := 3) (v := 3) (by decide +kernel) rfl ?_
      refine x_callVV (as := [.int (3 : Int32)]) Vi_Reader_blame Vs_Reader_blame (hs.k k_61) rfl hf (fun q hq => t_Reader_blame hs  hq) Y_Reader_blame L_Reader_93 (by decide +kernel) rfl rfl (Nat.le_of_ble_eq_true rfl) (by decide) (fun q5 hf hs => ?_)
      refine g_iload_n (i := 1) (by decide +kernel) rfl ?_
      exact x_iret hf hs (by decide +kernel) rfl
    · refine g_iload_n (i := 3) (by decide +kernel) rfl ?_
      refine g_iload_n (i := 2) (by decide +kernel) rfl ?_
      refine x_icmp_le (off := 10) (tgt := 45) hf (by decide +kernel) (by decide) (fun c6 hf => ?_) (fun c6 hf => ?_)
      · refine g_aload_n (i := 0) (by decide +kernel) rfl ?_
        refine g_dup (by decide +kernel) rfl ?_
        refine x_geti (hs.k k_61) F_Reader_25 (by decide +kernel) rfl ?_
        refine g_iconst (z := 1) (v := 1) (by decide +kernel) rfl ?_
        refine g_iadd (by decide +kernel) ?_
        refine x_puti hf hs (hs.k k_61) F_Reader_25 (by decide +kernel) rfl rfl rfl rfl (fun h7 hf hs => ?_)
        refine g_iload_n (i := 3) (by decide +kernel) rfl ?_
        exact x_iret hf hs (by decide +kernel) rfl
      · refine g_aload_n (i := 0) (by decide +kernel) rfl ?_
        refine g_iconst (z := 3) (v := 3) (by decide +kernel) rfl ?_
        refine x_callVV (as := [.int (3 : Int32)]) Vi_Reader_blame Vs_Reader_blame (hs.k k_61) rfl hf (fun q hq => t_Reader_blame hs  hq) Y_Reader_blame L_Reader_93 (by decide +kernel) rfl rfl (Nat.le_of_ble_eq_true rfl) (by decide) (fun q8 hf hs => ?_)
        refine g_iload_n (i := 1) (by decide +kernel) rfl ?_
        exact x_iret hf hs (by decide +kernel) rfl
  · refine g_aload_n (i := 0) (by decide +kernel) rfl ?_
    refine g_iconst (z := 2) (v := 2) (by decide +kernel) rfl ?_
    refine x_callVV (as := [.int (2 : Int32)]) Vi_Reader_blame Vs_Reader_blame (hs.k k_61) rfl hf (fun q hq => t_Reader_blame hs  hq) Y_Reader_blame L_Reader_93 (by decide +kernel) rfl rfl (Nat.le_of_ble_eq_true rfl) (by decide) (fun q9 hf hs => ?_)
    refine g_iload_n (i := 1) (by decide +kernel) rfl ?_
    exact x_iret hf hs (by decide +kernel) rfl
def f_Reader_readHead  (h : am_H) : Option (am_H) :=
  (f_Reader_expect (101 : Int32) h).bind fun q1 =>
  (f_Reader_readNumber (2 : Int32) (4 : Int32) q1).bind fun q2 =>
  am_let (am_sI q2.2 62 0 q2.1) fun h3 =>
  (f_Reader_expect (102 : Int32) h3).bind fun q4 =>
  (f_Reader_readNumber (1 : Int32) (6 : Int32) q4).bind fun q5 =>
  am_let (am_sI q5.2 62 1 q5.1) fun h6 =>
  (f_Reader_expect (59 : Int32) h6).bind fun q7 =>
  am_let (am_sI q7 62 5 (1 : Int32)) fun h8 =>
  some h8
set_option maxRecDepth 100000 in
set_option maxHeartbeats 4000000 in
theorem t_Reader_readHead  {h : am_H} (hs : am_Sh h)  {r : am_H} (hf : f_Reader_readHead  h = some r) : am_Ct 3 M_Reader_readHead [.ref 61] h 0 0 (am_qV r) := by
  unfold f_Reader_readHead at hf
  refine am_Ct.of (by decide) rfl (Nat.le_of_ble_eq_true rfl) (ls := [(0, .ref 61)]) rfl ?_
  refine g_aload_n (i := 0) (by decide +kernel) rfl ?_
  refine g_bipush (z := 101) (v := 101) (by decide +kernel) rfl ?_
  refine x_callVV (as := [.int (101 : Int32)]) Vi_Reader_expect Vs_Reader_expect (hs.k k_61) rfl hf (fun q hq => t_Reader_expect hs  hq) Y_Reader_expect L_Reader_66 (by decide +kernel) rfl rfl (Nat.le_of_ble_eq_true rfl) (by decide) (fun q1 hf hs => ?_)
  refine g_aload_n (i := 0) (by decide +kernel) rfl ?_
  refine x_getr (hs.k k_61) F_Reader_12 (by decide +kernel) rfl (hs.r r_61_0) ?_
  refine g_aload_n (i := 0) (by decide +kernel) rfl ?_
  refine g_iconst (z := 2) (v := 2) (by decide +kernel) rfl ?_
  refine g_iconst (z := 4) (v := 4) (by decide +kernel) rfl ?_
  refine x_callVI (as := [.int (2 : Int32), .int (4 : Int32)]) Vi_Reader_readNumber Vs_Reader_readNumber (hs.k k_61) rfl hf (fun q hq => t_Reader_readNumber hs  hq) Y_Reader_readNumber L_Reader_77 (by decide +kernel) rfl rfl (Nat.le_of_ble_eq_true rfl) (by decide) (fun q2 hf hs => ?_)
  refine x_puti hf hs (hs.k k_62) F_Reader_81 (by decide +kernel) rfl rfl rfl rfl (fun h3 hf hs => ?_)
  refine g_aload_n (i := 0) (by decide +kernel) rfl ?_
  refine g_bipush (z := 102) (v := 102) (by decide +kernel) rfl ?_
  refine x_callVV (as := [.int (102 : Int32)]) Vi_Reader_expect Vs_Reader_expect (hs.k k_61) rfl hf (fun q hq => t_Reader_expect hs  hq) Y_Reader_expect L_Reader_66 (by decide +kernel) rfl rfl (Nat.le_of_ble_eq_true rfl) (by decide) (fun q4 hf hs => ?_)
  refine g_aload_n (i := 0) (by decide +kernel) rfl ?_
  refine x_getr (hs.k k_61) F_Reader_12 (by decide +kernel) rfl (hs.r r_61_0) ?_
  refine g_aload_n (i := 0) (by decide +kernel) rfl ?_
  refine g_iconst (z := 1) (v := 1) (by decide +kernel) rfl ?_
  refine g_bipush (z := 6) (v := 6) (by decide +kernel) rfl ?_
  refine x_callVI (as := [.int (1 : Int32), .int (6 : Int32)]) Vi_Reader_readNumber Vs_Reader_readNumber (hs.k k_61) rfl hf (fun q hq => t_Reader_readNumber hs  hq) Y_Reader_readNumber L_Reader_77 (by decide +kernel) rfl rfl (Nat.le_of_ble_eq_true rfl) (by decide) (fun q5 hf hs => ?_)
  refine x_puti hf hs (hs.k k_62) F_Reader_84 (by decide +kernel) rfl rfl rfl rfl (fun h6 hf hs => ?_)
  refine g_aload_n (i := 0) (by decide +kernel) rfl ?_
  refine g_bipush (z := 59) (v := 59) (by decide +kernel) rfl ?_
  refine x_callVV (as := [.int (59 : Int32)]) Vi_Reader_expect Vs_Reader_expect (hs.k k_61) rfl hf (fun q hq => t_Reader_expect hs  hq) Y_Reader_expect L_Reader_66 (by decide +kernel) rfl rfl (Nat.le_of_ble_eq_true rfl) (by decide) (fun q7 hf hs => ?_)
  refine g_aload_n (i := 0) (by decide +kernel) rfl ?_
  refine x_getr (hs.k k_61) F_Reader_12 (by decide +kernel) rfl (hs.r r_61_0) ?_
  refine g_iconst (z := 1) (v := 1) (by decide +kernel) rfl ?_
  refine x_puti hf hs (hs.k k_62) F_Reader_70 (by decide +kernel) rfl rfl rfl rfl (fun h8 hf hs => ?_)
  exact x_vret hf hs (by decide +kernel) rfl
def f_Reader_readSpan  (h : am_H) : Option (am_H) :=
  (f_Reader_readNumber (0 : Int32) ((h.2.1 62 1) - (1 : Int32)) h).bind fun q1 =>
  (f_Reader_take (105 : Int32) q1.2).bind fun q2 =>
  (if q2.1 = true then
    (am_wr q2.2 63 6 q1.1 (-1 : Int32)).bind fun h7 =>
    some h7
  else
    (f_Reader_expect (104 : Int32) q2.2).bind fun q4 =>
    (f_Reader_readNumber (0 : Int32) ((q4.2.1 62 0) - (1 : Int32)) q4).bind fun q5 =>
    (am_wr q5.2 63 6 q1.1 q5.1).bind fun h6 =>
    some h6)
set_option maxRecDepth 100000 in
set_option maxHeartbeats 4000000 in
theorem t_Reader_readSpan  {h : am_H} (hs : am_Sh h)  {r : am_H} (hf : f_Reader_readSpan  h = some r) : am_Ct 3 M_Reader_readSpan [.ref 61] h 0 0 (am_qV r) := by
  unfold f_Reader_readSpan at hf
  refine am_Ct.of (by decide) rfl (Nat.le_of_ble_eq_true rfl) (ls := [(0, .ref 61)]) rfl ?_
  refine g_aload_n (i := 0) (by decide +kernel) rfl ?_
  refine g_iconst (z := 0) (v := 0) (by decide +kernel) rfl ?_
  refine g_aload_n (i := 0) (by decide +kernel) rfl ?_
  refine x_getr (hs.k k_61) F_Reader_12 (by decide +kernel) rfl (hs.r r_61_0) ?_
  refine x_geti (hs.k k_62) F_Reader_84 (by decide +kernel) rfl ?_
  refine g_iconst (z := 1) (v := 1) (by decide +kernel) rfl ?_
  refine g_isub (by decide +kernel) ?_
  refine x_callVI (as := [.int (0 : Int32), .int ((h.2.1 62 1) - (1 : Int32))]) Vi_Reader_readNumber Vs_Reader_readNumber (hs.k k_61) rfl hf (fun q hq => t_Reader_readNumber hs  hq) Y_Reader_readNumber L_Reader_77 (by decide +kernel) rfl rfl (Nat.le_of_ble_eq_true rfl) (by decide) (fun q1 hf hs => ?_)
  refine g_istore_n (i := 1) (by decide +kernel) rfl (by decide) (ls1 := [(0, .ref 61), (1, .int q1.1)]) rfl ?_
  refine g_aload_n (i := 0) (by decide +kernel) rfl ?_
  refine g_bipush (z := 105) (v := 105) (by decide +kernel) rfl ?_
  refine x_callVB (as := [.int (105 : Int32)]) Vi_Reader_take Vs_Reader_take (hs.k k_61) rfl hf (fun q hq => t_Reader_take hs  hq) Y_Reader_take L_Reader_112 (by decide +kernel) rfl rfl (Nat.le_of_ble_eq_true rfl) (by decide) (fun q2 hf hs => ?_)
  refine x_ifb_eq (off := 14) (tgt := 35) hf (by decide +kernel) (by decide) (fun c3 hf => ?_) (fun c3 hf => ?_)
  · refine g_aload_n (i := 0) (by decide +kernel) rfl ?_
    refine g_bipush (z := 104) (v := 104) (by decide +kernel) rfl ?_
    refine x_callVV (as := [.int (104 : Int32)]) Vi_Reader_expect Vs_Reader_expect (hs.k k_61) rfl hf (fun q hq => t_Reader_expect hs  hq) Y_Reader_expect L_Reader_66 (by decide +kernel) rfl rfl (Nat.le_of_ble_eq_true rfl) (by decide) (fun q4 hf hs => ?_)
    refine g_aload_n (i := 0) (by decide +kernel) rfl ?_
    refine x_getr (hs.k k_61) F_Reader_12 (by decide +kernel) rfl (hs.r r_61_0) ?_
    refine x_getr (hs.k k_62) F_Reader_116 (by decide +kernel) rfl (hs.r r_62_6) ?_
    refine g_iload_n (i := 1) (by decide +kernel) rfl ?_
    refine g_aload_n (i := 0) (by decide +kernel) rfl ?_
    refine g_iconst (z := 0) (v := 0) (by decide +kernel) rfl ?_
    refine g_aload_n (i := 0) (by decide +kernel) rfl ?_
    refine x_getr (hs.k k_61) F_Reader_12 (by decide +kernel) rfl (hs.r r_61_0) ?_
    refine x_geti (hs.k k_62) F_Reader_81 (by decide +kernel) rfl ?_
    refine g_iconst (z := 1) (v := 1) (by decide +kernel) rfl ?_
    refine g_isub (by decide +kernel) ?_
    refine x_callVI (as := [.int (0 : Int32), .int ((q4.2.1 62 0) - (1 : Int32))]) Vi_Reader_readNumber Vs_Reader_readNumber (hs.k k_61) rfl hf (fun q hq => t_Reader_readNumber hs  hq) Y_Reader_readNumber L_Reader_77 (by decide +kernel) rfl rfl (Nat.le_of_ble_eq_true rfl) (by decide) (fun q5 hf hs => ?_)
    refine x_iast hf hs (hs.k k_63) (by decide +kernel) (fun h6 hf hs => ?_)
    exact x_vret hf hs (by decide +kernel) rfl
  · refine g_aload_n (i := 0) (by decide +kernel) rfl ?_
    refine x_getr (hs.k k_61) F_Reader_12 (by decide +kernel) rfl (hs.r r_61_0) ?_
    refine x_getr (hs.k k_62) F_Reader_116 (by decide +kernel) rfl (hs.r r_62_6) ?_
    refine g_iload_n (i := 1) (by decide +kernel) rfl ?_
    refine g_iconst (z := (-1)) (v := (-1)) (by decide +kernel) rfl ?_
    refine x_iast hf hs (hs.k k_63) (by decide +kernel) (fun h7 hf hs => ?_)
    exact x_vret hf hs (by decide +kernel) rfl
def f_Reader_readSpot  (h : am_H) : Option (Int32 × am_H) :=
  (f_Reader_readNumber (0 : Int32) ((h.2.1 62 0) - (1 : Int32)) h).bind fun q1 =>
  (f_Reader_take (107 : Int32) q1.2).bind fun q2 =>
  (if q2.1 = true then
    some (((2 : Int32) * q1.1), q2.2)
  else
    (f_Reader_expect (108 : Int32) q2.2).bind fun q4 =>
    some ((((2 : Int32) * q1.1) + (1 : Int32)), q4))
set_option maxRecDepth 100000 in
set_option maxHeartbeats 4000000 in
theorem t_Reader_readSpot  {h : am_H} (hs : am_Sh h)  {r : Int32 × am_H} (hf : f_Reader_readSpot  h = some r) : am_Ct 3 M_Reader_readSpot [.ref 61] h 0 0 (am_qI r) := by
  unfold f_Reader_readSpot at hf
  refine am_Ct.of (by decide) rfl (Nat.le_of_ble_eq_true rfl) (ls := [(0, .ref 61)]) rfl ?_
  refine g_aload_n (i := 0) (by decide +kernel) rfl ?_
  refine g_iconst (z := 0) (v := 0) (by decide +kernel) rfl ?_
  refine g_aload_n (i := 0) (by decide +kernel) rfl ?_
  refine x_getr (hs.k k_61) F_Reader_12 (by decide +kernel) rfl (hs.r r_61_0) ?_
  refine x_geti (hs.k k_62) F_Reader_81 (by decide +kernel) rfl ?_
  refine g_iconst (z := 1) (v := 1) (by decide +kernel) rfl ?_
  refine g_isub (by decide +kernel) ?_
  refine x_callVI (as := [.int (0 : Int32), .int ((h.2.1 62 0) - (1 : Int32))]) Vi_Reader_readNumber Vs_Reader_readNumber (hs.k k_61) rfl hf (fun q hq => t_Reader_readNumber hs  hq) Y_Reader_readNumber L_Reader_77 (by decide +kernel) rfl rfl (Nat.le_of_ble_eq_true rfl) (by decide) (fun q1 hf hs => ?_)
  refine g_istore_n (i := 1) (by decide +kernel) rfl (by decide) (ls1 := [(0, .ref 61), (1, .int q1.1)]) rfl ?_
  refine g_aload_n (i := 0) (by decide +kernel) rfl ?_
  refine g_bipush (z := 107) (v := 107) (by decide +kernel) rfl ?_
  refine x_callVB (as := [.int (107 : Int32)]) Vi_Reader_take Vs_Reader_take (hs.k k_61) rfl hf (fun q hq => t_Reader_take hs  hq) Y_Reader_take L_Reader_112 (by decide +kernel) rfl rfl (Nat.le_of_ble_eq_true rfl) (by decide) (fun q2 hf hs => ?_)
  refine x_ifb_eq (off := 7) (tgt := 28) hf (by decide +kernel) (by decide) (fun c3 hf => ?_) (fun c3 hf => ?_)
  · refine g_aload_n (i := 0) (by decide +kernel) rfl ?_
    refine g_bipush (z := 108) (v := 108) (by decide +kernel) rfl ?_
    refine x_callVV (as := [.int (108 : Int32)]) Vi_Reader_expect Vs_Reader_expect (hs.k k_61) rfl hf (fun q hq => t_Reader_expect hs  hq) Y_Reader_expect L_Reader_66 (by decide +kernel) rfl rfl (Nat.le_of_ble_eq_true rfl) (by decide) (fun q4 hf hs => ?_)
    refine g_iconst (z := 2) (v := 2) (by decide +kernel) rfl ?_
    refine g_iload_n (i := 1) (by decide +kernel) rfl ?_
    refine g_imul (by decide +kernel) ?_
    refine g_iconst (z := 1) (v := 1) (by decide +kernel) rfl ?_
    refine g_iadd (by decide +kernel) ?_
    exact x_iret hf hs (by decide +kernel) rfl
  · refine g_iconst (z := 2) (v := 2) (by decide +kernel) rfl ?_
    refine g_iload_n (i := 1) (by decide +kernel) rfl ?_
    refine g_imul (by decide +kernel) ?_
    exact x_iret hf hs (by decide +kernel) rfl
def f_Reader_readPerson_L39  : Nat → Int32 → Int32 → am_H → Option (Int32 × am_H)
  | 0, _, _, _ => none
  | n + 1, v1, v2, h =>
    (if (900 : Int32) ≤ v2 then
      some (v2, h)
    else
      (f_Reader_kind  h).bind fun q6 =>
      (if q6 = (109 : Int32) then
        (f_Reader_take (109 : Int32) h).bind fun q8 =>
        (if q8.1 = true then
          (f_Reader_readNumber (0 : Int32) (99 : Int32) q8.2).bind fun q16 =>
          (am_wr q16.2 65 5 v1 q16.1).bind fun h17 =>
          f_Reader_readPerson_L39  n v1 (v2 + (1 : Int32)) h17
        else
          (f_Reader_expect (110 : Int32) q8.2).bind fun q10 =>
          (f_Reader_readSpot  q10).bind fun q11 =>
          (am_wr q11.2 66 5 v1 q11.1).bind fun h12 =>
          (f_Reader_expect (111 : Int32) h12).bind fun q13 =>
          (f_Reader_readNumber (0 : Int32) (999 : Int32) q13).bind fun q14 =>
          (am_wr q14.2 67 5 v1 q14.1).bind fun h15 =>
          f_Reader_readPerson_L39  n v1 (v2 + (1 : Int32)) h15)
      else
        (f_Reader_kind  h).bind fun q18 =>
        (if q18 = (110 : Int32) then
          (f_Reader_take (109 : Int32) h).bind fun q20 =>
          (if q20.1 = true then
            (f_Reader_readNumber (0 : Int32) (99 : Int32) q20.2).bind fun q28 =>
            (am_wr q28.2 65 5 v1 q28.1).bind fun h29 =>
            f_Reader_readPerson_L39  n v1 (v2 + (1 : Int32)) h29
          else
            (f_Reader_expect (110 : Int32) q20.2).bind fun q22 =>
            (f_Reader_readSpot  q22).bind fun q23 =>
            (am_wr q23.2 66 5 v1 q23.1).bind fun h24 =>
            (f_Reader_expect (111 : Int32) h24).bind fun q25 =>
            (f_Reader_readNumber (0 : Int32) (999 : Int32) q25).bind fun q26 =>
            (am_wr q26.2 67 5 v1 q26.1).bind fun h27 =>
            f_Reader_readPerson_L39  n v1 (v2 + (1 : Int32)) h27)
        else
          some (v2, h))))
set_option maxRecDepth 100000 in
set_option maxHeartbeats 4000000 in
theorem t_Reader_readPerson_L39   {Q : Option Value → am_H → Prop} : ∀ (n : Nat) (v1 : Int32) (v2 : Int32) (h : am_H) (q : Int32 × am_H), am_Sh h → f_Reader_readPerson_L39  n v1 v2 h = some q → (am_Sh q.2 → am_G 4 M_Reader_readPerson 0 0 Q 140 [(0, .ref 61), (1, .int v1), (2, .int q.1)] [] q.2 0 0) → am_G 4 M_Reader_readPerson 0 0 Q 39 [(0, .ref 61), (1, .int v1), (2, .int v2)] [] h 0 0 := by
  intro n
  induction n with
  | zero =>
    intro v1 v2 h q hs hf kont
    rw [f_Reader_readPerson_L39] at hf
    cases hf
  | succ n ih =>
    intro v1 v2 h q hs hf kont
    rw [f_Reader_readPerson_L39] at hf
    refine g_iload_n (i := 2) (by decide +kernel) rfl ?_
    refine g_sipush (z := 900) (v := 900) (by decide +kernel) rfl ?_
    refine x_icmp_ge (off := 97) (tgt := 140) hf (by decide +kernel) (by decide) (fun c5 hf => ?_) (fun c5 hf => ?_)
    · cases hf
      exact am_G.forget (am_subp [0, 1, 2] rfl) (kont hs)
    · refine g_aload_n (i := 0) (by decide +kernel) rfl ?_
      refine x_callVIp (as := []) Vi_Reader_kind Vs_Reader_kind (hs.k k_61) rfl hf (fun q hq => t_Reader_kind hs  hq) Y_Reader_kind L_Reader_59 (by decide +kernel) rfl rfl (Nat.le_of_ble_eq_true rfl) (by decide) (fun q6 hf => ?_)
      refine g_bipush (z := 109) (v := 109) (by decide +kernel) rfl ?_
      refine x_icmp_eq (off := 12) (tgt := 64) hf (by decide +kernel) (by decide) (fun c7 hf => ?_) (fun c7 hf => ?_)
      · refine g_aload_n (i := 0) (by decide +kernel) rfl ?_
        refine g_bipush (z := 109) (v := 109) (by decide +kernel) rfl ?_
        refine x_callVB (as := [.int (109 : Int32)]) Vi_Reader_take Vs_Reader_take (hs.k k_61) rfl hf (fun q hq => t_Reader_take hs  hq) Y_Reader_take L_Reader_112 (by decide +kernel) rfl rfl (Nat.le_of_ble_eq_true rfl) (by decide) (fun q8 hf hs => ?_)
        refine x_ifb_eq (off := 22) (tgt := 92) hf (by decide +kernel) (by decide) (fun c9 hf => ?_) (fun c9 hf => ?_)
        · refine g_aload_n (i := 0) (by decide +kernel) rfl ?_
          refine g_bipush (z := 110) (v := 110) (by decide +kernel) rfl ?_
          refine x_callVV (as := [.int (110 : Int32)]) Vi_Reader_expect Vs_Reader_expect (hs.k k_61) rfl hf (fun q hq => t_Reader_expect hs  hq) Y_Reader_expect L_Reader_66 (by decide +kernel) rfl rfl (Nat.le_of_ble_eq_true rfl) (by decide) (fun q10 hf hs => ?_)
          refine g_aload_n (i := 0) (by decide +kernel) rfl ?_
          refine x_getr (hs.k k_61) F_Reader_12 (by decide +kernel) rfl (hs.r r_61_0) ?_
          refine x_getr (hs.k k_62) F_Reader_129 (by decide +kernel) rfl (hs.r r_62_9) ?_
          refine g_iload_n (i := 1) (by decide +kernel) rfl ?_
          refine g_aload_n (i := 0) (by decide +kernel) rfl ?_
          refine x_callVI (as := []) Vi_Reader_readSpot Vs_Reader_readSpot (hs.k k_61) rfl hf (fun q hq => t_Reader_readSpot hs  hq) Y_Reader_readSpot L_Reader_123 (by decide +kernel) rfl rfl (Nat.le_of_ble_eq_true rfl) (by decide) (fun q11 hf hs => ?_)
          refine x_iast hf hs (hs.k k_66) (by decide +kernel) (fun h12 hf hs => ?_)
          refine g_aload_n (i := 0) (by decide +kernel) rfl ?_
          refine g_bipush (z := 111) (v := 111) (by decide +kernel) rfl ?_
          refine x_callVV (as := [.int (111 : Int32)]) Vi_Reader_expect Vs_Reader_expect (hs.k k_61) rfl hf (fun q hq => t_Reader_expect hs  hq) Y_Reader_expect L_Reader_66 (by decide +kernel) rfl rfl (Nat.le_of_ble_eq_true rfl) (by decide) (fun q13 hf hs => ?_)
          refine g_aload_n (i := 0) (by decide +kernel) rfl ?_
          refine x_getr (hs.k k_61) F_Reader_12 (by decide +kernel) rfl (hs.r r_61_0) ?_
          refine x_getr (hs.k k_62) F_Reader_132 (by decide +kernel) rfl (hs.r r_62_10) ?_
          refine g_iload_n (i := 1) (by decide +kernel) rfl ?_
          refine g_aload_n (i := 0) (by decide +kernel) rfl ?_
          refine g_iconst (z := 0) (v := 0) (by decide +kernel) rfl ?_
          refine g_sipush (z := 999) (v := 999) (by decide +kernel) rfl ?_
          refine x_callVI (as := [.int (0 : Int32), .int (999 : Int32)]) Vi_Reader_readNumber Vs_Reader_readNumber (hs.k k_61) rfl hf (fun q hq => t_Reader_readNumber hs  hq) Y_Reader_readNumber L_Reader_77 (by decide +kernel) rfl rfl (Nat.le_of_ble_eq_true rfl) (by decide) (fun q14 hf hs => ?_)
          refine x_iast hf hs (hs.k k_67) (by decide +kernel) (fun h15 hf hs => ?_)
          refine g_iinc (i := 2) (z := 1) (v := (v2 + (1 : Int32))) (by decide +kernel) rfl rfl rfl (by decide) (ls1 := [(0, .ref 61), (1, .int v1), (2, .int (v2 + (1 : Int32)))]) rfl ?_
          refine g_goto (off := (-98)) (tgt := 39) (by decide +kernel) (by decide) ?_
          exact am_G.forget (am_subp [0, 1, 2] rfl) (ih _ _ _ _ hs hf kont)
        · refine g_aload_n (i := 0) (by decide +kernel) rfl ?_
          refine x_getr (hs.k k_61) F_Reader_12 (by decide +kernel) rfl (hs.r r_61_0) ?_
          refine x_getr (hs.k k_62) F_Reader_126 (by decide +kernel) rfl (hs.r r_62_8) ?_
          refine g_iload_n (i := 1) (by decide +kernel) rfl ?_
          refine g_aload_n (i := 0) (by decide +kernel) rfl ?_
          refine g_iconst (z := 0) (v := 0) (by decide +kernel) rfl ?_
          refine g_bipush (z := 99) (v := 99) (by decide +kernel) rfl ?_
          refine x_callVI (as := [.int (0 : Int32), .int (99 : Int32)]) Vi_Reader_readNumber Vs_Reader_readNumber (hs.k k_61) rfl hf (fun q hq => t_Reader_readNumber hs  hq) Y_Reader_readNumber L_Reader_77 (by decide +kernel) rfl rfl (Nat.le_of_ble_eq_true rfl) (by decide) (fun q16 hf hs => ?_)
          refine x_iast hf hs (hs.k k_65) (by decide +kernel) (fun h17 hf hs => ?_)
          refine g_goto (off := 45) (tgt := 134) (by decide +kernel) (by decide) ?_
          refine g_iinc (i := 2) (z := 1) (v := (v2 + (1 : Int32))) (by decide +kernel) rfl rfl rfl (by decide) (ls1 := [(0, .ref 61), (1, .int v1), (2, .int (v2 + (1 : Int32)))]) rfl ?_
          refine g_goto (off := (-98)) (tgt := 39) (by decide +kernel) (by decide) ?_
          exact am_G.forget (am_subp [0, 1, 2] rfl) (ih _ _ _ _ hs hf kont)
      · refine g_aload_n (i := 0) (by decide +kernel) rfl ?_
        refine x_callVIp (as := []) Vi_Reader_kind Vs_Reader_kind (hs.k k_61) rfl hf (fun q hq => t_Reader_kind hs  hq) Y_Reader_kind L_Reader_59 (by decide +kernel) rfl rfl (Nat.le_of_ble_eq_true rfl) (by decide) (fun q18 hf => ?_)
        refine g_bipush (z := 110) (v := 110) (by decide +kernel) rfl ?_
        refine x_icmp_ne (off := 79) (tgt := 140) hf (by decide +kernel) (by decide) (fun c19 hf => ?_) (fun c19 hf => ?_)
        · cases hf
          exact am_G.forget (am_subp [0, 1, 2] rfl) (kont hs)
        · refine g_aload_n (i := 0) (by decide +kernel) rfl ?_
          refine g_bipush (z := 109) (v := 109) (by decide +kernel) rfl ?_
          refine x_callVB (as := [.int (109 : Int32)]) Vi_Reader_take Vs_Reader_take (hs.k k_61) rfl hf (fun q hq => t_Reader_take hs  hq) Y_Reader_take L_Reader_112 (by decide +kernel) rfl rfl (Nat.le_of_ble_eq_true rfl) (by decide) (fun q20 hf hs => ?_)
          refine x_ifb_eq (off := 22) (tgt := 92) hf (by decide +kernel) (by decide) (fun c21 hf => ?_) (fun c21 hf => ?_)
          · refine g_aload_n (i := 0) (by decide +kernel) rfl ?_
            refine g_bipush (z := 110) (v := 110) (by decide +kernel) rfl ?_
            refine x_callVV (as := [.int (110 : Int32)]) Vi_Reader_expect Vs_Reader_expect (hs.k k_61) rfl hf (fun q hq => t_Reader_expect hs  hq) Y_Reader_expect L_Reader_66 (by decide +kernel) rfl rfl (Nat.le_of_ble_eq_true rfl) (by decide) (fun q22 hf hs => ?_)
            refine g_aload_n (i := 0) (by decide +kernel) rfl ?_
            refine x_getr (hs.k k_61) F_Reader_12 (by decide +kernel) rfl (hs.r r_61_0) ?_
            refine x_getr (hs.k k_62) F_Reader_129 (by decide +kernel) rfl (hs.r r_62_9) ?_
            refine g_iload_n (i := 1) (by decide +kernel) rfl ?_
            refine g_aload_n (i := 0) (by decide +kernel) rfl ?_
            refine x_callVI (as := []) Vi_Reader_readSpot Vs_Reader_readSpot (hs.k k_61) rfl hf (fun q hq => t_Reader_readSpot hs  hq) Y_Reader_readSpot L_Reader_123 (by decide +kernel) rfl rfl (Nat.le_of_ble_eq_true rfl) (by decide) (fun q23 hf hs => ?_)
            refine x_iast hf hs (hs.k k_66) (by decide +kernel) (fun h24 hf hs => ?_)
            refine g_aload_n (i := 0) (by decide +kernel) rfl ?_
            refine g_bipush (z := 111) (v := 111) (by decide +kernel) rfl ?_
            refine x_callVV (as := [.int (111 : Int32)]) Vi_Reader_expect Vs_Reader_expect (hs.k k_61) rfl hf (fun q hq => t_Reader_expect hs  hq) Y_Reader_expect L_Reader_66 (by decide +kernel) rfl rfl (Nat.le_of_ble_eq_true rfl) (by decide) (fun q25 hf hs => ?_)
            refine g_aload_n (i := 0) (by decide +kernel) rfl ?_
            refine x_getr (hs.k k_61) F_Reader_12 (by decide +kernel) rfl (hs.r r_61_0) ?_
            refine x_getr (hs.k k_62) F_Reader_132 (by decide +kernel) rfl (hs.r r_62_10) ?_
            refine g_iload_n (i := 1) (by decide +kernel) rfl ?_
            refine g_aload_n (i := 0) (by decide +kernel) rfl ?_
            refine g_iconst (z := 0) (v := 0) (by decide +kernel) rfl ?_
            refine g_sipush (z := 999) (v := 999) (by decide +kernel) rfl ?_
            refine x_callVI (as := [.int (0 : Int32), .int (999 : Int32)]) Vi_Reader_readNumber Vs_Reader_readNumber (hs.k k_61) rfl hf (fun q hq => t_Reader_readNumber hs  hq) Y_Reader_readNumber L_Reader_77 (by decide +kernel) rfl rfl (Nat.le_of_ble_eq_true rfl) (by decide) (fun q26 hf hs => ?_)
            refine x_iast hf hs (hs.k k_67) (by decide +kernel) (fun h27 hf hs => ?_)
            refine g_iinc (i := 2) (z := 1) (v := (v2 + (1 : Int32))) (by decide +kernel) rfl rfl rfl (by decide) (ls1 := [(0, .ref 61), (1, .int v1), (2, .int (v2 + (1 : Int32)))]) rfl ?_
            refine g_goto (off := (-98)) (tgt := 39) (by decide +kernel) (by decide) ?_
            exact am_G.forget (am_subp [0, 1, 2] rfl) (ih _ _ _ _ hs hf kont)
          · refine g_aload_n (i := 0) (by decide +kernel) rfl ?_
            refine x_getr (hs.k k_61) F_Reader_12 (by decide +kernel) rfl (hs.r r_61_0) ?_
            refine x_getr (hs.k k_62) F_Reader_126 (by decide +kernel) rfl (hs.r r_62_8) ?_
            refine g_iload_n (i := 1) (by decide +kernel) rfl ?_
            refine g_aload_n (i := 0) (by decide +kernel) rfl ?_
            refine g_iconst (z := 0) (v := 0) (by decide +kernel) rfl ?_
            refine g_bipush (z := 99) (v := 99) (by decide +kernel) rfl ?_
            refine x_callVI (as := [.int (0 : Int32), .int (99 : Int32)]) Vi_Reader_readNumber Vs_Reader_readNumber (hs.k k_61) rfl hf (fun q hq => t_Reader_readNumber hs  hq) Y_Reader_readNumber L_Reader_77 (by decide +kernel) rfl rfl (Nat.le_of_ble_eq_true rfl) (by decide) (fun q28 hf hs => ?_)
            refine x_iast hf hs (hs.k k_65) (by decide +kernel) (fun h29 hf hs => ?_)
            refine g_goto (off := 45) (tgt := 134) (by decide +kernel) (by decide) ?_
            refine g_iinc (i := 2) (z := 1) (v := (v2 + (1 : Int32))) (by decide +kernel) rfl rfl rfl (by decide) (ls1 := [(0, .ref 61), (1, .int v1), (2, .int (v2 + (1 : Int32)))]) rfl ?_
            refine g_goto (off := (-98)) (tgt := 39) (by decide +kernel) (by decide) ?_
            exact am_G.forget (am_subp [0, 1, 2] rfl) (ih _ _ _ _ hs hf kont)
def f_Reader_readPerson  (h : am_H) : Option (am_H) :=
  am_let (am_sI h 62 2 ((h.2.1 62 2) + (1 : Int32))) fun h1 =>
  (f_Reader_expect (104 : Int32) h1).bind fun q2 =>
  (f_Reader_readSpot  q2).bind fun q3 =>
  (am_wr q3.2 64 5 (h.2.1 62 2) q3.1).bind fun h4 =>
  (f_Reader_readPerson_L39  am_fu (h.2.1 62 2) (0 : Int32) h4).bind fun q30 =>
  some q30.2
set_option maxRecDepth 100000 in
set_option maxHeartbeats 4000000 in
theorem t_Reader_readPerson  {h : am_H} (hs : am_Sh h)  {r : am_H} (hf : f_Reader_readPerson  h = some r) : am_Ct 4 M_Reader_readPerson [.ref 61] h 0 0 (am_qV r) := by
  unfold f_Reader_readPerson at hf
  refine am_Ct.of (by decide) rfl (Nat.le_of_ble_eq_true rfl) (ls := [(0, .ref 61)]) rfl ?_
  refine g_aload_n (i := 0) (by decide +kernel) rfl ?_
  refine x_getr (hs.k k_61) F_Reader_12 (by decide +kernel) rfl (hs.r r_61_0) ?_
  refine x_geti (hs.k k_62) F_Reader_90 (by decide +kernel) rfl ?_
  refine g_istore_n (i := 1) (by decide +kernel) rfl (by decide) (ls1 := [(0, .ref 61), (1, .int (h.2.1 62 2))]) rfl ?_
  refine g_aload_n (i := 0) (by decide +kernel) rfl ?_
  refine x_getr (hs.k k_61) F_Reader_12 (by decide +kernel) rfl (hs.r r_61_0) ?_
  refine g_iload_n (i := 1) (by decide +kernel) rfl ?_
  refine g_iconst (z := 1) (v := 1) (by decide +kernel) rfl ?_
  refine g_iadd (by decide +kernel) ?_
  refine x_puti hf hs (hs.k k_62) F_Reader_90 (by decide +kernel) rfl rfl rfl rfl (fun h1 hf hs => ?_)
  refine g_aload_n (i := 0) (by decide +kernel) rfl ?_
  refine g_bipush (z := 104) (v := 104) (by decide +kernel) rfl ?_
  refine x_callVV (as := [.int (104 : Int32)]) Vi_Reader_expect Vs_Reader_expect (hs.k k_61) rfl hf (fun q hq => t_Reader_expect hs  hq) Y_Reader_expect L_Reader_66 (by decide +kernel) rfl rfl (Nat.le_of_ble_eq_true rfl) (by decide) (fun q2 hf hs => ?_)
  refine g_aload_n (i := 0) (by decide +kernel) rfl ?_
  refine x_getr (hs.k k_61) F_Reader_12 (by decide +kernel) rfl (hs.r r_61_0) ?_
  refine x_getr (hs.k k_62) F_Reader_120 (by decide +kernel) rfl (hs.r r_62_7) ?_
  refine g_iload_n (i := 1) (by decide +kernel) rfl ?_
  refine g_aload_n (i := 0) (by decide +kernel) rfl ?_
  refine x_callVI (as := []) Vi_Reader_readSpot Vs_Reader_readSpot (hs.k k_61) rfl hf (fun q hq => t_Reader_readSpot hs  hq) Y_Reader_readSpot L_Reader_123 (by decide +kernel) rfl rfl (Nat.le_of_ble_eq_true rfl) (by decide) (fun q3 hf hs => ?_)
  refine x_iast hf hs (hs.k k_64) (by decide +kernel) (fun h4 hf hs => ?_)
  refine g_iconst (z := 0) (v := 0) (by decide +kernel) rfl ?_
  refine g_istore_n (i := 2) (by decide +kernel) rfl (by decide) (ls1 := [(0, .ref 61), (1, .int (h.2.1 62 2)), (2, .int (0 : Int32))]) rfl ?_
  obtain ⟨q30, hqq30, hf⟩ := Option.bind_eq_some_iff.mp hf
  refine t_Reader_readPerson_L39  am_fu _ _ _ q30 hs hqq30 (fun hs => ?_)
  exact x_vret hf hs (by decide +kernel) rfl
def f_Reader_beginLaw (p1 : Nat) (h : am_H) : Option (am_H) :=
  am_let (am_sR h 61 7 (some p1)) fun h1 =>
  (f_Law_clear (am_rf h1 61 7) h1).bind fun q3 =>
  am_let (am_sI q3 (am_rf q3 61 7) 0 (1 : Int32)) fun h5 =>
  am_let (am_sI h5 61 3 ((h5.2.1 61 3) + (1 : Int32))) fun h6 =>
  (f_Reader_expect (58 : Int32) h6).bind fun q7 =>
  some q7
set_option maxRecDepth 100000 in
set_option maxHeartbeats 4000000 in
theorem t_Reader_beginLaw {p1 : Nat} {h : am_H} (hs : am_Sh h) (hp1 : p1 ∈ am_lwL) {r : am_H} (hf : f_Reader_beginLaw p1 h = some r) : am_Ct 3 M_Reader_beginLaw [.ref 61, .ref p1] h 0 0 (am_qV r) := by
  unfold f_Reader_beginLaw at hf
  refine am_Ct.of (by decide) rfl (Nat.le_of_ble_eq_true rfl) (ls := [(0, .ref 61), (1, .ref p1)]) rfl ?_
  refine g_aload_n (i := 0) (by decide +kernel) rfl ?_
  refine g_aload_n (i := 1) (by decide +kernel) rfl ?_
  refine x_putr hf (hs.p_law hp1) (hs.k k_61) F_Reader_45 (by decide +kernel) rfl rfl (fun h1 hf hs => ?_)
  refine g_aload_n (i := 0) (by decide +kernel) rfl ?_
  have hm2 := hs.law.2
  refine x_getr (hs.k k_61) F_Reader_45 (by decide +kernel) rfl hs.law.1 ?_
  refine x_callVV (as := []) Vi_Law_clear Vs_Law_clear (hs.k (k_Lw hm2)) rfl hf (fun q hq => t_Law_clear hs hm2 hq) Y_Law_clear L_Reader_55 (by decide +kernel) rfl rfl (Nat.le_of_ble_eq_true rfl) (by decide) (fun q3 hf hs => ?_)
  refine g_aload_n (i := 0) (by decide +kernel) rfl ?_
  have hm4 := hs.law.2
  refine x_getr (hs.k k_61) F_Reader_45 (by decide +kernel) rfl hs.law.1 ?_
  refine g_iconst (z := 1) (v := 1) (by decide +kernel) rfl ?_
  refine x_puti hf hs (hs.k (k_Lw hm4)) F_Reader_135 (by decide +kernel) rfl rfl rfl rfl (fun h5 hf hs => ?_)
  refine g_aload_n (i := 0) (by decide +kernel) rfl ?_
  refine g_dup (by decide +kernel) rfl ?_
  refine x_geti (hs.k k_61) F_Reader_25 (by decide +kernel) rfl ?_
  refine g_iconst (z := 1) (v := 1) (by decide +kernel) rfl ?_
  refine g_iadd (by decide +kernel) ?_
  refine x_puti hf hs (hs.k k_61) F_Reader_25 (by decide +kernel) rfl rfl rfl rfl (fun h6 hf hs => ?_)
  refine g_aload_n (i := 0) (by decide +kernel) rfl ?_
  refine g_bipush (z := 58) (v := 58) (by decide +kernel) rfl ?_
  refine x_callVV (as := [.int (58 : Int32)]) Vi_Reader_expect Vs_Reader_expect (hs.k k_61) rfl hf (fun q hq => t_Reader_expect hs  hq) Y_Reader_expect L_Reader_66 (by decide +kernel) rfl rfl (Nat.le_of_ble_eq_true rfl) (by decide) (fun q7 hf hs => ?_)
  exact x_vret hf hs (by decide +kernel) rfl
def f_Law_put (o : Nat) (p1 : Int32) (h : am_H) : Option (am_H) :=
  (if (Int32.ofNat 900) ≤ (h.2.1 o 1) then
    some h
  else
    (am_wr h (o + 1) 900 (h.2.1 o 1) p1).bind fun h2 =>
    am_let (am_sI h2 o 1 ((h2.2.1 o 1) + (1 : Int32))) fun h3 =>
    some h3)
set_option maxRecDepth 100000 in
set_option maxHeartbeats 4000000 in
theorem t_Law_put {o : Nat} {p1 : Int32} {h : am_H} (hs : am_Sh h) (ho : o ∈ am_lwL) {r : am_H} (hf : f_Law_put o p1 h = some r) : am_Ct 0 M_Law_put [.ref o, .int p1] h 0 0 (am_qV r) := by
  unfold f_Law_put at hf
  refine am_Ct.of (by decide) rfl (Nat.le_of_ble_eq_true rfl) (ls := [(0, .ref o), (1, .int p1)]) rfl ?_
  refine g_aload_n (i := 0) (by decide +kernel) rfl ?_
  refine x_geti (hs.k (k_Lw ho)) F_Law_15 (by decide +kernel) rfl ?_
  refine g_aload_n (i := 0) (by decide +kernel) rfl ?_
  refine x_getr (hs.k (k_Lw ho)) F_Law_19 (by decide +kernel) rfl (hs.r (r_Lw_2 ho)) ?_
  refine g_alen (t0 := 0) (hs.k (k_Lw_2 ho)) rfl rfl (by decide +kernel) ?_
  refine x_icmp_ge (off := 23) (tgt := 32) hf (by decide +kernel) (by decide) (fun c1 hf => ?_) (fun c1 hf => ?_)
  · exact x_vret hf hs (by decide +kernel) rfl
  · refine g_aload_n (i := 0) (by decide +kernel) rfl ?_
    refine x_getr (hs.k (k_Lw ho)) F_Law_19 (by decide +kernel) rfl (hs.r (r_Lw_2 ho)) ?_
    refine g_aload_n (i := 0) (by decide +kernel) rfl ?_
    refine x_geti (hs.k (k_Lw ho)) F_Law_15 (by decide +kernel) rfl ?_
    refine g_iload_n (i := 1) (by decide +kernel) rfl ?_
    refine x_iast hf hs (hs.k (k_Lw_2 ho)) (by decide +kernel) (fun h2 hf hs => ?_)
    refine g_aload_n (i := 0) (by decide +kernel) rfl ?_
    refine g_dup (by decide +kernel) rfl ?_
    refine x_geti (hs.k (k_Lw ho)) F_Law_15 (by decide +kernel) rfl ?_
    refine g_iconst (z := 1) (v := 1) (by decide +kernel) rfl ?_
    refine g_iadd (by decide +kernel) ?_
    refine x_puti hf hs (hs.k (k_Lw ho)) F_Law_15 (by decide +kernel) rfl rfl rfl rfl (fun h3 hf hs => ?_)
    exact x_vret hf hs (by decide +kernel) rfl
def f_Reader_comparing  (h : am_H) : Option (Int32 × am_H) :=
  (f_Reader_kind  h).bind fun q1 =>
  (if q1 = (60 : Int32) then
    some ((2004 : Int32), h)
  else if q1 = (61 : Int32) then
    some ((2003 : Int32), h)
  else if q1 = (62 : Int32) then
    some ((2005 : Int32), h)
  else 
    (f_Reader_blame (2 : Int32) h).bind fun q2 =>
    some ((2003 : Int32), q2))
set_option maxRecDepth 100000 in
set_option maxHeartbeats 4000000 in
theorem t_Reader_comparing  {h : am_H} (hs : am_Sh h)  {r : Int32 × am_H} (hf : f_Reader_comparing  h = some r) : am_Ct 1 M_Reader_comparing [.ref 61] h 0 0 (am_qI r) := by
  unfold f_Reader_comparing at hf
  refine am_Ct.of (by decide) rfl (Nat.le_of_ble_eq_true rfl) (ls := [(0, .ref 61)]) rfl ?_
  refine g_aload_n (i := 0) (by decide +kernel) rfl ?_
  refine x_callVIp (as := []) Vi_Reader_kind Vs_Reader_kind (hs.k k_61) rfl hf (fun q hq => t_Reader_kind hs  hq) Y_Reader_kind L_Reader_59 (by decide +kernel) rfl rfl (Nat.le_of_ble_eq_true rfl) (by decide) (fun q1 hf => ?_)
  by_cases e0 : q1 = (60 : Int32)
  · rw [if_pos e0] at hf
    have ex : Int32.toInt q1 = 60 := by rw [e0]; rfl
    refine x_tabIn (dflt := 40) (lo := 60) (hi := 62) (offs := #[32, 28, 36]) (len := 28) (off := 32) (tgt := 36) (by decide +kernel) (by rw [ex]; decide) (by rw [ex]; decide) (by rw [ex]; rfl) (by decide) ?_
    refine g_sipush (z := 2004) (v := 2004) (by decide +kernel) rfl ?_
    exact x_iret hf hs (by decide +kernel) rfl
  · rw [if_neg e0] at hf
    by_cases e1 : q1 = (61 : Int32)
    · rw [if_pos e1] at hf
      have ex : Int32.toInt q1 = 61 := by rw [e1]; rfl
      refine x_tabIn (dflt := 40) (lo := 60) (hi := 62) (offs := #[32, 28, 36]) (len := 28) (off := 28) (tgt := 32) (by decide +kernel) (by rw [ex]; decide) (by rw [ex]; decide) (by rw [ex]; rfl) (by decide) ?_
      refine g_sipush (z := 2003) (v := 2003) (by decide +kernel) rfl ?_
      exact x_iret hf hs (by decide +kernel) rfl
    · rw [if_neg e1] at hf
      by_cases e2 : q1 = (62 : Int32)
      · rw [if_pos e2] at hf
        have ex : Int32.toInt q1 = 62 := by rw [e2]; rfl
        refine x_tabIn (dflt := 40) (lo := 60) (hi := 62) (offs := #[32, 28, 36]) (len := 28) (off := 36) (tgt := 40) (by decide +kernel) (by rw [ex]; decide) (by rw [ex]; decide) (by rw [ex]; rfl) (by decide) ?_
        refine g_sipush (z := 2005) (v := 2005) (by decide +kernel) rfl ?_
        exact x_iret hf hs (by decide +kernel) rfl
      · rw [if_neg e2] at hf
        refine x_tabOut (dflt := 40) (lo := 60) (hi := 62) (offs := #[32, 28, 36]) (len := 28) (tgt := 44) (by decide +kernel) (am_tabNe ⟨by decide, by decide⟩ (fun z hz => ?_)) (by decide) ?_
        · have hz : z < 3 := hz
          have : z = 0 ∨ z = 1 ∨ z = 2 := by omega
          rcases this with rfl | rfl | rfl
          · exact e0
          · exact e1
          · exact e2
        · refine g_aload_n (i := 0) (by decide +kernel) rfl ?_
          refine g_iconst (z := 2) (v := 2) (by decide +kernel) rfl ?_
          refine x_callVV (as := [.int (2 : Int32)]) Vi_Reader_blame Vs_Reader_blame (hs.k k_61) rfl hf (fun q hq => t_Reader_blame hs  hq) Y_Reader_blame L_Reader_93 (by decide +kernel) rfl rfl (Nat.le_of_ble_eq_true rfl) (by decide) (fun q2 hf hs => ?_)
          refine g_sipush (z := 2003) (v := 2003) (by decide +kernel) rfl ?_
          exact x_iret hf hs (by decide +kernel) rfl
def f_Reader_askedBy (p1 : Int32) (h : am_H) : Option (Int32) :=
  (if p1 = (109 : Int32) then
    some (3 : Int32)
  else if p1 = (110 : Int32) then
    some (-1 : Int32)
  else if p1 = (111 : Int32) then
    some (-1 : Int32)
  else if p1 = (112 : Int32) then
    some (-1 : Int32)
  else if p1 = (113 : Int32) then
    some (-1 : Int32)
  else if p1 = (114 : Int32) then
    some (-1 : Int32)
  else if p1 = (115 : Int32) then
    some (1 : Int32)
  else if p1 = (116 : Int32) then
    some (-1 : Int32)
  else if p1 = (117 : Int32) then
    some (-1 : Int32)
  else if p1 = (118 : Int32) then
    some (-1 : Int32)
  else if p1 = (119 : Int32) then
    some (0 : Int32)
  else if p1 = (120 : Int32) then
    some (2 : Int32)
  else if p1 = (121 : Int32) then
    some (4 : Int32)
  else if p1 = (122 : Int32) then
    (if (am_rf h 61 7) = 75 then
      some (5 : Int32)
    else
      some (-1 : Int32))
  else 
    some (-1 : Int32))
set_option maxRecDepth 100000 in
set_option maxHeartbeats 4000000 in
theorem t_Reader_askedBy {p1 : Int32} {h : am_H} (hs : am_Sh h)  {r : Int32} (hf : f_Reader_askedBy p1 h = some r) : am_Ct 0 M_Reader_askedBy [.ref 61, .int p1] h 0 0 (am_pI h r) := by
  unfold f_Reader_askedBy at hf
  refine am_Ct.of (by decide) rfl (Nat.le_of_ble_eq_true rfl) (ls := [(0, .ref 61), (1, .int p1)]) rfl ?_
  refine g_iload_n (i := 1) (by decide +kernel) rfl ?_
  by_cases e0 : p1 = (109 : Int32)
  · rw [if_pos e0] at hf
    have ex : Int32.toInt p1 = 109 := by rw [e0]; rfl
    refine x_tabIn (dflt := 98) (lo := 109) (hi := 122) (offs := #[77, 98, 98, 98, 98, 98, 73, 98, 98, 98, 71, 75, 79, 81]) (len := 71) (off := 77) (tgt := 78) (by decide +kernel) (by rw [ex]; decide) (by rw [ex]; decide) (by rw [ex]; rfl) (by decide) ?_
    refine g_iconst (z := 3) (v := 3) (by decide +kernel) rfl ?_
    exact x_iretp hf (by decide +kernel) rfl
  · rw [if_neg e0] at hf
    by_cases e1 : p1 = (110 : Int32)
    · rw [if_pos e1] at hf
      have ex : Int32.toInt p1 = 110 := by rw [e1]; rfl
      refine x_tabIn (dflt := 98) (lo := 109) (hi := 122) (offs := #[77, 98, 98, 98, 98, 98, 73, 98, 98, 98, 71, 75, 79, 81]) (len := 71) (off := 98) (tgt := 99) (by decide +kernel) (by rw [ex]; decide) (by rw [ex]; decide) (by rw [ex]; rfl) (by decide) ?_
      refine g_iconst (z := (-1)) (v := (-1)) (by decide +kernel) rfl ?_
      exact x_iretp hf (by decide +kernel) rfl
    · rw [if_neg e1] at hf
      by_cases e2 : p1 = (111 : Int32)
      · rw [if_pos e2] at hf
        have ex : Int32.toInt p1 = 111 := by rw [e2]; rfl
        refine x_tabIn (dflt := 98) (lo := 109) (hi := 122) (offs := #[77, 98, 98, 98, 98, 98, 73, 98, 98, 98, 71, 75, 79, 81]) (len := 71) (off := 98) (tgt := 99) (by decide +kernel) (by rw [ex]; decide) (by rw [ex]; decide) (by rw [ex]; rfl) (by decide) ?_
        refine g_iconst (z := (-1)) (v := (-1)) (by decide +kernel) rfl ?_
        exact x_iretp hf (by decide +kernel) rfl
      · rw [if_neg e2] at hf
        by_cases e3 : p1 = (112 : Int32)
        · rw [if_pos e3] at hf
          have ex : Int32.toInt p1 = 112 := by rw [e3]; rfl
          refine x_tabIn (dflt := 98) (lo := 109) (hi := 122) (offs := #[77, 98, 98, 98, 98, 98, 73, 98, 98, 98, 71, 75, 79, 81]) (len := 71) (off := 98) (tgt := 99) (by decide +kernel) (by rw [ex]; decide) (by rw [ex]; decide) (by rw [ex]; rfl) (by decide) ?_
          refine g_iconst (z := (-1)) (v := (-1)) (by decide +kernel) rfl ?_
          exact x_iretp hf (by decide +kernel) rfl
        · rw [if_neg e3] at hf
          by_cases e4 : p1 = (113 : Int32)
          · rw [if_pos e4] at hf
            have ex : Int32.toInt p1 = 113 := by rw [e4]; rfl
            refine x_tabIn (dflt := 98) (lo := 109) (hi := 122) (offs := #[77, 98, 98, 98, 98, 98, 73, 98, 98, 98, 71, 75, 79, 81]) (len := 71) (off := 98) (tgt := 99) (by decide +kernel) (by rw [ex]; decide) (by rw [ex]; decide) (by rw [ex]; rfl) (by decide) ?_
            refine g_iconst (z := (-1)) (v := (-1)) (by decide +kernel) rfl ?_
            exact x_iretp hf (by decide +kernel) rfl
          · rw [if_neg e4] at hf
            by_cases e5 : p1 = (114 : Int32)
            · rw [if_pos e5] at hf
              have ex : Int32.toInt p1 = 114 := by rw [e5]; rfl
              refine x_tabIn (dflt := 98) (lo := 109) (hi := 122) (offs := #[77, 98, 98, 98, 98, 98, 73, 98, 98, 98, 71, 75, 79, 81]) (len := 71) (off := 98) (tgt := 99) (by decide +kernel) (by rw [ex]; decide) (by rw [ex]; decide) (by rw [ex]; rfl) (by decide) ?_
              refine g_iconst (z := (-1)) (v := (-1)) (by decide +kernel) rfl ?_
              exact x_iretp hf (by decide +kernel) rfl
            · rw [if_neg e5] at hf
              by_cases e6 : p1 = (115 : Int32)
              · rw [if_pos e6] at hf
                have ex : Int32.toInt p1 = 115 := by rw [e6]; rfl
                refine x_tabIn (dflt := 98) (lo := 109) (hi := 122) (offs := #[77, 98, 98, 98, 98, 98, 73, 98, 98, 98, 71, 75, 79, 81]) (len := 71) (off := 73) (tgt := 74) (by decide +kernel) (by rw [ex]; decide) (by rw [ex]; decide) (by rw [ex]; rfl) (by decide) ?_
                refine g_iconst (z := 1) (v := 1) (by decide +kernel) rfl ?_
                exact x_iretp hf (by decide +kernel) rfl
              · rw [if_neg e6] at hf
                by_cases e7 : p1 = (116 : Int32)
                · rw [if_pos e7] at hf
                  have ex : Int32.toInt p1 = 116 := by rw [e7]; rfl
                  refine x_tabIn (dflt := 98) (lo := 109) (hi := 122) (offs := #[77, 98, 98, 98, 98, 98, 73, 98, 98, 98, 71, 75, 79, 81]) (len := 71) (off := 98) (tgt := 99) (by decide +kernel) (by rw [ex]; decide) (by rw [ex]; decide) (by rw [ex]; rfl) (by decide) ?_
                  refine g_iconst (z := (-1)) (v := (-1)) (by decide +kernel) rfl ?_
                  exact x_iretp hf (by decide +kernel) rfl
                · rw [if_neg e7] at hf
                  by_cases e8 : p1 = (117 : Int32)
                  · rw [if_pos e8] at hf
                    have ex : Int32.toInt p1 = 117 := by rw [e8]; rfl
                    refine x_tabIn (dflt := 98) (lo := 109) (hi := 122) (offs := #[77, 98, 98, 98, 98, 98, 73, 98, 98, 98, 71, 75, 79, 81]) (len := 71) (off := 98) (tgt := 99) (by decide +kernel) (by rw [ex]; decide) (by rw [ex]; decide) (by rw [ex]; rfl) (by decide) ?_
                    refine g_iconst (z := (-1)) (v := (-1)) (by decide +kernel) rfl ?_
                    exact x_iretp hf (by decide +kernel) rfl
                  · rw [if_neg e8] at hf
                    by_cases e9 : p1 = (118 : Int32)
                    · rw [if_pos e9] at hf
                      have ex : Int32.toInt p1 = 118 := by rw [e9]; rfl
                      refine x_tabIn (dflt := 98) (lo := 109) (hi := 122) (offs := #[77, 98, 98, 98, 98, 98, 73, 98, 98, 98, 71, 75, 79, 81]) (len := 71) (off := 98) (tgt := 99) (by decide +kernel) (by rw [ex]; decide) (by rw [ex]; decide) (by rw [ex]; rfl) (by decide) ?_
                      refine g_iconst (z := (-1)) (v := (-1)) (by decide +kernel) rfl ?_
                      exact x_iretp hf (by decide +kernel) rfl
                    · rw [if_neg e9] at hf
                      by_cases e10 : p1 = (119 : Int32)
                      · rw [if_pos e10] at hf
                        have ex : Int32.toInt p1 = 119 := by rw [e10]; rfl
                        refine x_tabIn (dflt := 98) (lo := 109) (hi := 122) (offs := #[77, 98, 98, 98, 98, 98, 73, 98, 98, 98, 71, 75, 79, 81]) (len := 71) (off := 71) (tgt := 72) (by decide +kernel) (by rw [ex]; decide) (by rw [ex]; decide) (by rw [ex]; rfl) (by decide) ?_
                        refine g_iconst (z := 0) (v := 0) (by decide +kernel) rfl ?_
                        exact x_iretp hf (by decide +kernel) rfl
                      · rw [if_neg e10] at hf
                        by_cases e11 : p1 = (120 : Int32)
                        · rw [if_pos e11] at hf
                          have ex : Int32.toInt p1 = 120 := by rw [e11]; rfl
                          refine x_tabIn (dflt := 98) (lo := 109) (hi := 122) (offs := #[77, 98, 98, 98, 98, 98, 73, 98, 98, 98, 71, 75, 79, 81]) (len := 71) (off := 75) (tgt := 76) (by decide +kernel) (by rw [ex]; decide) (by rw [ex]; decide) (by rw [ex]; rfl) (by decide) ?_
                          refine g_iconst (z := 2) (v := 2) (by decide +kernel) rfl ?_
                          exact x_iretp hf (by decide +kernel) rfl
                        · rw [if_neg e11] at hf
                          by_cases e12 : p1 = (121 : Int32)
                          · rw [if_pos e12] at hf
                            have ex : Int32.toInt p1 = 121 := by rw [e12]; rfl
                            refine x_tabIn (dflt := 98) (lo := 109) (hi := 122) (offs := #[77, 98, 98, 98, 98, 98, 73, 98, 98, 98, 71, 75, 79, 81]) (len := 71) (off := 79) (tgt := 80) (by decide +kernel) (by rw [ex]; decide) (by rw [ex]; decide) (by rw [ex]; rfl) (by decide) ?_
                            refine g_iconst (z := 4) (v := 4) (by decide +kernel) rfl ?_
                            exact x_iretp hf (by decide +kernel) rfl
                          · rw [if_neg e12] at hf
                            by_cases e13 : p1 = (122 : Int32)
                            · rw [if_pos e13] at hf
                              have ex : Int32.toInt p1 = 122 := by rw [e13]; rfl
                              refine x_tabIn (dflt := 98) (lo := 109) (hi := 122) (offs := #[77, 98, 98, 98, 98, 98, 73, 98, 98, 98, 71, 75, 79, 81]) (len := 71) (off := 81) (tgt := 82) (by decide +kernel) (by rw [ex]; decide) (by rw [ex]; decide) (by rw [ex]; rfl) (by decide) ?_
                              refine g_aload_n (i := 0) (by decide +kernel) rfl ?_
                              have hm1 := hs.law.2
                              refine x_getr (hs.k k_61) F_Reader_45 (by decide +kernel) rfl hs.law.1 ?_
                              refine g_aload_n (i := 0) (by decide +kernel) rfl ?_
                              refine x_getr (hs.k k_61) F_Reader_38 (by decide +kernel) rfl (hs.r r_61_5) ?_
                              refine x_acmp_ne (off := 7) (tgt := 97) hf (by decide +kernel) (by decide) (fun c2 hf => ?_) (fun c2 hf => ?_)
                              · refine g_iconst (z := (-1)) (v := (-1)) (by decide +kernel) rfl ?_
                                exact x_iretp hf (by decide +kernel) rfl
                              · refine g_iconst (z := 5) (v := 5) (by decide +kernel) rfl ?_
                                refine g_goto (off := 4) (tgt := 98) (by decide +kernel) (by decide) ?_
                                exact x_iretp hf (by decide +kernel) rfl
                            · rw [if_neg e13] at hf
                              refine x_tabOut (dflt := 98) (lo := 109) (hi := 122) (offs := #[77, 98, 98, 98, 98, 98, 73, 98, 98, 98, 71, 75, 79, 81]) (len := 71) (tgt := 99) (by decide +kernel) (am_tabNe ⟨by decide, by decide⟩ (fun z hz => ?_)) (by decide) ?_
                              · have hz : z < 14 := hz
                                have : z = 0 ∨ z = 1 ∨ z = 2 ∨ z = 3 ∨ z = 4 ∨ z = 5 ∨ z = 6 ∨ z = 7 ∨ z = 8 ∨ z = 9 ∨ z = 10 ∨ z = 11 ∨ z = 12 ∨ z = 13 := by omega
                                rcases this with rfl | rfl | rfl | rfl | rfl | rfl | rfl | rfl | rfl | rfl | rfl | rfl | rfl | rfl
                                · exact e0
                                · exact e1
                                · exact e2
                                · exact e3
                                · exact e4
                                · exact e5
                                · exact e6
                                · exact e7
                                · exact e8
                                · exact e9
                                · exact e10
                                · exact e11
                                · exact e12
                                · exact e13
                              · refine g_iconst (z := (-1)) (v := (-1)) (by decide +kernel) rfl ?_
                                exact x_iretp hf (by decide +kernel) rfl
