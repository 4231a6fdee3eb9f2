def f_Top_meetAt (p1 : Int32) (p2 : Int32) (h : am_H) : Option (Int32) :=
  (f_River_hasPerson 1 p1 h).bind fun q1 =>
  (if q1 = true then
    (f_River_hasPerson 1 p2 h).bind fun q3 =>
    (if q3 = true then
      (if p1 = p2 then
        some (-2 : Int32)
      else
        (f_Ahead_hoursToMeet p1 p2 h).bind fun q6 =>
        (if q6 = (-1 : Int32) then
          some (-1 : Int32)
        else
          (f_Ahead_spotsIn p1 q6 h).bind fun q8 =>
          (f_Ahead_spotsIn p2 q6 h).bind fun q9 =>
          (f_Integer_numberOfTrailingZeros (q8 &&& q9) h).bind fun q10 =>
          some q10))
    else
      some (-2 : Int32))
  else
    some (-2 : Int32))
set_option maxRecDepth 100000 in
set_option maxHeartbeats 4000000 in
theorem t_Top_meetAt {p1 : Int32} {p2 : Int32} {h : am_H} (hs : am_Sh h)  {r : Int32} (hf : f_Top_meetAt p1 p2 h = some r) : am_Ct 3 M_Top_meetAt [.ref 0, .int p1, .int p2] h 0 0 (am_pI h r) := by
  unfold f_Top_meetAt at hf
  refine am_Ct.of (by decide) rfl (Nat.le_of_ble_eq_true rfl) (ls := [(0, .ref 0), (1, .int p1), (2, .int p2)]) rfl ?_
  refine g_aload_n (i := 0) (by decide +kernel) rfl ?_
  refine x_getr (hs.k k_0) F_Top_10 (by decide +kernel) rfl (hs.r r_0_0) ?_
  refine g_iload_n (i := 1) (by decide +kernel) rfl ?_
  refine x_callVBp (as := [.int p1]) Vi_River_hasPerson Vs_River_hasPerson (hs.k k_1) rfl hf (fun q hq => t_River_hasPerson hs (by decide) hq) Y_River_hasPerson L_Top_140 (by decide +kernel) rfl rfl (Nat.le_of_ble_eq_true rfl) (by decide) (fun q1 hf => ?_)
  refine x_ifb_eq (off := 19) (tgt := 27) hf (by decide +kernel) (by decide) (fun c2 hf => ?_) (fun c2 hf => ?_)
  · refine g_bipush (z := (-2)) (v := (-2)) (by decide +kernel) rfl ?_
    exact x_iretp hf (by decide +kernel) rfl
  · refine g_aload_n (i := 0) (by decide +kernel) rfl ?_
    refine x_getr (hs.k k_0) F_Top_10 (by decide +kernel) rfl (hs.r r_0_0) ?_
    refine g_iload_n (i := 2) (by decide +kernel) rfl ?_
    refine x_callVBp (as := [.int p2]) Vi_River_hasPerson Vs_River_hasPerson (hs.k k_1) rfl hf (fun q hq => t_River_hasPerson hs (by decide) hq) Y_River_hasPerson L_Top_140 (by decide +kernel) rfl rfl (Nat.le_of_ble_eq_true rfl) (by decide) (fun q3 hf => ?_)
    refine x_ifb_eq (off := 8) (tgt := 27) hf (by decide +kernel) (by decide) (fun c4 hf => ?_) (fun c4 hf => ?_)
    · refine g_bipush (z := (-2)) (v := (-2)) (by decide +kernel) rfl ?_
      exact x_iretp hf (by decide +kernel) rfl
    · refine g_iload_n (i := 1) (by decide +kernel) rfl ?_
      refine g_iload_n (i := 2) (by decide +kernel) rfl ?_
      refine x_icmp_ne (off := 6) (tgt := 30) hf (by decide +kernel) (by decide) (fun c5 hf => ?_) (fun c5 hf => ?_)
      · refine g_aload_n (i := 0) (by decide +kernel) rfl ?_
        refine x_getr (hs.k k_0) F_Top_63 (by decide +kernel) rfl (hs.r r_0_9) ?_
        refine g_iload_n (i := 1) (by decide +kernel) rfl ?_
        refine g_iload_n (i := 2) (by decide +kernel) rfl ?_
        refine x_callVIp (as := [.int p1, .int p2]) Vi_Ahead_hoursToMeet Vs_Ahead_hoursToMeet (hs.k k_86) rfl hf (fun q hq => t_Ahead_hoursToMeet hs  hq) Y_Ahead_hoursToMeet L_Top_254 (by decide +kernel) rfl rfl (Nat.le_of_ble_eq_true rfl) (by decide) (fun q6 hf => ?_)
        refine g_istore_n (i := 3) (by decide +kernel) rfl (by decide) (ls1 := [(0, .ref 0), (1, .int p1), (2, .int p2), (3, .int q6)]) rfl ?_
        refine g_iload_n (i := 3) (by decide +kernel) rfl ?_
        refine g_iconst (z := (-1)) (v := (-1)) (by decide +kernel) rfl ?_
        refine x_icmp_ne (off := 5) (tgt := 47) hf (by decide +kernel) (by decide) (fun c7 hf => ?_) (fun c7 hf => ?_)
        · refine g_aload_n (i := 0) (by decide +kernel) rfl ?_
          refine x_getr (hs.k k_0) F_Top_63 (by decide +kernel) rfl (hs.r r_0_9) ?_
          refine g_iload_n (i := 1) (by decide +kernel) rfl ?_
          refine g_iload_n (i := 3) (by decide +kernel) rfl ?_
          refine x_callVIp (as := [.int p1, .int q6]) Vi_Ahead_spotsIn Vs_Ahead_spotsIn (hs.k k_86) rfl hf (fun q hq => t_Ahead_spotsIn hs  hq) Y_Ahead_spotsIn L_Top_251 (by decide +kernel) rfl rfl (Nat.le_of_ble_eq_true rfl) (by decide) (fun q8 hf => ?_)
          refine g_aload_n (i := 0) (by decide +kernel) rfl ?_
          refine x_getr (hs.k k_0) F_Top_63 (by decide +kernel) rfl (hs.r r_0_9) ?_
          refine g_iload_n (i := 2) (by decide +kernel) rfl ?_
          refine g_iload_n (i := 3) (by decide +kernel) rfl ?_
          refine x_callVIp (as := [.int p2, .int q6]) Vi_Ahead_spotsIn Vs_Ahead_spotsIn (hs.k k_86) rfl hf (fun q hq => t_Ahead_spotsIn hs  hq) Y_Ahead_spotsIn L_Top_251 (by decide +kernel) rfl rfl (Nat.le_of_ble_eq_true rfl) (by decide) (fun q9 hf => ?_)
          refine g_iand (by decide +kernel) ?_
          refine x_callSIp (as := [.int (q8 &&& q9)]) St_Integer_numberOfTrailingZeros hf (fun q hq => t_Integer_numberOfTrailingZeros hs  hq) Y_Integer_numberOfTrailingZeros L_Top_257 (by decide +kernel) rfl rfl (Nat.le_of_ble_eq_true rfl) (by decide) (fun q10 hf => ?_)
          exact x_iretp hf (by decide +kernel) rfl
        · refine g_iconst (z := (-1)) (v := (-1)) (by decide +kernel) rfl ?_
          exact x_iretp hf (by decide +kernel) rfl
      · refine g_bipush (z := (-2)) (v := (-2)) (by decide +kernel) rfl ?_
        exact x_iretp hf (by decide +kernel) rfl
def f_Weeks_hasErrand (p1 : Int32) (h : am_H) : Option (Bool) :=
  (am_rd (h.2.1 5) 5 p1).bind fun x1 =>
  (if x1 = (-1 : Int32) then
    some false
  else
    some true)
set_option maxRecDepth 100000 in
set_option maxHeartbeats 4000000 in
theorem t_Weeks_hasErrand {p1 : Int32} {h : am_H} (hs : am_Sh h)  {r : Bool} (hf : f_Weeks_hasErrand p1 h = some r) : am_Ct 0 M_Weeks_hasErrand [.ref 91, .int p1] h 0 0 (am_pB h r) := by
  unfold f_Weeks_hasErrand at hf
  refine am_Ct.of (by decide) rfl (Nat.le_of_ble_eq_true rfl) (ls := [(0, .ref 91), (1, .int p1)]) rfl ?_
  refine g_aload_n (i := 0) (by decide +kernel) rfl ?_
  refine x_getr (hs.k k_91) F_Weeks_50 (by decide +kernel) rfl (hs.r r_91_0) ?_
  refine x_getr (hs.k k_1) F_Weeks_62 (by decide +kernel) rfl (hs.r r_1_9) ?_
  refine g_iload_n (i := 1) (by decide +kernel) rfl ?_
  refine x_iald hf (hs.k k_5) (by decide +kernel) (fun x1 hf => ?_)
  refine g_iconst (z := (-1)) (v := (-1)) (by decide +kernel) rfl ?_
  refine x_icmp_eq (off := 7) (tgt := 17) hf (by decide +kernel) (by decide) (fun c2 hf => ?_) (fun c2 hf => ?_)
  · refine g_iconst (z := 0) (v := 0) (by decide +kernel) rfl ?_
    exact x_zretp rfl hf (by decide +kernel) rfl
  · refine g_iconst (z := 1) (v := 1) (by decide +kernel) rfl ?_
    refine g_goto (off := 4) (tgt := 18) (by decide +kernel) (by decide) ?_
    exact x_zretp rfl hf (by decide +kernel) rfl
def f_Weeks_isDone (p1 : Int32) (h : am_H) : Option (Bool) :=
  (f_Top_hasBit (h.2.1 10 2) p1 h).bind fun q1 =>
  some q1
set_option maxRecDepth 100000 in
set_option maxHeartbeats 4000000 in
theorem t_Weeks_isDone {p1 : Int32} {h : am_H} (hs : am_Sh h)  {r : Bool} (hf : f_Weeks_isDone p1 h = some r) : am_Ct 1 M_Weeks_isDone [.ref 91, .int p1] h 0 0 (am_pB h r) := by
  unfold f_Weeks_isDone at hf
  refine am_Ct.of (by decide) rfl (Nat.le_of_ble_eq_true rfl) (ls := [(0, .ref 91), (1, .int p1)]) rfl ?_
  refine g_aload_n (i := 0) (by decide +kernel) rfl ?_
  refine x_getr (hs.k k_91) F_Weeks_54 (by decide +kernel) rfl (hs.r r_91_1) ?_
  refine x_geti (hs.k k_10) F_Weeks_67 (by decide +kernel) rfl ?_
  refine g_iload_n (i := 1) (by decide +kernel) rfl ?_
  refine x_callSNBp (as := [.int (h.2.1 10 2), .int p1]) St_Top_hasBit hf (fun q hq => t_Top_hasBit hs  hq) Y_Top_hasBit L_Weeks_72 (by decide +kernel) rfl rfl (Nat.le_of_ble_eq_true rfl) (by decide) (fun q1 hf => ?_)
  exact x_zretp rfl hf (by decide +kernel) rfl
def f_Weeks_hoursLeft (p1 : Int32) (h : am_H) : Option (Int32) :=
  (am_rd (h.2.1 6) 5 p1).bind fun x1 =>
  some (if (x1 - (h.2.1 10 0)) < (60 : Int32) then (x1 - (h.2.1 10 0)) else (60 : Int32))
set_option maxRecDepth 100000 in
set_option maxHeartbeats 4000000 in
theorem t_Weeks_hoursLeft {p1 : Int32} {h : am_H} (hs : am_Sh h)  {r : Int32} (hf : f_Weeks_hoursLeft p1 h = some r) : am_Ct 1 M_Weeks_hoursLeft [.ref 91, .int p1] h 0 0 (am_pI h r) := by
  unfold f_Weeks_hoursLeft at hf
  refine am_Ct.of (by decide) rfl (Nat.le_of_ble_eq_true rfl) (ls := [(0, .ref 91), (1, .int p1)]) rfl ?_
  refine g_bipush (z := 60) (v := 60) (by decide +kernel) rfl ?_
  refine g_aload_n (i := 0) (by decide +kernel) rfl ?_
  refine x_getr (hs.k k_91) F_Weeks_50 (by decide +kernel) rfl (hs.r r_91_0) ?_
  refine x_getr (hs.k k_1) F_Weeks_76 (by decide +kernel) rfl (hs.r r_1_10) ?_
  refine g_iload_n (i := 1) (by decide +kernel) rfl ?_
  refine x_iald hf (hs.k k_6) (by decide +kernel) (fun x1 hf => ?_)
  refine g_aload_n (i := 0) (by decide +kernel) rfl ?_
  refine x_getr (hs.k k_91) F_Weeks_54 (by decide +kernel) rfl (hs.r r_91_1) ?_
  refine x_geti (hs.k k_10) F_Weeks_79 (by decide +kernel) rfl ?_
  refine g_isub (by decide +kernel) ?_
  refine g_mmin L_Weeks_82 (by decide +kernel) (by decide) (Nat.le_of_ble_eq_true rfl) ?_
  exact x_iretp hf (by decide +kernel) rfl
def f_Weeks_comes (p1 : Int32) (p2 : Nat) (p2L : Nat) (h : am_H) : Option (Bool) :=
  (am_rd (h.2.1 12) 5 p1).bind fun x1 =>
  (am_rd (h.2.1 5) 5 p1).bind fun x2 =>
  (f_Weeks_hoursLeft p1 h).bind fun q3 =>
  (f_Ahead_hoursFrom p1 ((1 : Int32) <<< (x1 &&& 31)) x2 p2 p2L (0 : Int32) q3 h).bind fun q4 =>
  (if q4 = (-1 : Int32) then
    some false
  else
    some true)
set_option maxRecDepth 100000 in
set_option maxHeartbeats 4000000 in
theorem t_Weeks_comes {p1 : Int32} {p2 : Nat} {p2L : Nat} {h : am_H} (hs : am_Sh h) (hp2 : am_K0[p2]? = some (.inr (.int, p2L))) {r : Bool} (hf : f_Weeks_comes p1 p2 p2L h = some r) : am_Ct 3 M_Weeks_comes [.ref 91, .int p1, .ref p2] h 0 0 (am_pB h r) := by
  unfold f_Weeks_comes at hf
  refine am_Ct.of (by decide) rfl (Nat.le_of_ble_eq_true rfl) (ls := [(0, .ref 91), (1, .int p1), (2, .ref p2)]) rfl ?_
  refine g_aload_n (i := 0) (by decide +kernel) rfl ?_
  refine x_getr (hs.k k_91) F_Weeks_58 (by decide +kernel) rfl (hs.r r_91_2) ?_
  refine g_iload_n (i := 1) (by decide +kernel) rfl ?_
  refine g_iconst (z := 1) (v := 1) (by decide +kernel) rfl ?_
  refine g_aload_n (i := 0) (by decide +kernel) rfl ?_
  refine x_getr (hs.k k_91) F_Weeks_54 (by decide +kernel) rfl (hs.r r_91_1) ?_
  refine x_getr (hs.k k_10) F_Weeks_88 (by decide +kernel) rfl (hs.r r_10_4) ?_
  refine g_iload_n (i := 1) (by decide +kernel) rfl ?_
  refine x_iald hf (hs.k k_12) (by decide +kernel) (fun x1 hf => ?_)
  refine g_ishl (by decide +kernel) ?_
  refine g_aload_n (i := 0) (by decide +kernel) rfl ?_
  refine x_getr (hs.k k_91) F_Weeks_50 (by decide +kernel) rfl (hs.r r_91_0) ?_
  refine x_getr (hs.k k_1) F_Weeks_62 (by decide +kernel) rfl (hs.r r_1_9) ?_
  refine g_iload_n (i := 1) (by decide +kernel) rfl ?_
  refine x_iald hf (hs.k k_5) (by decide +kernel) (fun x2 hf => ?_)
  refine g_aload_n (i := 2) (by decide +kernel) rfl ?_
  refine g_iconst (z := 0) (v := 0) (by decide +kernel) rfl ?_
  refine g_aload_n (i := 0) (by decide +kernel) rfl ?_
  refine g_iload_n (i := 1) (by decide +kernel) rfl ?_
  refine x_callVIp (as := [.int p1]) Vi_Weeks_hoursLeft Vs_Weeks_hoursLeft (hs.k k_91) rfl hf (fun q hq => t_Weeks_hoursLeft hs  hq) Y_Weeks_hoursLeft L_Weeks_91 (by decide +kernel) rfl rfl (Nat.le_of_ble_eq_true rfl) (by decide) (fun q3 hf => ?_)
  refine x_callVIp (as := [.int p1, .int ((1 : Int32) <<< (x1 &&& 31)), .int x2, .ref p2, .int (0 : Int32), .int q3]) Vi_Ahead_hoursFrom Vs_Ahead_hoursFrom (hs.k k_86) rfl hf (fun q hq => t_Ahead_hoursFrom hs hp2 hq) Y_Ahead_hoursFrom L_Weeks_95 (by decide +kernel) rfl rfl (Nat.le_of_ble_eq_true rfl) (by decide) (fun q4 hf => ?_)
  refine g_iconst (z := (-1)) (v := (-1)) (by decide +kernel) rfl ?_
  refine x_icmp_eq (off := 7) (tgt := 43) hf (by decide +kernel) (by decide) (fun c5 hf => ?_) (fun c5 hf => ?_)
  · refine g_iconst (z := 0) (v := 0) (by decide +kernel) rfl ?_
    exact x_zretp rfl hf (by decide +kernel) rfl
  · refine g_iconst (z := 1) (v := 1) (by decide +kernel) rfl ?_
    refine g_goto (off := 4) (tgt := 44) (by decide +kernel) (by decide) ?_
    exact x_zretp rfl hf (by decide +kernel) rfl
def f_Weeks_doneInTime_L4 (p1 : Nat) (p1L : Nat) : Nat → Int32 → Int32 → am_H → Option (Int32 × Int32)
  | 0, _, _, _ => none
  | n + 1, v2, v3, h =>
    (if (h.2.1 1 2) ≤ v3 then
      some (v2, v3)
    else
      (f_Weeks_hasErrand v3 h).bind fun q2 =>
      (if q2 = true then
        (f_Weeks_isDone v3 h).bind fun q4 =>
        (if q4 = true then
          f_Weeks_doneInTime_L4 p1 p1L n (v2 ||| ((1 : Int32) <<< (v3 &&& 31))) (v3 + (1 : Int32)) h
        else
          (f_Weeks_comes v3 p1 p1L h).bind fun q6 =>
          (if q6 = true then
            f_Weeks_doneInTime_L4 p1 p1L n (v2 ||| ((1 : Int32) <<< (v3 &&& 31))) (v3 + (1 : Int32)) h
          else
            f_Weeks_doneInTime_L4 p1 p1L n v2 (v3 + (1 : Int32)) h))
      else
        f_Weeks_doneInTime_L4 p1 p1L n v2 (v3 + (1 : Int32)) h))
set_option maxRecDepth 100000 in
set_option maxHeartbeats 4000000 in
theorem t_Weeks_doneInTime_L4 {p1 : Nat} {p1L : Nat} (hp1 : am_K0[p1]? = some (.inr (.int, p1L))) {Q : Option Value → am_H → Prop} : ∀ (n : Nat) (v2 : Int32) (v3 : Int32) (h : am_H) (q : Int32 × Int32), am_Sh h → f_Weeks_doneInTime_L4 p1 p1L n v2 v3 h = some q → (am_G 4 M_Weeks_doneInTime 0 0 Q 52 [(0, .ref 91), (1, .ref p1), (2, .int q.1), (3, .int q.2)] [] h 0 0) → am_G 4 M_Weeks_doneInTime 0 0 Q 4 [(0, .ref 91), (1, .ref p1), (2, .int v2), (3, .int v3)] [] h 0 0 := by
  intro n
  induction n with
  | zero =>
    intro v2 v3 h q hs hf kont
    rw [f_Weeks_doneInTime_L4] at hf
    cases hf
  | succ n ih =>
    intro v2 v3 h q hs hf kont
    rw [f_Weeks_doneInTime_L4] at hf
    refine g_iload_n (i := 3) (by decide +kernel) rfl ?_
    refine g_aload_n (i := 0) (by decide +kernel) rfl ?_
    refine x_getr (hs.k k_91) F_Weeks_50 (by decide +kernel) rfl (hs.r r_91_0) ?_
    refine x_geti (hs.k k_1) F_Weeks_101 (by decide +kernel) rfl ?_
    refine x_icmp_ge (off := 40) (tgt := 52) hf (by decide +kernel) (by decide) (fun c1 hf => ?_) (fun c1 hf => ?_)
    · cases hf
      exact am_G.forget (am_subp [0, 1, 2, 3] rfl) kont
    · refine g_aload_n (i := 0) (by decide +kernel) rfl ?_
      refine g_iload_n (i := 3) (by decide +kernel) rfl ?_
      refine x_callVBp (as := [.int v3]) Vi_Weeks_hasErrand Vs_Weeks_hasErrand (hs.k k_91) rfl hf (fun q hq => t_Weeks_hasErrand hs  hq) Y_Weeks_hasErrand L_Weeks_104 (by decide +kernel) rfl rfl (Nat.le_of_ble_eq_true rfl) (by decide) (fun q2 hf => ?_)
      refine x_ifb_eq (off := 26) (tgt := 46) hf (by decide +kernel) (by decide) (fun c3 hf => ?_) (fun c3 hf => ?_)
      · refine g_iinc (i := 3) (z := 1) (v := (v3 + (1 : Int32))) (by decide +kernel) rfl rfl rfl (by decide) (ls1 := [(0, .ref 91), (1, .ref p1), (2, .int v2), (3, .int (v3 + (1 : Int32)))]) rfl ?_
        refine g_goto (off := (-45)) (tgt := 4) (by decide +kernel) (by decide) ?_
        exact am_G.forget (am_subp [0, 1, 2, 3] rfl) (ih _ _ _ _ hs hf kont)
      · refine g_aload_n (i := 0) (by decide +kernel) rfl ?_
        refine g_iload_n (i := 3) (by decide +kernel) rfl ?_
        refine x_callVBp (as := [.int v3]) Vi_Weeks_isDone Vs_Weeks_isDone (hs.k k_91) rfl hf (fun q hq => t_Weeks_isDone hs  hq) Y_Weeks_isDone L_Weeks_108 (by decide +kernel) rfl rfl (Nat.le_of_ble_eq_true rfl) (by decide) (fun q4 hf => ?_)
        refine x_ifb_ne (off := 12) (tgt := 40) hf (by decide +kernel) (by decide) (fun c5 hf => ?_) (fun c5 hf => ?_)
        · refine g_iload_n (i := 2) (by decide +kernel) rfl ?_
          refine g_iconst (z := 1) (v := 1) (by decide +kernel) rfl ?_
          refine g_iload_n (i := 3) (by decide +kernel) rfl ?_
          refine g_ishl (by decide +kernel) ?_
          refine g_ior (by decide +kernel) ?_
          refine g_istore_n (i := 2) (by decide +kernel) rfl (by decide) (ls1 := [(0, .ref 91), (1, .ref p1), (2, .int (v2 ||| ((1 : Int32) <<< (v3 &&& 31)))), (3, .int v3)]) rfl ?_
          refine g_iinc (i := 3) (z := 1) (v := (v3 + (1 : Int32))) (by decide +kernel) rfl rfl rfl (by decide) (ls1 := [(0, .ref 91), (1, .ref p1), (2, .int (v2 ||| ((1 : Int32) <<< (v3 &&& 31)))), (3, .int (v3 + (1 : Int32)))]) rfl ?_
          refine g_goto (off := (-45)) (tgt := 4) (by decide +kernel) (by decide) ?_
          exact am_G.forget (am_subp [0, 1, 2, 3] rfl) (ih _ _ _ _ hs hf kont)
        · refine g_aload_n (i := 0) (by decide +kernel) rfl ?_
          refine g_iload_n (i := 3) (by decide +kernel) rfl ?_
          refine g_aload_n (i := 1) (by decide +kernel) rfl ?_
          refine x_callVBp (as := [.int v3, .ref p1]) Vi_Weeks_comes Vs_Weeks_comes (hs.k k_91) rfl hf (fun q hq => t_Weeks_comes hs hp1 hq) Y_Weeks_comes L_Weeks_111 (by decide +kernel) rfl rfl (Nat.le_of_ble_eq_true rfl) (by decide) (fun q6 hf => ?_)
          refine x_ifb_eq (off := 9) (tgt := 46) hf (by decide +kernel) (by decide) (fun c7 hf => ?_) (fun c7 hf => ?_)
          · refine g_iinc (i := 3) (z := 1) (v := (v3 + (1 : Int32))) (by decide +kernel) rfl rfl rfl (by decide) (ls1 := [(0, .ref 91), (1, .ref p1), (2, .int v2), (3, .int (v3 + (1 : Int32)))]) rfl ?_
            refine g_goto (off := (-45)) (tgt := 4) (by decide +kernel) (by decide) ?_
            exact am_G.forget (am_subp [0, 1, 2, 3] rfl) (ih _ _ _ _ hs hf kont)
          · refine g_iload_n (i := 2) (by decide +kernel) rfl ?_
            refine g_iconst (z := 1) (v := 1) (by decide +kernel) rfl ?_
            refine g_iload_n (i := 3) (by decide +kernel) rfl ?_
            refine g_ishl (by decide +kernel) ?_
            refine g_ior (by decide +kernel) ?_
            refine g_istore_n (i := 2) (by decide +kernel) rfl (by decide) (ls1 := [(0, .ref 91), (1, .ref p1), (2, .int (v2 ||| ((1 : Int32) <<< (v3 &&& 31)))), (3, .int v3)]) rfl ?_
            refine g_iinc (i := 3) (z := 1) (v := (v3 + (1 : Int32))) (by decide +kernel) rfl rfl rfl (by decide) (ls1 := [(0, .ref 91), (1, .ref p1), (2, .int (v2 ||| ((1 : Int32) <<< (v3 &&& 31)))), (3, .int (v3 + (1 : Int32)))]) rfl ?_
            refine g_goto (off := (-45)) (tgt := 4) (by decide +kernel) (by decide) ?_
            exact am_G.forget (am_subp [0, 1, 2, 3] rfl) (ih _ _ _ _ hs hf kont)
def f_Weeks_doneInTime (p1 : Nat) (p1L : Nat) (h : am_H) : Option (Int32) :=
  (f_Weeks_doneInTime_L4 p1 p1L am_fu (0 : Int32) (0 : Int32) h).bind fun q8 =>
  some q8.1
set_option maxRecDepth 100000 in
set_option maxHeartbeats 4000000 in
theorem t_Weeks_doneInTime {p1 : Nat} {p1L : Nat} {h : am_H} (hs : am_Sh h) (hp1 : am_K0[p1]? = some (.inr (.int, p1L))) {r : Int32} (hf : f_Weeks_doneInTime p1 p1L h = some r) : am_Ct 4 M_Weeks_doneInTime [.ref 91, .ref p1] h 0 0 (am_pI h r) := by
  unfold f_Weeks_doneInTime at hf
  refine am_Ct.of (by decide) rfl (Nat.le_of_ble_eq_true rfl) (ls := [(0, .ref 91), (1, .ref p1)]) rfl ?_
  refine g_iconst (z := 0) (v := 0) (by decide +kernel) rfl ?_
  refine g_istore_n (i := 2) (by decide +kernel) rfl (by decide) (ls1 := [(0, .ref 91), (1, .ref p1), (2, .int (0 : Int32))]) rfl ?_
  refine g_iconst (z := 0) (v := 0) (by decide +kernel) rfl ?_
  refine g_istore_n (i := 3) (by decide +kernel) rfl (by decide) (ls1 := [(0, .ref 91), (1, .ref p1), (2, .int (0 : Int32)), (3, .int (0 : Int32))]) rfl ?_
  obtain ⟨q8, hqq8, hf⟩ := Option.bind_eq_some_iff.mp hf
  refine t_Weeks_doneInTime_L4 hp1 am_fu _ _ _ q8 hs hqq8 ?_
  refine g_iload_n (i := 2) (by decide +kernel) rfl ?_
  exact x_iretp hf (by decide +kernel) rfl
def f_Top_inTime  (h : am_H) : Option (Int32) :=
  (f_Weeks_doneInTime 11 6 h).bind fun q1 =>
  some q1
set_option maxRecDepth 100000 in
set_option maxHeartbeats 4000000 in
theorem t_Top_inTime  {h : am_H} (hs : am_Sh h)  {r : Int32} (hf : f_Top_inTime  h = some r) : am_Ct 5 M_Top_inTime [.ref 0] h 0 0 (am_pI h r) := by
  unfold f_Top_inTime at hf
  refine am_Ct.of (by decide) rfl (Nat.le_of_ble_eq_true rfl) (ls := [(0, .ref 0)]) rfl ?_
  refine g_aload_n (i := 0) (by decide +kernel) rfl ?_
  refine x_getr (hs.k k_0) F_Top_72 (by decide +kernel) rfl (hs.r r_0_10) ?_
  refine g_aload_n (i := 0) (by decide +kernel) rfl ?_
  refine x_getr (hs.k k_0) F_Top_19 (by decide +kernel) rfl (hs.r r_0_1) ?_
  refine x_getr (hs.k k_10) F_Top_129 (by decide +kernel) rfl (hs.r r_10_3) ?_
  refine x_callVIp (as := [.ref 11]) Vi_Weeks_doneInTime Vs_Weeks_doneInTime (hs.k k_91) rfl hf (fun q hq => t_Weeks_doneInTime hs k_11 hq) Y_Weeks_doneInTime L_Top_260 (by decide +kernel) rfl rfl (Nat.le_of_ble_eq_true rfl) (by decide) (fun q1 hf => ?_)
  exact x_iretp hf (by decide +kernel) rfl
def f_Weeks_hoursToSpare_L36 (p1 : Int32) : Nat → Int32 → Int32 → am_H → Option (Int32)
  | 0, _, _, _ => none
  | n + 1, v2, v3, h =>
    (if v3 < 0 then
      some (-1 : Int32)
    else
      am_let (if (v2 - v3) < (60 : Int32) then (v2 - v3) else (60 : Int32)) fun y6 =>
      (am_rd (h.2.1 12) 5 p1).bind fun x7 =>
      (am_rd (h.2.1 5) 5 p1).bind fun x8 =>
      (f_Ahead_hoursFrom p1 ((1 : Int32) <<< (x7 &&& 31)) x8 11 6 v3 y6 h).bind fun q9 =>
      (if q9 = (-1 : Int32) then
        f_Weeks_hoursToSpare_L36 p1 n v2 (v3 + (-1 : Int32)) h
      else
        some v3))
set_option maxRecDepth 100000 in
set_option maxHeartbeats 4000000 in
theorem t_Weeks_hoursToSpare_L36 {p1 : Int32}  : ∀ (n : Nat) (v2 : Int32) (v3 : Int32) (h : am_H) (r : Int32), am_Sh h → f_Weeks_hoursToSpare_L36 p1 n v2 v3 h = some r → am_G 3 M_Weeks_hoursToSpare 0 0 (am_pI h r) 36 [(0, .ref 91), (1, .int p1), (2, .int v2), (3, .int v3)] [] h 0 0 := by
  intro n
  induction n with
  | zero =>
    intro v2 v3 h r hs hf
    rw [f_Weeks_hoursToSpare_L36] at hf
    cases hf
  | succ n ih =>
    intro v2 v3 h r hs hf
    rw [f_Weeks_hoursToSpare_L36] at hf
    refine g_iload_n (i := 3) (by decide +kernel) rfl ?_
    refine x_if_lt (off := 63) (tgt := 100) hf (by decide +kernel) (by decide) (fun c5 hf => ?_) (fun c5 hf => ?_)
    · refine g_iconst (z := (-1)) (v := (-1)) (by decide +kernel) rfl ?_
      exact x_iretp hf (by decide +kernel) rfl
    · refine g_bipush (z := 60) (v := 60) (by decide +kernel) rfl ?_
      refine g_iload_n (i := 2) (by decide +kernel) rfl ?_
      refine g_iload_n (i := 3) (by decide +kernel) rfl ?_
      refine g_isub (by decide +kernel) ?_
      refine g_mmin L_Weeks_82 (by decide +kernel) (by decide) (Nat.le_of_ble_eq_true rfl) ?_
      refine x_nmI hf (fun y6 hf => ?_)
      refine g_istore (i := 4) (by decide +kernel) rfl (by decide) (ls1 := [(0, .ref 91), (1, .int p1), (2, .int v2), (3, .int v3), (4, .int y6)]) rfl ?_
      refine g_aload_n (i := 0) (by decide +kernel) rfl ?_
      refine x_getr (hs.k k_91) F_Weeks_58 (by decide +kernel) rfl (hs.r r_91_2) ?_
      refine g_iload_n (i := 1) (by decide +kernel) rfl ?_
      refine g_iconst (z := 1) (v := 1) (by decide +kernel) rfl ?_
      refine g_aload_n (i := 0) (by decide +kernel) rfl ?_
      refine x_getr (hs.k k_91) F_Weeks_54 (by decide +kernel) rfl (hs.r r_91_1) ?_
      refine x_getr (hs.k k_10) F_Weeks_88 (by decide +kernel) rfl (hs.r r_10_4) ?_
      refine g_iload_n (i := 1) (by decide +kernel) rfl ?_
      refine x_iald hf (hs.k k_12) (by decide +kernel) (fun x7 hf => ?_)
      refine g_ishl (by decide +kernel) ?_
      refine g_aload_n (i := 0) (by decide +kernel) rfl ?_
      refine x_getr (hs.k k_91) F_Weeks_50 (by decide +kernel) rfl (hs.r r_91_0) ?_
      refine x_getr (hs.k k_1) F_Weeks_62 (by decide +kernel) rfl (hs.r r_1_9) ?_
      refine g_iload_n (i := 1) (by decide +kernel) rfl ?_
      refine x_iald hf (hs.k k_5) (by decide +kernel) (fun x8 hf => ?_)
      refine g_aload_n (i := 0) (by decide +kernel) rfl ?_
      refine x_getr (hs.k k_91) F_Weeks_54 (by decide +kernel) rfl (hs.r r_91_1) ?_
      refine x_getr (hs.k k_10) F_Weeks_115 (by decide +kernel) rfl (hs.r r_10_3) ?_
      refine g_iload_n (i := 3) (by decide +kernel) rfl ?_
      refine g_iload (i := 4) (by decide +kernel) rfl ?_
      refine x_callVIp (as := [.int p1, .int ((1 : Int32) <<< (x7 &&& 31)), .int x8, .ref 11, .int v3, .int y6]) Vi_Ahead_hoursFrom Vs_Ahead_hoursFrom (hs.k k_86) rfl hf (fun q hq => t_Ahead_hoursFrom hs k_11 hq) Y_Ahead_hoursFrom L_Weeks_95 (by decide +kernel) rfl rfl (Nat.le_of_ble_eq_true rfl) (by decide) (fun q9 hf => ?_)
      refine g_iconst (z := (-1)) (v := (-1)) (by decide +kernel) rfl ?_
      refine x_icmp_eq (off := 5) (tgt := 94) hf (by decide +kernel) (by decide) (fun c10 hf => ?_) (fun c10 hf => ?_)
      · refine g_iinc (i := 3) (z := (-1)) (v := (v3 + (-1 : Int32))) (by decide +kernel) rfl rfl rfl (by decide) (ls1 := [(0, .ref 91), (1, .int p1), (2, .int v2), (3, .int (v3 + (-1 : Int32))), (4, .int y6)]) rfl ?_
        refine g_goto (off := (-61)) (tgt := 36) (by decide +kernel) (by decide) ?_
        exact am_G.forget (am_subp [0, 1, 2, 3] rfl) (ih _ _ _ _ hs hf)
      · refine g_iload_n (i := 3) (by decide +kernel) rfl ?_
        exact x_iretp hf (by decide +kernel) rfl
def f_Weeks_hoursToSpare (p1 : Int32) (h : am_H) : Option (Int32) :=
  (f_Weeks_isDone p1 h).bind fun q1 =>
  (if q1 = true then
    some (60 : Int32)
  else
    (am_rd (h.2.1 6) 5 p1).bind fun x3 =>
    am_let (if (x3 - (h.2.1 10 0)) < (60 : Int32) then (x3 - (h.2.1 10 0)) else (60 : Int32)) fun y4 =>
    f_Weeks_hoursToSpare_L36 p1 am_fu (x3 - (h.2.1 10 0)) y4 h)
set_option maxRecDepth 100000 in
set_option maxHeartbeats 4000000 in
theorem t_Weeks_hoursToSpare {p1 : Int32} {h : am_H} (hs : am_Sh h)  {r : Int32} (hf : f_Weeks_hoursToSpare p1 h = some r) : am_Ct 3 M_Weeks_hoursToSpare [.ref 91, .int p1] h 0 0 (am_pI h r) := by
  unfold f_Weeks_hoursToSpare at hf
  refine am_Ct.of (by decide) rfl (Nat.le_of_ble_eq_true rfl) (ls := [(0, .ref 91), (1, .int p1)]) rfl ?_
  refine g_aload_n (i := 0) (by decide +kernel) rfl ?_
  refine g_iload_n (i := 1) (by decide +kernel) rfl ?_
  refine x_callVBp (as := [.int p1]) Vi_Weeks_isDone Vs_Weeks_isDone (hs.k k_91) rfl hf (fun q hq => t_Weeks_isDone hs  hq) Y_Weeks_isDone L_Weeks_108 (by decide +kernel) rfl rfl (Nat.le_of_ble_eq_true rfl) (by decide) (fun q1 hf => ?_)
  refine x_ifb_eq (off := 6) (tgt := 11) hf (by decide +kernel) (by decide) (fun c2 hf => ?_) (fun c2 hf => ?_)
  · refine g_aload_n (i := 0) (by decide +kernel) rfl ?_
    refine x_getr (hs.k k_91) F_Weeks_50 (by decide +kernel) rfl (hs.r r_91_0) ?_
    refine x_getr (hs.k k_1) F_Weeks_76 (by decide +kernel) rfl (hs.r r_1_10) ?_
    refine g_iload_n (i := 1) (by decide +kernel) rfl ?_
    refine x_iald hf (hs.k k_6) (by decide +kernel) (fun x3 hf => ?_)
    refine g_aload_n (i := 0) (by decide +kernel) rfl ?_
    refine x_getr (hs.k k_91) F_Weeks_54 (by decide +kernel) rfl (hs.r r_91_1) ?_
    refine x_geti (hs.k k_10) F_Weeks_79 (by decide +kernel) rfl ?_
    refine g_isub (by decide +kernel) ?_
    refine g_istore_n (i := 2) (by decide +kernel) rfl (by decide) (ls1 := [(0, .ref 91), (1, .int p1), (2, .int (x3 - (h.2.1 10 0)))]) rfl ?_
    refine g_bipush (z := 60) (v := 60) (by decide +kernel) rfl ?_
    refine g_iload_n (i := 2) (by decide +kernel) rfl ?_
    refine g_mmin L_Weeks_82 (by decide +kernel) (by decide) (Nat.le_of_ble_eq_true rfl) ?_
    refine x_nmI hf (fun y4 hf => ?_)
    refine g_istore_n (i := 3) (by decide +kernel) rfl (by decide) (ls1 := [(0, .ref 91), (1, .int p1), (2, .int (x3 - (h.2.1 10 0))), (3, .int y4)]) rfl ?_
    exact am_G.forget (am_subp [0, 1, 2, 3] rfl) (t_Weeks_hoursToSpare_L36  am_fu _ _ _ _ hs hf)
  · refine g_bipush (z := 60) (v := 60) (by decide +kernel) rfl ?_
    exact x_iretp hf (by decide +kernel) rfl
def f_Top_spare (p1 : Int32) (h : am_H) : Option (Int32) :=
  (f_River_hasPerson 1 p1 h).bind fun q1 =>
  (if q1 = true then
    (am_rd (h.2.1 5) 5 p1).bind fun x3 =>
    (if x3 = (-1 : Int32) then
      some (-5 : Int32)
    else
      (f_Weeks_hoursToSpare p1 h).bind fun q5 =>
      some q5)
  else
    some (-2 : Int32))
set_option maxRecDepth 100000 in
set_option maxHeartbeats 4000000 in
theorem t_Top_spare {p1 : Int32} {h : am_H} (hs : am_Sh h)  {r : Int32} (hf : f_Top_spare p1 h = some r) : am_Ct 4 M_Top_spare [.ref 0, .int p1] h 0 0 (am_pI h r) := by
  unfold f_Top_spare at hf
  refine am_Ct.of (by decide) rfl (Nat.le_of_ble_eq_true rfl) (ls := [(0, .ref 0), (1, .int p1)]) rfl ?_
  refine g_aload_n (i := 0) (by decide +kernel) rfl ?_
  refine x_getr (hs.k k_0) F_Top_10 (by decide +kernel) rfl (hs.r r_0_0) ?_
  refine g_iload_n (i := 1) (by decide +kernel) rfl ?_
  refine x_callVBp (as := [.int p1]) Vi_River_hasPerson Vs_River_hasPerson (hs.k k_1) rfl hf (fun q hq => t_River_hasPerson hs (by decide) hq) Y_River_hasPerson L_Top_140 (by decide +kernel) rfl rfl (Nat.le_of_ble_eq_true rfl) (by decide) (fun q1 hf => ?_)
  refine x_ifb_ne (off := 6) (tgt := 14) hf (by decide +kernel) (by decide) (fun c2 hf => ?_) (fun c2 hf => ?_)
  · refine g_aload_n (i := 0) (by decide +kernel) rfl ?_
    refine x_getr (hs.k k_0) F_Top_10 (by decide +kernel) rfl (hs.r r_0_0) ?_
    refine x_getr (hs.k k_1) F_Top_150 (by decide +kernel) rfl (hs.r r_1_9) ?_
    refine g_iload_n (i := 1) (by decide +kernel) rfl ?_
    refine x_iald hf (hs.k k_5) (by decide +kernel) (fun x3 hf => ?_)
    refine g_iconst (z := (-1)) (v := (-1)) (by decide +kernel) rfl ?_
    refine x_icmp_ne (off := 6) (tgt := 30) hf (by decide +kernel) (by decide) (fun c4 hf => ?_) (fun c4 hf => ?_)
    · refine g_aload_n (i := 0) (by decide +kernel) rfl ?_
      refine x_getr (hs.k k_0) F_Top_72 (by decide +kernel) rfl (hs.r r_0_10) ?_
      refine g_iload_n (i := 1) (by decide +kernel) rfl ?_
      refine x_callVIp (as := [.int p1]) Vi_Weeks_hoursToSpare Vs_Weeks_hoursToSpare (hs.k k_91) rfl hf (fun q hq => t_Weeks_hoursToSpare hs  hq) Y_Weeks_hoursToSpare L_Top_264 (by decide +kernel) rfl rfl (Nat.le_of_ble_eq_true rfl) (by decide) (fun q5 hf => ?_)
      exact x_iretp hf (by decide +kernel) rfl
    · refine g_bipush (z := (-5)) (v := (-5)) (by decide +kernel) rfl ?_
      exact x_iretp hf (by decide +kernel) rfl
  · refine g_bipush (z := (-2)) (v := (-2)) (by decide +kernel) rfl ?_
    exact x_iretp hf (by decide +kernel) rfl
def f_Weeks_takeWeek  (h : am_H) : Option (am_H) :=
  (am_cp h 11 6 (0 : Int32) 92 6 (0 : Int32) (6 : Int32)).bind fun h1 =>
  some h1
set_option maxRecDepth 100000 in
set_option maxHeartbeats 4000000 in
theorem t_Weeks_takeWeek  {h : am_H} (hs : am_Sh h)  {r : am_H} (hf : f_Weeks_takeWeek  h = some r) : am_Ct 1 M_Weeks_takeWeek [.ref 91] h 0 0 (am_qV r) := by
  unfold f_Weeks_takeWeek at hf
  refine am_Ct.of (by decide) rfl (Nat.le_of_ble_eq_true rfl) (ls := [(0, .ref 91)]) rfl ?_
  refine g_aload_n (i := 0) (by decide +kernel) rfl ?_
  refine x_getr (hs.k k_91) F_Weeks_54 (by decide +kernel) rfl (hs.r r_91_1) ?_
  refine x_getr (hs.k k_10) F_Weeks_115 (by decide +kernel) rfl (hs.r r_10_3) ?_
  refine g_iconst (z := 0) (v := 0) (by decide +kernel) rfl ?_
  refine g_aload_n (i := 0) (by decide +kernel) rfl ?_
  refine x_getr (hs.k k_91) F_Weeks_9 (by decide +kernel) rfl (hs.r r_91_3) ?_
  refine g_iconst (z := 0) (v := 0) (by decide +kernel) rfl ?_
  refine g_bipush (z := 6) (v := 6) (by decide +kernel) rfl ?_
  refine x_copy hf hs (hs.k k_11) (hs.k k_92) L_Weeks_124 (by decide) (Nat.le_of_ble_eq_true rfl) (by decide +kernel) (fun h1 hf hs => ?_)
  exact x_vret hf hs (by decide +kernel) rfl
def f_Weeks_hoursNeeded_L35 (p1 : Int32) : Nat → Int32 → Int32 → am_H → Option (Int32 × Int32 × am_H)
  | 0, _, _, _ => none
  | n + 1, v2, v3, h =>
    (if (h.2.1 1 1) ≤ v3 then
      some (v2, v3, h)
    else
      (am_wr h 92 6 v3 (-1 : Int32)).bind fun h7 =>
      (f_Weeks_comes p1 92 6 h7).bind fun q8 =>
      (am_rd (h7.2.1 11) 6 v3).bind fun x10 =>
      (am_wr h7 92 6 v3 x10).bind fun h11 =>
      f_Weeks_hoursNeeded_L35 p1 n (if q8 = true then v2 else (v2 ||| ((1 : Int32) <<< (v3 &&& 31)))) (v3 + (1 : Int32)) h11)
set_option maxRecDepth 100000 in
set_option maxHeartbeats 4000000 in
theorem t_Weeks_hoursNeeded_L35 {p1 : Int32}  {Q : Option Value → am_H → Prop} : ∀ (n : Nat) (v2 : Int32) (v3 : Int32) (h : am_H) (q : Int32 × Int32 × am_H), am_Sh h → f_Weeks_hoursNeeded_L35 p1 n v2 v3 h = some q → (am_Sh q.2.2 → am_G 4 M_Weeks_hoursNeeded 0 0 Q 92 [(0, .ref 91), (1, .int p1), (2, .int q.1), (3, .int q.2.1)] [] q.2.2 0 0) → am_G 4 M_Weeks_hoursNeeded 0 0 Q 35 [(0, .ref 91), (1, .int p1), (2, .int v2), (3, .int v3)] [] h 0 0 := by
  intro n
  induction n with
  | zero =>
    intro v2 v3 h q hs hf kont
    rw [f_Weeks_hoursNeeded_L35] at hf
    cases hf
  | succ n ih =>
    intro v2 v3 h q hs hf kont
    rw [f_Weeks_hoursNeeded_L35] at hf
    refine g_iload_n (i := 3) (by decide +kernel) rfl ?_
    refine g_aload_n (i := 0) (by decide +kernel) rfl ?_
    refine x_getr (hs.k k_91) F_Weeks_50 (by decide +kernel) rfl (hs.r r_91_0) ?_
    refine x_geti (hs.k k_1) F_Weeks_121 (by decide +kernel) rfl ?_
    refine x_icmp_ge (off := 49) (tgt := 92) hf (by decide +kernel) (by decide) (fun c6 hf => ?_) (fun c6 hf => ?_)
    · cases hf
      exact am_G.forget (am_subp [0, 1, 2, 3] rfl) (kont hs)
    · refine g_aload_n (i := 0) (by decide +kernel) rfl ?_
      refine x_getr (hs.k k_91) F_Weeks_9 (by decide +kernel) rfl (hs.r r_91_3) ?_
      refine g_iload_n (i := 3) (by decide +kernel) rfl ?_
      refine g_iconst (z := (-1)) (v := (-1)) (by decide +kernel) rfl ?_
      refine x_iast hf hs (hs.k k_92) (by decide +kernel) (fun h7 hf hs => ?_)
      refine g_aload_n (i := 0) (by decide +kernel) rfl ?_
      refine g_iload_n (i := 1) (by decide +kernel) rfl ?_
      refine g_aload_n (i := 0) (by decide +kernel) rfl ?_
      refine x_getr (hs.k k_91) F_Weeks_9 (by decide +kernel) rfl (hs.r r_91_3) ?_
      refine x_callVBp (as := [.int p1, .ref 92]) Vi_Weeks_comes Vs_Weeks_comes (hs.k k_91) rfl hf (fun q hq => t_Weeks_comes hs k_92 hq) Y_Weeks_comes L_Weeks_111 (by decide +kernel) rfl rfl (Nat.le_of_ble_eq_true rfl) (by decide) (fun q8 hf => ?_)
      refine am_cut (J := 71) (ls' := [(0, .ref 91), (1, .int p1), (2, .int (if q8 = true then v2 else (v2 ||| ((1 : Int32) <<< (v3 &&& 31))))), (3, .int v3)]) (st' := []) ?_ (fun K71 => ?_)
      · refine g_aload_n (i := 0) (by decide +kernel) rfl ?_
        refine x_getr (hs.k k_91) F_Weeks_9 (by decide +kernel) rfl (hs.r r_91_3) ?_
        refine g_iload_n (i := 3) (by decide +kernel) rfl ?_
        refine g_aload_n (i := 0) (by decide +kernel) rfl ?_
        refine x_getr (hs.k k_91) F_Weeks_54 (by decide +kernel) rfl (hs.r r_91_1) ?_
        refine x_getr (hs.k k_10) F_Weeks_115 (by decide +kernel) rfl (hs.r r_10_3) ?_
        refine g_iload_n (i := 3) (by decide +kernel) rfl ?_
        refine x_iald hf (hs.k k_11) (by decide +kernel) (fun x10 hf => ?_)
        refine x_iast hf hs (hs.k k_92) (by decide +kernel) (fun h11 hf hs => ?_)
        refine g_iinc (i := 3) (z := 1) (v := (v3 + (1 : Int32))) (by decide +kernel) rfl rfl rfl (by decide) (ls1 := [(0, .ref 91), (1, .int p1), (2, .int (if q8 = true then v2 else (v2 ||| ((1 : Int32) <<< (v3 &&& 31))))), (3, .int (v3 + (1 : Int32)))]) rfl ?_
        refine g_goto (off := (-54)) (tgt := 35) (by decide +kernel) (by decide) ?_
        exact am_G.forget (am_subp [0, 1, 2, 3] rfl) (ih _ _ _ _ hs hf kont)
      refine p_ifb_ne (off := 9) (tgt := 71) (by decide +kernel) (by decide) (fun c9 => ?_) (fun c9 => ?_)
      · have K1 := K71
        simp only [if_pos c9] at K1
        exact am_G.forget (am_subp [0, 1, 2, 3] rfl) K1
      · refine g_iload_n (i := 2) (by decide +kernel) rfl ?_
        refine g_iconst (z := 1) (v := 1) (by decide +kernel) rfl ?_
        refine g_iload_n (i := 3) (by decide +kernel) rfl ?_
        refine g_ishl (by decide +kernel) ?_
        refine g_ior (by decide +kernel) ?_
        refine g_istore_n (i := 2) (by decide +kernel) rfl (by decide) (ls1 := [(0, .ref 91), (1, .int p1), (2, .int (v2 ||| ((1 : Int32) <<< (v3 &&& 31)))), (3, .int v3)]) rfl ?_
        have K1 := K71
        simp only [if_neg c9] at K1
        exact am_G.forget (am_subp [0, 1, 2, 3] rfl) K1
def f_Weeks_hoursNeeded (p1 : Int32) (h : am_H) : Option (Int32 × am_H) :=
  (f_Weeks_isDone p1 h).bind fun q1 =>
  (if q1 = true then
    some ((0 : Int32), h)
  else
    (f_Weeks_comes p1 11 6 h).bind fun q3 =>
    (if q3 = true then
      (f_Weeks_takeWeek  h).bind fun q5 =>
      (f_Weeks_hoursNeeded_L35 p1 am_fu (0 : Int32) (0 : Int32) q5).bind fun q12 =>
      some (q12.1, q12.2.2)
    else
      some ((-1 : Int32), h)))
set_option maxRecDepth 100000 in
set_option maxHeartbeats 4000000 in
theorem t_Weeks_hoursNeeded {p1 : Int32} {h : am_H} (hs : am_Sh h)  {r : Int32 × am_H} (hf : f_Weeks_hoursNeeded p1 h = some r) : am_Ct 4 M_Weeks_hoursNeeded [.ref 91, .int p1] h 0 0 (am_qI r) := by
  unfold f_Weeks_hoursNeeded at hf
  refine am_Ct.of (by decide) rfl (Nat.le_of_ble_eq_true rfl) (ls := [(0, .ref 91), (1, .int p1)]) rfl ?_
  refine g_aload_n (i := 0) (by decide +kernel) rfl ?_
  refine g_iload_n (i := 1) (by decide +kernel) rfl ?_
  refine x_callVBp (as := [.int p1]) Vi_Weeks_isDone Vs_Weeks_isDone (hs.k k_91) rfl hf (fun q hq => t_Weeks_isDone hs  hq) Y_Weeks_isDone L_Weeks_108 (by decide +kernel) rfl rfl (Nat.le_of_ble_eq_true rfl) (by decide) (fun q1 hf => ?_)
  refine x_ifb_eq (off := 5) (tgt := 10) hf (by decide +kernel) (by decide) (fun c2 hf => ?_) (fun c2 hf => ?_)
  · refine g_aload_n (i := 0) (by decide +kernel) rfl ?_
    refine g_iload_n (i := 1) (by decide +kernel) rfl ?_
    refine g_aload_n (i := 0) (by decide +kernel) rfl ?_
    refine x_getr (hs.k k_91) F_Weeks_54 (by decide +kernel) rfl (hs.r r_91_1) ?_
    refine x_getr (hs.k k_10) F_Weeks_115 (by decide +kernel) rfl (hs.r r_10_3) ?_
    refine x_callVBp (as := [.int p1, .ref 11]) Vi_Weeks_comes Vs_Weeks_comes (hs.k k_91) rfl hf (fun q hq => t_Weeks_comes hs k_11 hq) Y_Weeks_comes L_Weeks_111 (by decide +kernel) rfl rfl (Nat.le_of_ble_eq_true rfl) (by decide) (fun q3 hf => ?_)
    refine x_ifb_ne (off := 5) (tgt := 27) hf (by decide +kernel) (by decide) (fun c4 hf => ?_) (fun c4 hf => ?_)
    · refine g_iconst (z := 0) (v := 0) (by decide +kernel) rfl ?_
      refine g_istore_n (i := 2) (by decide +kernel) rfl (by decide) (ls1 := [(0, .ref 91), (1, .int p1), (2, .int (0 : Int32))]) rfl ?_
      refine g_aload_n (i := 0) (by decide +kernel) rfl ?_
      refine x_callVV (as := []) Vi_Weeks_takeWeek Vs_Weeks_takeWeek (hs.k k_91) rfl hf (fun q hq => t_Weeks_takeWeek hs  hq) Y_Weeks_takeWeek L_Weeks_118 (by decide +kernel) rfl rfl (Nat.le_of_ble_eq_true rfl) (by decide) (fun q5 hf hs => ?_)
      refine g_iconst (z := 0) (v := 0) (by decide +kernel) rfl ?_
      refine g_istore_n (i := 3) (by decide +kernel) rfl (by decide) (ls1 := [(0, .ref 91), (1, .int p1), (2, .int (0 : Int32)), (3, .int (0 : Int32))]) rfl ?_
      obtain ⟨q12, hqq12, hf⟩ := Option.bind_eq_some_iff.mp hf
      refine t_Weeks_hoursNeeded_L35  am_fu _ _ _ q12 hs hqq12 (fun hs => ?_)
      refine g_iload_n (i := 2) (by decide +kernel) rfl ?_
      exact x_iret hf hs (by decide +kernel) rfl
    · refine g_iconst (z := (-1)) (v := (-1)) (by decide +kernel) rfl ?_
      exact x_iret hf hs (by decide +kernel) rfl
  · refine g_iconst (z := 0) (v := 0) (by decide +kernel) rfl ?_
    exact x_iret hf hs (by decide +kernel) rfl
def f_Top_needs (p1 : Int32) (h : am_H) : Option (Int32 × am_H) :=
  (f_River_hasPerson 1 p1 h).bind fun q1 =>
  (if q1 = true then
    (am_rd (h.2.1 5) 5 p1).bind fun x3 =>
    (if x3 = (-1 : Int32) then
      some ((-5 : Int32), h)
    else
      (f_Weeks_hoursNeeded p1 h).bind fun q5 =>
      some (q5.1, q5.2))
  else
    some ((-2 : Int32), h))
set_option maxRecDepth 100000 in
set_option maxHeartbeats 4000000 in
theorem t_Top_needs {p1 : Int32} {h : am_H} (hs : am_Sh h)  {r : Int32 × am_H} (hf : f_Top_needs p1 h = some r) : am_Ct 5 M_Top_needs [.ref 0, .int p1] h 0 0 (am_qI r) := by
  unfold f_Top_needs at hf
  refine am_Ct.of (by decide) rfl (Nat.le_of_ble_eq_true rfl) (ls := [(0, .ref 0), (1, .int p1)]) rfl ?_
  refine g_aload_n (i := 0) (by decide +kernel) rfl ?_
  refine x_getr (hs.k k_0) F_Top_10 (by decide +kernel) rfl (hs.r r_0_0) ?_
  refine g_iload_n (i := 1) (by decide +kernel) rfl ?_
  refine x_callVBp (as := [.int p1]) Vi_River_hasPerson Vs_River_hasPerson (hs.k k_1) rfl hf (fun q hq => t_River_hasPerson hs (by decide) hq) Y_River_hasPerson L_Top_140 (by decide +kernel) rfl rfl (Nat.le_of_ble_eq_true rfl) (by decide) (fun q1 hf => ?_)
  refine x_ifb_ne (off := 6) (tgt := 14) hf (by decide +kernel) (by decide) (fun c2 hf => ?_) (fun c2 hf => ?_)
  · refine g_aload_n (i := 0) (by decide +kernel) rfl ?_
    refine x_getr (hs.k k_0) F_Top_10 (by decide +kernel) rfl (hs.r r_0_0) ?_
    refine x_getr (hs.k k_1) F_Top_150 (by decide +kernel) rfl (hs.r r_1_9) ?_
    refine g_iload_n (i := 1) (by decide +kernel) rfl ?_
    refine x_iald hf (hs.k k_5) (by decide +kernel) (fun x3 hf => ?_)
    refine g_iconst (z := (-1)) (v := (-1)) (by decide +kernel) rfl ?_
    refine x_icmp_ne (off := 6) (tgt := 30) hf (by decide +kernel) (by decide) (fun c4 hf => ?_) (fun c4 hf => ?_)
    · refine g_aload_n (i := 0) (by decide +kernel) rfl ?_
      refine x_getr (hs.k k_0) F_Top_72 (by decide +kernel) rfl (hs.r r_0_10) ?_
      refine g_iload_n (i := 1) (by decide +kernel) rfl ?_
      refine x_callVI (as := [.int p1]) Vi_Weeks_hoursNeeded Vs_Weeks_hoursNeeded (hs.k k_91) rfl hf (fun q hq => t_Weeks_hoursNeeded hs  hq) Y_Weeks_hoursNeeded L_Top_267 (by decide +kernel) rfl rfl (Nat.le_of_ble_eq_true rfl) (by decide) (fun q5 hf hs => ?_)
      exact x_iret hf hs (by decide +kernel) rfl
    · refine g_bipush (z := (-5)) (v := (-5)) (by decide +kernel) rfl ?_
      exact x_iret hf hs (by decide +kernel) rfl
  · refine g_bipush (z := (-2)) (v := (-2)) (by decide +kernel) rfl ?_
    exact x_iret hf hs (by decide +kernel) rfl
def f_Weeks_movesOf_L17 (p1 : Nat) (p1L : Nat) : Nat → Int32 → Int32 → Int32 → am_H → Option (Int32 × Int32 × Int32)
  | 0, _, _, _, _ => none
  | n + 1, v2, v3, v4, h =>
    (if (h.2.1 1 1) ≤ v4 then
      some (v2, v3, v4)
    else
      (am_rd (h.2.1 p1) p1L v4).bind fun x3 =>
      (am_rd (h.2.1 p1) p1L v4).bind fun x5 =>
      f_Weeks_movesOf_L17 p1 p1L n (if x3 = v3 then v2 else (v2 + (1 : Int32))) x5 (v4 + (1 : Int32)) h)
set_option maxRecDepth 100000 in
set_option maxHeartbeats 4000000 in
theorem t_Weeks_movesOf_L17 {p1 : Nat} {p1L : Nat} (hp1 : am_K0[p1]? = some (.inr (.int, p1L))) {Q : Option Value → am_H → Prop} : ∀ (n : Nat) (v2 : Int32) (v3 : Int32) (v4 : Int32) (h : am_H) (q : Int32 × Int32 × Int32), am_Sh h → f_Weeks_movesOf_L17 p1 p1L n v2 v3 v4 h = some q → (am_G 0 M_Weeks_movesOf 0 0 Q 51 [(0, .ref 91), (1, .ref p1), (2, .int q.1), (3, .int q.2.1), (4, .int q.2.2)] [] h 0 0) → am_G 0 M_Weeks_movesOf 0 0 Q 17 [(0, .ref 91), (1, .ref p1), (2, .int v2), (3, .int v3), (4, .int v4)] [] h 0 0 := by
  intro n
  induction n with
  | zero =>
    intro v2 v3 v4 h q hs hf kont
    rw [f_Weeks_movesOf_L17] at hf
    cases hf
  | succ n ih =>
    intro v2 v3 v4 h q hs hf kont
    rw [f_Weeks_movesOf_L17] at hf
    refine g_iload (i := 4) (by decide +kernel) rfl ?_
    refine g_aload_n (i := 0) (by decide +kernel) rfl ?_
    refine x_getr (hs.k k_91) F_Weeks_50 (by decide +kernel) rfl (hs.r r_91_0) ?_
    refine x_geti (hs.k k_1) F_Weeks_121 (by decide +kernel) rfl ?_
    refine x_icmp_ge (off := 25) (tgt := 51) hf (by decide +kernel) (by decide) (fun c2 hf => ?_) (fun c2 hf => ?_)
    · cases hf
      exact am_G.forget (am_subp [0, 1, 2, 3, 4] rfl) kont
    · refine g_aload_n (i := 1) (by decide +kernel) rfl ?_
      refine g_iload (i := 4) (by decide +kernel) rfl ?_
      refine x_iald hf (hs.k hp1) (by decide +kernel) (fun x3 hf => ?_)
      refine g_iload_n (i := 3) (by decide +kernel) rfl ?_
      refine am_cut (J := 40) (ls' := [(0, .ref 91), (1, .ref p1), (2, .int (if x3 = v3 then v2 else (v2 + (1 : Int32)))), (3, .int v3), (4, .int v4)]) (st' := []) ?_ (fun K40 => ?_)
      · refine g_aload_n (i := 1) (by decide +kernel) rfl ?_
        refine g_iload (i := 4) (by decide +kernel) rfl ?_
        refine x_iald hf (hs.k hp1) (by decide +kernel) (fun x5 hf => ?_)
        refine g_istore_n (i := 3) (by decide +kernel) rfl (by decide) (ls1 := [(0, .ref 91), (1, .ref p1), (2, .int (if x3 = v3 then v2 else (v2 + (1 : Int32)))), (3, .int x5), (4, .int v4)]) rfl ?_
        refine g_iinc (i := 4) (z := 1) (v := (v4 + (1 : Int32))) (by decide +kernel) rfl rfl rfl (by decide) (ls1 := [(0, .ref 91), (1, .ref p1), (2, .int (if x3 = v3 then v2 else (v2 + (1 : Int32)))), (3, .int x5), (4, .int (v4 + (1 : Int32)))]) rfl ?_
        refine g_goto (off := (-31)) (tgt := 17) (by decide +kernel) (by decide) ?_
        exact am_G.forget (am_subp [0, 1, 2, 3, 4] rfl) (ih _ _ _ _ _ hs hf kont)
      refine p_icmp_eq (off := 6) (tgt := 40) (by decide +kernel) (by decide) (fun c4 => ?_) (fun c4 => ?_)
      · have K1 := K40
        simp only [if_pos c4] at K1
        exact am_G.forget (am_subp [0, 1, 2, 3, 4] rfl) K1
      · refine g_iinc (i := 2) (z := 1) (v := (v2 + (1 : Int32))) (by decide +kernel) rfl rfl rfl (by decide) (ls1 := [(0, .ref 91), (1, .ref p1), (2, .int (v2 + (1 : Int32))), (3, .int v3), (4, .int v4)]) rfl ?_
        have K1 := K40
        simp only [if_neg c4] at K1
        exact am_G.forget (am_subp [0, 1, 2, 3, 4] rfl) K1
def f_Weeks_movesOf (p1 : Nat) (p1L : Nat) (h : am_H) : Option (Int32) :=
  (am_rd (h.2.1 p1) p1L ((h.2.1 1 1) - (1 : Int32))).bind fun x1 =>
  (f_Weeks_movesOf_L17 p1 p1L am_fu (0 : Int32) x1 (0 : Int32) h).bind fun q6 =>
  some q6.1
set_option maxRecDepth 100000 in
set_option maxHeartbeats 4000000 in
theorem t_Weeks_movesOf {p1 : Nat} {p1L : Nat} {h : am_H} (hs : am_Sh h) (hp1 : am_K0[p1]? = some (.inr (.int, p1L))) {r : Int32} (hf : f_Weeks_movesOf p1 p1L h = some r) : am_Ct 0 M_Weeks_movesOf [.ref 91, .ref p1] h 0 0 (am_pI h r) := by
  unfold f_Weeks_movesOf at hf
  refine am_Ct.of (by decide) rfl (Nat.le_of_ble_eq_true rfl) (ls := [(0, .ref 91), (1, .ref p1)]) rfl ?_
  refine g_iconst (z := 0) (v := 0) (by decide +kernel) rfl ?_
  refine g_istore_n (i := 2) (by decide +kernel) rfl (by decide) (ls1 := [(0, .ref 91), (1, .ref p1), (2, .int (0 : Int32))]) rfl ?_
  refine g_aload_n (i := 1) (by decide +kernel) rfl ?_
  refine g_aload_n (i := 0) (by decide +kernel) rfl ?_
  refine x_getr (hs.k k_91) F_Weeks_50 (by decide +kernel) rfl (hs.r r_91_0) ?_
  refine x_geti (hs.k k_1) F_Weeks_121 (by decide +kernel) rfl ?_
  refine g_iconst (z := 1) (v := 1) (by decide +kernel) rfl ?_
  refine g_isub (by decide +kernel) ?_
  refine x_iald hf (hs.k hp1) (by decide +kernel) (fun x1 hf => ?_)
  refine g_istore_n (i := 3) (by decide +kernel) rfl (by decide) (ls1 := [(0, .ref 91), (1, .ref p1), (2, .int (0 : Int32)), (3, .int x1)]) rfl ?_
  refine g_iconst (z := 0) (v := 0) (by decide +kernel) rfl ?_
  refine g_istore (i := 4) (by decide +kernel) rfl (by decide) (ls1 := [(0, .ref 91), (1, .ref p1), (2, .int (0 : Int32)), (3, .int x1), (4, .int (0 : Int32))]) rfl ?_
  obtain ⟨q6, hqq6, hf⟩ := Option.bind_eq_some_iff.mp hf
  refine t_Weeks_movesOf_L17 hp1 am_fu _ _ _ _ q6 hs hqq6 ?_
  refine g_iload_n (i := 2) (by decide +kernel) rfl ?_
  exact x_iretp hf (by decide +kernel) rfl
def f_Top_moves  (h : am_H) : Option (Int32) :=
  (f_Weeks_movesOf 11 6 h).bind fun q1 =>
  some q1
set_option maxRecDepth 100000 in
set_option maxHeartbeats 4000000 in
theorem t_Top_moves  {h : am_H} (hs : am_Sh h)  {r : Int32} (hf : f_Top_moves  h = some r) : am_Ct 1 M_Top_moves [.ref 0] h 0 0 (am_pI h r) := by
  unfold f_Top_moves at hf
  refine am_Ct.of (by decide) rfl (Nat.le_of_ble_eq_true rfl) (ls := [(0, .ref 0)]) rfl ?_
  refine g_aload_n (i := 0) (by decide +kernel) rfl ?_
  refine x_getr (hs.k k_0) F_Top_72 (by decide +kernel) rfl (hs.r r_0_10) ?_
  refine g_aload_n (i := 0) (by decide +kernel) rfl ?_
  refine x_getr (hs.k k_0) F_Top_19 (by decide +kernel) rfl (hs.r r_0_1) ?_
  refine x_getr (hs.k k_10) F_Top_129 (by decide +kernel) rfl (hs.r r_10_3) ?_
  refine x_callVIp (as := [.ref 11]) Vi_Weeks_movesOf Vs_Weeks_movesOf (hs.k k_91) rfl hf (fun q hq => t_Weeks_movesOf hs k_11 hq) Y_Weeks_movesOf L_Top_270 (by decide +kernel) rfl rfl (Nat.le_of_ble_eq_true rfl) (by decide) (fun q1 hf => ?_)
  exact x_iretp hf (by decide +kernel) rfl
def f_Weeks_comesByAll_L45 (p1 : Int32) : Nat → Int32 → Int32 → Int32 → Int32 → Int32 → Int32 → am_H → Option (Int32 × Int32)
  | 0, _, _, _, _, _, _, _ => none
  | n + 1, v2, v3, v4, v5, v6, v7, h =>
    (if (h.2.1 1 0) ≤ v7 then
      some (v6, v7)
    else
      (f_River_spread 1 v5 v2 v7 h).bind fun q6 =>
      f_Weeks_comesByAll_L45 p1 n v2 v3 v4 v5 (v6 ||| q6) (v7 + (1 : Int32)) h)
set_option maxRecDepth 100000 in
set_option maxHeartbeats 4000000 in
theorem t_Weeks_comesByAll_L45 {p1 : Int32}  {Q : Option Value → am_H → Prop} : ∀ (n : Nat) (v2 : Int32) (v3 : Int32) (v4 : Int32) (v5 : Int32) (v6 : Int32) (v7 : Int32) (h : am_H) (q : Int32 × Int32), am_Sh h → f_Weeks_comesByAll_L45 p1 n v2 v3 v4 v5 v6 v7 h = some q → (am_G 2 M_Weeks_comesByAll 0 0 Q 80 [(0, .ref 91), (1, .int p1), (2, .int v2), (3, .int v3), (4, .int v4), (5, .int v5), (6, .int q.1), (7, .int q.2)] [] h 0 0) → am_G 2 M_Weeks_comesByAll 0 0 Q 45 [(0, .ref 91), (1, .int p1), (2, .int v2), (3, .int v3), (4, .int v4), (5, .int v5), (6, .int v6), (7, .int v7)] [] h 0 0 := by
  intro n
  induction n with
  | zero =>
    intro v2 v3 v4 v5 v6 v7 h q hs hf kont
    rw [f_Weeks_comesByAll_L45] at hf
    cases hf
  | succ n ih =>
    intro v2 v3 v4 v5 v6 v7 h q hs hf kont
    rw [f_Weeks_comesByAll_L45] at hf
    refine g_iload (i := 7) (by decide +kernel) rfl ?_
    refine g_aload_n (i := 0) (by decide +kernel) rfl ?_
    refine x_getr (hs.k k_91) F_Weeks_50 (by decide +kernel) rfl (hs.r r_91_0) ?_
    refine x_geti (hs.k k_1) F_Weeks_130 (by decide +kernel) rfl ?_
    refine x_icmp_ge (off := 26) (tgt := 80) hf (by decide +kernel) (by decide) (fun c5 hf => ?_) (fun c5 hf => ?_)
    · cases hf
      exact am_G.forget (am_subp [0, 1, 2, 3, 4, 5, 6, 7] rfl) kont
    · refine g_iload (i := 6) (by decide +kernel) rfl ?_
      refine g_aload_n (i := 0) (by decide +kernel) rfl ?_
      refine x_getr (hs.k k_91) F_Weeks_50 (by decide +kernel) rfl (hs.r r_91_0) ?_
      refine g_iload (i := 5) (by decide +kernel) rfl ?_
      refine g_iload_n (i := 2) (by decide +kernel) rfl ?_
      refine g_iload (i := 7) (by decide +kernel) rfl ?_
      refine x_callVIp (as := [.int v5, .int v2, .int v7]) Vi_River_spread Vs_River_spread (hs.k k_1) rfl hf (fun q hq => t_River_spread hs (by decide) hq) Y_River_spread L_Weeks_173 (by decide +kernel) rfl rfl (Nat.le_of_ble_eq_true rfl) (by decide) (fun q6 hf => ?_)
      refine g_ior (by decide +kernel) ?_
      refine g_istore (i := 6) (by decide +kernel) rfl (by decide) (ls1 := [(0, .ref 91), (1, .int p1), (2, .int v2), (3, .int v3), (4, .int v4), (5, .int v5), (6, .int (v6 ||| q6)), (7, .int v7)]) rfl ?_
      refine g_iinc (i := 7) (z := 1) (v := (v7 + (1 : Int32))) (by decide +kernel) rfl rfl rfl (by decide) (ls1 := [(0, .ref 91), (1, .int p1), (2, .int v2), (3, .int v3), (4, .int v4), (5, .int v5), (6, .int (v6 ||| q6)), (7, .int (v7 + (1 : Int32)))]) rfl ?_
      refine g_goto (off := (-32)) (tgt := 45) (by decide +kernel) (by decide) ?_
      exact am_G.forget (am_subp [0, 1, 2, 3, 4, 5, 6, 7] rfl) (ih _ _ _ _ _ _ _ _ hs hf kont)
def f_Weeks_comesByAll_L21 (p1 : Int32) : Nat → Int32 → Int32 → Int32 → am_H → Option (Int32 × Int32)
  | 0, _, _, _, _ => none
  | n + 1, v2, v3, v4, h =>
    (if v3 ≤ v4 then
      some (v2, v4)
    else
      (f_Ahead_rowIn p1 v4 h).bind fun q4 =>
      (f_Weeks_comesByAll_L45 p1 am_fu v2 v3 v4 q4 v2 (0 : Int32) h).bind fun q7 =>
      f_Weeks_comesByAll_L21 p1 n q7.1 v3 (v4 + (1 : Int32)) h)
set_option maxRecDepth 100000 in
set_option maxHeartbeats 4000000 in
theorem t_Weeks_comesByAll_L21 {p1 : Int32}  {Q : Option Value → am_H → Prop} : ∀ (n : Nat) (v2 : Int32) (v3 : Int32) (v4 : Int32) (h : am_H) (q : Int32 × Int32), am_Sh h → f_Weeks_comesByAll_L21 p1 n v2 v3 v4 h = some q → (am_G 2 M_Weeks_comesByAll 0 0 Q 89 [(0, .ref 91), (1, .int p1), (2, .int q.1), (3, .int v3), (4, .int q.2)] [] h 0 0) → am_G 2 M_Weeks_comesByAll 0 0 Q 21 [(0, .ref 91), (1, .int p1), (2, .int v2), (3, .int v3), (4, .int v4)] [] h 0 0 := by
  intro n
  induction n with
  | zero =>
    intro v2 v3 v4 h q hs hf kont
    rw [f_Weeks_comesByAll_L21] at hf
    cases hf
  | succ n ih =>
    intro v2 v3 v4 h q hs hf kont
    rw [f_Weeks_comesByAll_L21] at hf
    refine g_iload (i := 4) (by decide +kernel) rfl ?_
    refine g_iload_n (i := 3) (by decide +kernel) rfl ?_
    refine x_icmp_ge (off := 65) (tgt := 89) hf (by decide +kernel) (by decide) (fun c3 hf => ?_) (fun c3 hf => ?_)
    · cases hf
      exact am_G.forget (am_subp [0, 1, 2, 3, 4] rfl) kont
    · refine g_aload_n (i := 0) (by decide +kernel) rfl ?_
      refine x_getr (hs.k k_91) F_Weeks_58 (by decide +kernel) rfl (hs.r r_91_2) ?_
      refine g_iload_n (i := 1) (by decide +kernel) rfl ?_
      refine g_iload (i := 4) (by decide +kernel) rfl ?_
      refine x_callVIp (as := [.int p1, .int v4]) Vi_Ahead_rowIn Vs_Ahead_rowIn (hs.k k_86) rfl hf (fun q hq => t_Ahead_rowIn hs  hq) Y_Ahead_rowIn L_Weeks_170 (by decide +kernel) rfl rfl (Nat.le_of_ble_eq_true rfl) (by decide) (fun q4 hf => ?_)
      refine g_istore (i := 5) (by decide +kernel) rfl (by decide) (ls1 := [(0, .ref 91), (1, .int p1), (2, .int v2), (3, .int v3), (4, .int v4), (5, .int q4)]) rfl ?_
      refine g_iload_n (i := 2) (by decide +kernel) rfl ?_
      refine g_istore (i := 6) (by decide +kernel) rfl (by decide) (ls1 := [(0, .ref 91), (1, .int p1), (2, .int v2), (3, .int v3), (4, .int v4), (5, .int q4), (6, .int v2)]) rfl ?_
      refine g_iconst (z := 0) (v := 0) (by decide +kernel) rfl ?_
      refine g_istore (i := 7) (by decide +kernel) rfl (by decide) (ls1 := [(0, .ref 91), (1, .int p1), (2, .int v2), (3, .int v3), (4, .int v4), (5, .int q4), (6, .int v2), (7, .int (0 : Int32))]) rfl ?_
      obtain ⟨q7, hqq7, hf⟩ := Option.bind_eq_some_iff.mp hf
      refine t_Weeks_comesByAll_L45  am_fu _ _ _ _ _ _ _ q7 hs hqq7 ?_
      refine g_iload (i := 6) (by decide +kernel) rfl ?_
      refine g_istore_n (i := 2) (by decide +kernel) rfl (by decide) (ls1 := [(0, .ref 91), (1, .int p1), (2, .int q7.1), (3, .int v3), (4, .int v4), (5, .int q4), (6, .int q7.1), (7, .int q7.2)]) rfl ?_
      refine g_iinc (i := 4) (z := 1) (v := (v4 + (1 : Int32))) (by decide +kernel) rfl rfl rfl (by decide) (ls1 := [(0, .ref 91), (1, .int p1), (2, .int q7.1), (3, .int v3), (4, .int (v4 + (1 : Int32))), (5, .int q4), (6, .int q7.1), (7, .int q7.2)]) rfl ?_
      refine g_goto (off := (-65)) (tgt := 21) (by decide +kernel) (by decide) ?_
      exact am_G.forget (am_subp [0, 1, 2, 3, 4] rfl) (ih _ _ _ _ _ hs hf kont)
def f_Weeks_comesByAll (p1 : Int32) (h : am_H) : Option (Bool) :=
  (am_rd (h.2.1 12) 5 p1).bind fun x1 =>
  (f_Weeks_hoursLeft p1 h).bind fun q2 =>
  (f_Weeks_comesByAll_L21 p1 am_fu ((1 : Int32) <<< (x1 &&& 31)) q2 (0 : Int32) h).bind fun q8 =>
  (if q2 < 0 then
    some false
  else
    (am_rd (h.2.1 5) 5 p1).bind fun x10 =>
    (f_Top_hasBit q8.1 x10 h).bind fun q11 =>
    (if q11 = true then
      some true
    else
      some false))
set_option maxRecDepth 100000 in
set_option maxHeartbeats 4000000 in
theorem t_Weeks_comesByAll {p1 : Int32} {h : am_H} (hs : am_Sh h)  {r : Bool} (hf : f_Weeks_comesByAll p1 h = some r) : am_Ct 2 M_Weeks_comesByAll [.ref 91, .int p1] h 0 0 (am_pB h r) := by
  unfold f_Weeks_comesByAll at hf
  refine am_Ct.of (by decide) rfl (Nat.le_of_ble_eq_true rfl) (ls := [(0, .ref 91), (1, .int p1)]) rfl ?_
  refine g_iconst (z := 1) (v := 1) (by decide +kernel) rfl ?_
  refine g_aload_n (i := 0) (by decide +kernel) rfl ?_
  refine x_getr (hs.k k_91) F_Weeks_54 (by decide +kernel) rfl (hs.r r_91_1) ?_
  refine x_getr (hs.k k_10) F_Weeks_88 (by decide +kernel) rfl (hs.r r_10_4) ?_
  refine g_iload_n (i := 1) (by decide +kernel) rfl ?_
  refine x_iald hf (hs.k k_12) (by decide +kernel) (fun x1 hf => ?_)
  refine g_ishl (by decide +kernel) ?_
  refine g_istore_n (i := 2) (by decide +kernel) rfl (by decide) (ls1 := [(0, .ref 91), (1, .int p1), (2, .int ((1 : Int32) <<< (x1 &&& 31)))]) rfl ?_
  refine g_aload_n (i := 0) (by decide +kernel) rfl ?_
  refine g_iload_n (i := 1) (by decide +kernel) rfl ?_
  refine x_callVIp (as := [.int p1]) Vi_Weeks_hoursLeft Vs_Weeks_hoursLeft (hs.k k_91) rfl hf (fun q hq => t_Weeks_hoursLeft hs  hq) Y_Weeks_hoursLeft L_Weeks_91 (by decide +kernel) rfl rfl (Nat.le_of_ble_eq_true rfl) (by decide) (fun q2 hf => ?_)
  refine g_istore_n (i := 3) (by decide +kernel) rfl (by decide) (ls1 := [(0, .ref 91), (1, .int p1), (2, .int ((1 : Int32) <<< (x1 &&& 31))), (3, .int q2)]) rfl ?_
  refine g_iconst (z := 0) (v := 0) (by decide +kernel) rfl ?_
  refine g_istore (i := 4) (by decide +kernel) rfl (by decide) (ls1 := [(0, .ref 91), (1, .int p1), (2, .int ((1 : Int32) <<< (x1 &&& 31))), (3, .int q2), (4, .int (0 : Int32))]) rfl ?_
  obtain ⟨q8, hqq8, hf⟩ := Option.bind_eq_some_iff.mp hf
  refine t_Weeks_comesByAll_L21  am_fu _ _ _ _ q8 hs hqq8 ?_
  refine g_iload_n (i := 3) (by decide +kernel) rfl ?_
  refine x_if_lt (off := 23) (tgt := 113) hf (by decide +kernel) (by decide) (fun c9 hf => ?_) (fun c9 hf => ?_)
  · refine g_iconst (z := 0) (v := 0) (by decide +kernel) rfl ?_
    exact x_zretp rfl hf (by decide +kernel) rfl
  · refine g_iload_n (i := 2) (by decide +kernel) rfl ?_
    refine g_aload_n (i := 0) (by decide +kernel) rfl ?_
    refine x_getr (hs.k k_91) F_Weeks_50 (by decide +kernel) rfl (hs.r r_91_0) ?_
    refine x_getr (hs.k k_1) F_Weeks_62 (by decide +kernel) rfl (hs.r r_1_9) ?_
    refine g_iload_n (i := 1) (by decide +kernel) rfl ?_
    refine x_iald hf (hs.k k_5) (by decide +kernel) (fun x10 hf => ?_)
    refine x_callSNBp (as := [.int q8.1, .int x10]) St_Top_hasBit hf (fun q hq => t_Top_hasBit hs  hq) Y_Top_hasBit L_Weeks_72 (by decide +kernel) rfl rfl (Nat.le_of_ble_eq_true rfl) (by decide) (fun q11 hf => ?_)
    refine x_ifb_eq (off := 7) (tgt := 113) hf (by decide +kernel) (by decide) (fun c12 hf => ?_) (fun c12 hf => ?_)
    · refine g_iconst (z := 0) (v := 0) (by decide +kernel) rfl ?_
      exact x_zretp rfl hf (by decide +kernel) rfl
    · refine g_iconst (z := 1) (v := 1) (by decide +kernel) rfl ?_
      refine g_goto (off := 4) (tgt := 114) (by decide +kernel) (by decide) ?_
      exact x_zretp rfl hf (by decide +kernel) rfl
def f_Weeks_sortPeople_L25  : Nat → Int32 → am_H → Option (Int32 × am_H)
  | 0, _, _ => none
  | n + 1, v1, h =>
    (if (h.2.1 1 2) ≤ v1 then
      some (v1, h)
    else
      (f_Weeks_hasErrand v1 h).bind fun q6 =>
      (if q6 = true then
        (f_Weeks_isDone v1 h).bind fun q8 =>
        (if q8 = true then
          am_let (am_sI h 91 12 ((h.2.1 91 12) + (1 : Int32))) fun h10 =>
          f_Weeks_sortPeople_L25  n (v1 + (1 : Int32)) h10
        else
          (f_Weeks_comes v1 92 6 h).bind fun q11 =>
          (if q11 = true then
            am_let (am_sI h 91 12 ((h.2.1 91 12) + (1 : Int32))) fun h20 =>
            f_Weeks_sortPeople_L25  n (v1 + (1 : Int32)) h20
          else
            (f_Weeks_comesByAll v1 h).bind fun q13 =>
            (if q13 = true then
              (am_wr h 94 5 (h.2.1 91 11) v1).bind fun h16 =>
              (am_rd (h16.2.1 12) 5 v1).bind fun x17 =>
              (am_wr h16 95 35 (h16.2.1 91 11) ((1 : Int32) <<< (x17 &&& 31))).bind fun h18 =>
              am_let (am_sI h18 91 11 ((h18.2.1 91 11) + (1 : Int32))) fun h19 =>
              f_Weeks_sortPeople_L25  n (v1 + (1 : Int32)) h19
            else
              am_let (am_sI h 91 13 ((h.2.1 91 13) + (1 : Int32))) fun h15 =>
              f_Weeks_sortPeople_L25  n (v1 + (1 : Int32)) h15)))
      else
        f_Weeks_sortPeople_L25  n (v1 + (1 : Int32)) h))
set_option maxRecDepth 100000 in
set_option maxHeartbeats 4000000 in
theorem t_Weeks_sortPeople_L25   {Q : Option Value → am_H → Prop} : ∀ (n : Nat) (v1 : Int32) (h : am_H) (q : Int32 × am_H), am_Sh h → f_Weeks_sortPeople_L25  n v1 h = some q → (am_Sh q.2 → am_G 4 M_Weeks_sortPeople 0 0 Q 147 [(0, .ref 91), (1, .int q.1)] [] q.2 0 0) → am_G 4 M_Weeks_sortPeople 0 0 Q 25 [(0, .ref 91), (1, .int v1)] [] h 0 0 := by
  intro n
  induction n with
  | zero =>
    intro v1 h q hs hf kont
    rw [f_Weeks_sortPeople_L25] at hf
    cases hf
  | succ n ih =>
    intro v1 h q hs hf kont
    rw [f_Weeks_sortPeople_L25] at hf
    refine g_iload_n (i := 1) (by decide +kernel) rfl ?_
    refine g_aload_n (i := 0) (by decide +kernel) rfl ?_
    refine x_getr (hs.k k_91) F_Weeks_50 (by decide +kernel) rfl (hs.r r_91_0) ?_
    refine x_geti (hs.k k_1) F_Weeks_101 (by decide +kernel) rfl ?_
    refine x_icmp_ge (off := 114) (tgt := 147) hf (by decide +kernel) (by decide) (fun c5 hf => ?_) (fun c5 hf => ?_)
    · cases hf
      exact am_G.forget (am_subp [0, 1] rfl) (kont hs)
    · refine g_aload_n (i := 0) (by decide +kernel) rfl ?_
      refine g_iload_n (i := 1) (by decide +kernel) rfl ?_
      refine x_callVBp (as := [.int v1]) Vi_Weeks_hasErrand Vs_Weeks_hasErrand (hs.k k_91) rfl hf (fun q hq => t_Weeks_hasErrand hs  hq) Y_Weeks_hasErrand L_Weeks_104 (by decide +kernel) rfl rfl (Nat.le_of_ble_eq_true rfl) (by decide) (fun q6 hf => ?_)
      refine x_ifb_ne (off := 6) (tgt := 47) hf (by decide +kernel) (by decide) (fun c7 hf => ?_) (fun c7 hf => ?_)
      · refine g_aload_n (i := 0) (by decide +kernel) rfl ?_
        refine g_iload_n (i := 1) (by decide +kernel) rfl ?_
        refine x_callVBp (as := [.int v1]) Vi_Weeks_isDone Vs_Weeks_isDone (hs.k k_91) rfl hf (fun q hq => t_Weeks_isDone hs  hq) Y_Weeks_isDone L_Weeks_108 (by decide +kernel) rfl rfl (Nat.le_of_ble_eq_true rfl) (by decide) (fun q8 hf => ?_)
        refine x_ifb_ne (off := 15) (tgt := 67) hf (by decide +kernel) (by decide) (fun c9 hf => ?_) (fun c9 hf => ?_)
        · refine g_aload_n (i := 0) (by decide +kernel) rfl ?_
          refine g_dup (by decide +kernel) rfl ?_
          refine x_geti (hs.k k_91) F_Weeks_41 (by decide +kernel) rfl ?_
          refine g_iconst (z := 1) (v := 1) (by decide +kernel) rfl ?_
          refine g_iadd (by decide +kernel) ?_
          refine x_puti hf hs (hs.k k_91) F_Weeks_41 (by decide +kernel) rfl rfl rfl rfl (fun h10 hf hs => ?_)
          refine g_goto (off := 64) (tgt := 141) (by decide +kernel) (by decide) ?_
          refine g_iinc (i := 1) (z := 1) (v := (v1 + (1 : Int32))) (by decide +kernel) rfl rfl rfl (by decide) (ls1 := [(0, .ref 91), (1, .int (v1 + (1 : Int32)))]) rfl ?_
          refine g_goto (off := (-119)) (tgt := 25) (by decide +kernel) (by decide) ?_
          exact am_G.forget (am_subp [0, 1] rfl) (ih _ _ _ hs hf kont)
        · refine g_aload_n (i := 0) (by decide +kernel) rfl ?_
          refine g_iload_n (i := 1) (by decide +kernel) rfl ?_
          refine g_aload_n (i := 0) (by decide +kernel) rfl ?_
          refine x_getr (hs.k k_91) F_Weeks_9 (by decide +kernel) rfl (hs.r r_91_3) ?_
          refine x_callVBp (as := [.int v1, .ref 92]) Vi_Weeks_comes Vs_Weeks_comes (hs.k k_91) rfl hf (fun q hq => t_Weeks_comes hs k_92 hq) Y_Weeks_comes L_Weeks_111 (by decide +kernel) rfl rfl (Nat.le_of_ble_eq_true rfl) (by decide) (fun q11 hf => ?_)
          refine x_ifb_eq (off := 16) (tgt := 80) hf (by decide +kernel) (by decide) (fun c12 hf => ?_) (fun c12 hf => ?_)
          · refine g_aload_n (i := 0) (by decide +kernel) rfl ?_
            refine g_iload_n (i := 1) (by decide +kernel) rfl ?_
            refine x_callVBp (as := [.int v1]) Vi_Weeks_comesByAll Vs_Weeks_comesByAll (hs.k k_91) rfl hf (fun q hq => t_Weeks_comesByAll hs  hq) Y_Weeks_comesByAll L_Weeks_167 (by decide +kernel) rfl rfl (Nat.le_of_ble_eq_true rfl) (by decide) (fun q13 hf => ?_)
            refine x_ifb_eq (off := 46) (tgt := 131) hf (by decide +kernel) (by decide) (fun c14 hf => ?_) (fun c14 hf => ?_)
            · refine g_aload_n (i := 0) (by decide +kernel) rfl ?_
              refine g_dup (by decide +kernel) rfl ?_
              refine x_geti (hs.k k_91) F_Weeks_44 (by decide +kernel) rfl ?_
              refine g_iconst (z := 1) (v := 1) (by decide +kernel) rfl ?_
              refine g_iadd (by decide +kernel) ?_
              refine x_puti hf hs (hs.k k_91) F_Weeks_44 (by decide +kernel) rfl rfl rfl rfl (fun h15 hf hs => ?_)
              refine g_iinc (i := 1) (z := 1) (v := (v1 + (1 : Int32))) (by decide +kernel) rfl rfl rfl (by decide) (ls1 := [(0, .ref 91), (1, .int (v1 + (1 : Int32)))]) rfl ?_
              refine g_goto (off := (-119)) (tgt := 25) (by decide +kernel) (by decide) ?_
              exact am_G.forget (am_subp [0, 1] rfl) (ih _ _ _ hs hf kont)
            · refine g_aload_n (i := 0) (by decide +kernel) rfl ?_
              refine x_getr (hs.k k_91) F_Weeks_35 (by decide +kernel) rfl (hs.r r_91_10) ?_
              refine g_aload_n (i := 0) (by decide +kernel) rfl ?_
              refine x_geti (hs.k k_91) F_Weeks_38 (by decide +kernel) rfl ?_
              refine g_iload_n (i := 1) (by decide +kernel) rfl ?_
              refine x_iast hf hs (hs.k k_94) (by decide +kernel) (fun h16 hf hs => ?_)
              refine g_aload_n (i := 0) (by decide +kernel) rfl ?_
              refine x_getr (hs.k k_91) F_Weeks_47 (by decide +kernel) rfl (hs.r r_91_14) ?_
              refine g_aload_n (i := 0) (by decide +kernel) rfl ?_
              refine x_geti (hs.k k_91) F_Weeks_38 (by decide +kernel) rfl ?_
              refine g_iconst (z := 1) (v := 1) (by decide +kernel) rfl ?_
              refine g_aload_n (i := 0) (by decide +kernel) rfl ?_
              refine x_getr (hs.k k_91) F_Weeks_54 (by decide +kernel) rfl (hs.r r_91_1) ?_
              refine x_getr (hs.k k_10) F_Weeks_88 (by decide +kernel) rfl (hs.r r_10_4) ?_
              refine g_iload_n (i := 1) (by decide +kernel) rfl ?_
              refine x_iald hf (hs.k k_12) (by decide +kernel) (fun x17 hf => ?_)
              refine g_ishl (by decide +kernel) ?_
              refine x_iast hf hs (hs.k k_95) (by decide +kernel) (fun h18 hf hs => ?_)
              refine g_aload_n (i := 0) (by decide +kernel) rfl ?_
              refine g_dup (by decide +kernel) rfl ?_
              refine x_geti (hs.k k_91) F_Weeks_38 (by decide +kernel) rfl ?_
              refine g_iconst (z := 1) (v := 1) (by decide +kernel) rfl ?_
              refine g_iadd (by decide +kernel) ?_
              refine x_puti hf hs (hs.k k_91) F_Weeks_38 (by decide +kernel) rfl rfl rfl rfl (fun h19 hf hs => ?_)
              refine g_goto (off := 13) (tgt := 141) (by decide +kernel) (by decide) ?_
              refine g_iinc (i := 1) (z := 1) (v := (v1 + (1 : Int32))) (by decide +kernel) rfl rfl rfl (by decide) (ls1 := [(0, .ref 91), (1, .int (v1 + (1 : Int32)))]) rfl ?_
              refine g_goto (off := (-119)) (tgt := 25) (by decide +kernel) (by decide) ?_
              exact am_G.forget (am_subp [0, 1] rfl) (ih _ _ _ hs hf kont)
          · refine g_aload_n (i := 0) (by decide +kernel) rfl ?_
            refine g_dup (by decide +kernel) rfl ?_
            refine x_geti (hs.k k_91) F_Weeks_41 (by decide +kernel) rfl ?_
            refine g_iconst (z := 1) (v := 1) (by decide +kernel) rfl ?_
            refine g_iadd (by decide +kernel) ?_
            refine x_puti hf hs (hs.k k_91) F_Weeks_41 (by decide +kernel) rfl rfl rfl rfl (fun h20 hf hs => ?_)
            refine g_goto (off := 64) (tgt := 141) (by decide +kernel) (by decide) ?_
            refine g_iinc (i := 1) (z := 1) (v := (v1 + (1 : Int32))) (by decide +kernel) rfl rfl rfl (by decide) (ls1 := [(0, .ref 91), (1, .int (v1 + (1 : Int32)))]) rfl ?_
            refine g_goto (off := (-119)) (tgt := 25) (by decide +kernel) (by decide) ?_
            exact am_G.forget (am_subp [0, 1] rfl) (ih _ _ _ hs hf kont)
      · refine g_goto (off := 97) (tgt := 141) (by decide +kernel) (by decide) ?_
        refine g_iinc (i := 1) (z := 1) (v := (v1 + (1 : Int32))) (by decide +kernel) rfl rfl rfl (by decide) (ls1 := [(0, .ref 91), (1, .int (v1 + (1 : Int32)))]) rfl ?_
        refine g_goto (off := (-119)) (tgt := 25) (by decide +kernel) (by decide) ?_
        exact am_G.forget (am_subp [0, 1] rfl) (ih _ _ _ hs hf kont)
def f_Weeks_sortPeople  (h : am_H) : Option (am_H) :=
  am_let (am_sI h 91 11 (0 : Int32)) fun h1 =>
  am_let (am_sI h1 91 12 (0 : Int32)) fun h2 =>
  am_let (am_sI h2 91 13 (0 : Int32)) fun h3 =>
  (f_Arrays_fill 92 6 (-1 : Int32) h3).bind fun q4 =>
  (f_Weeks_sortPeople_L25  am_fu (0 : Int32) q4).bind fun q21 =>
  some q21.2
set_option maxRecDepth 100000 in
set_option maxHeartbeats 4000000 in
theorem t_Weeks_sortPeople  {h : am_H} (hs : am_Sh h)  {r : am_H} (hf : f_Weeks_sortPeople  h = some r) : am_Ct 4 M_Weeks_sortPeople [.ref 91] h 0 0 (am_qV r) := by
  unfold f_Weeks_sortPeople at hf
  refine am_Ct.of (by decide) rfl (Nat.le_of_ble_eq_true rfl) (ls := [(0, .ref 91)]) rfl ?_
  refine g_aload_n (i := 0) (by decide +kernel) rfl ?_
  refine g_iconst (z := 0) (v := 0) (by decide +kernel) rfl ?_
  refine x_puti hf hs (hs.k k_91) F_Weeks_38 (by decide +kernel) rfl rfl rfl rfl (fun h1 hf hs => ?_)
  refine g_aload_n (i := 0) (by decide +kernel) rfl ?_
  refine g_iconst (z := 0) (v := 0) (by decide +kernel) rfl ?_
  refine x_puti hf hs (hs.k k_91) F_Weeks_41 (by decide +kernel) rfl rfl rfl rfl (fun h2 hf hs => ?_)
  refine g_aload_n (i := 0) (by decide +kernel) rfl ?_
  refine g_iconst (z := 0) (v := 0) (by decide +kernel) rfl ?_
  refine x_puti hf hs (hs.k k_91) F_Weeks_44 (by decide +kernel) rfl rfl rfl rfl (fun h3 hf hs => ?_)
  refine g_aload_n (i := 0) (by decide +kernel) rfl ?_
  refine x_getr (hs.k k_91) F_Weeks_9 (by decide +kernel) rfl (hs.r r_91_3) ?_
  refine g_iconst (z := (-1)) (v := (-1)) (by decide +kernel) rfl ?_
  refine x_callSV (as := [.ref 92, .int (-1 : Int32)]) St_Arrays_fill hf (fun q hq => t_Arrays_fill hs k_92 hq) Y_Arrays_fill L_Weeks_151 (by decide +kernel) rfl rfl (Nat.le_of_ble_eq_true rfl) (by decide) (fun q4 hf hs => ?_)
  refine g_iconst (z := 0) (v := 0) (by decide +kernel) rfl ?_
  refine g_istore_n (i := 1) (by decide +kernel) rfl (by decide) (ls1 := [(0, .ref 91), (1, .int (0 : Int32))]) rfl ?_
  obtain ⟨q21, hqq21, hf⟩ := Option.bind_eq_some_iff.mp hf
  refine t_Weeks_sortPeople_L25  am_fu _ _ q21 hs hqq21 (fun hs => ?_)
  exact x_vret hf hs (by decide +kernel) rfl
def f_Weeks_openComes (p1 : Int32) (p2 : Int32) (h : am_H) : Option (Bool) :=
  (am_rd (h.2.1 94) 5 p1).bind fun x1 =>
  (am_rd (h.2.1 95) 35 ((p2 * (5 : Int32)) + p1)).bind fun x2 =>
  (am_rd (h.2.1 5) 5 x1).bind fun x3 =>
  (f_Top_hasBit x2 x3 h).bind fun q4 =>
  (if q4 = true then
    some true
  else
    (am_rd (h.2.1 5) 5 x1).bind fun x6 =>
    (f_Weeks_hoursLeft x1 h).bind fun q7 =>
    (f_Ahead_hoursFrom x1 x2 x6 92 6 p2 (q7 - p2) h).bind fun q8 =>
    (if q8 = (-1 : Int32) then
      some false
    else
      some true))
set_option maxRecDepth 100000 in
set_option maxHeartbeats 4000000 in
theorem t_Weeks_openComes {p1 : Int32} {p2 : Int32} {h : am_H} (hs : am_Sh h)  {r : Bool} (hf : f_Weeks_openComes p1 p2 h = some r) : am_Ct 3 M_Weeks_openComes [.ref 91, .int p1, .int p2] h 0 0 (am_pB h r) := by
  unfold f_Weeks_openComes at hf
  refine am_Ct.of (by decide) rfl (Nat.le_of_ble_eq_true rfl) (ls := [(0, .ref 91), (1, .int p1), (2, .int p2)]) rfl ?_
  refine g_aload_n (i := 0) (by decide +kernel) rfl ?_
  refine x_getr (hs.k k_91) F_Weeks_35 (by decide +kernel) rfl (hs.r r_91_10) ?_
  refine g_iload_n (i := 1) (by decide +kernel) rfl ?_
  refine x_iald hf (hs.k k_94) (by decide +kernel) (fun x1 hf => ?_)
  refine g_istore_n (i := 3) (by decide +kernel) rfl (by decide) (ls1 := [(0, .ref 91), (1, .int p1), (2, .int p2), (3, .int x1)]) rfl ?_
  refine g_aload_n (i := 0) (by decide +kernel) rfl ?_
  refine x_getr (hs.k k_91) F_Weeks_47 (by decide +kernel) rfl (hs.r r_91_14) ?_
  refine g_iload_n (i := 2) (by decide +kernel) rfl ?_
  refine g_iconst (z := 5) (v := 5) (by decide +kernel) rfl ?_
  refine g_imul (by decide +kernel) ?_
  refine g_iload_n (i := 1) (by decide +kernel) rfl ?_
  refine g_iadd (by decide +kernel) ?_
  refine x_iald hf (hs.k k_95) (by decide +kernel) (fun x2 hf => ?_)
  refine g_istore (i := 4) (by decide +kernel) rfl (by decide) (ls1 := [(0, .ref 91), (1, .int p1), (2, .int p2), (3, .int x1), (4, .int x2)]) rfl ?_
  refine g_iload (i := 4) (by decide +kernel) rfl ?_
  refine g_aload_n (i := 0) (by decide +kernel) rfl ?_
  refine x_getr (hs.k k_91) F_Weeks_50 (by decide +kernel) rfl (hs.r r_91_0) ?_
  refine x_getr (hs.k k_1) F_Weeks_62 (by decide +kernel) rfl (hs.r r_1_9) ?_
  refine g_iload_n (i := 3) (by decide +kernel) rfl ?_
  refine x_iald hf (hs.k k_5) (by decide +kernel) (fun x3 hf => ?_)
  refine x_callSNBp (as := [.int x2, .int x3]) St_Top_hasBit hf (fun q hq => t_Top_hasBit hs  hq) Y_Top_hasBit L_Weeks_72 (by decide +kernel) rfl rfl (Nat.le_of_ble_eq_true rfl) (by decide) (fun q4 hf => ?_)
  refine x_ifb_ne (off := 38) (tgt := 71) hf (by decide +kernel) (by decide) (fun c5 hf => ?_) (fun c5 hf => ?_)
  · refine g_iconst (z := 1) (v := 1) (by decide +kernel) rfl ?_
    refine g_goto (off := 4) (tgt := 76) (by decide +kernel) (by decide) ?_
    exact x_zretp rfl hf (by decide +kernel) rfl
  · refine g_aload_n (i := 0) (by decide +kernel) rfl ?_
    refine x_getr (hs.k k_91) F_Weeks_58 (by decide +kernel) rfl (hs.r r_91_2) ?_
    refine g_iload_n (i := 3) (by decide +kernel) rfl ?_
    refine g_iload (i := 4) (by decide +kernel) rfl ?_
    refine g_aload_n (i := 0) (by decide +kernel) rfl ?_
    refine x_getr (hs.k k_91) F_Weeks_50 (by decide +kernel) rfl (hs.r r_91_0) ?_
    refine x_getr (hs.k k_1) F_Weeks_62 (by decide +kernel) rfl (hs.r r_1_9) ?_
    refine g_iload_n (i := 3) (by decide +kernel) rfl ?_
    refine x_iald hf (hs.k k_5) (by decide +kernel) (fun x6 hf => ?_)
    refine g_aload_n (i := 0) (by decide +kernel) rfl ?_
    refine x_getr (hs.k k_91) F_Weeks_9 (by decide +kernel) rfl (hs.r r_91_3) ?_
    refine g_iload_n (i := 2) (by decide +kernel) rfl ?_
    refine g_aload_n (i := 0) (by decide +kernel) rfl ?_
    refine g_iload_n (i := 3) (by decide +kernel) rfl ?_
    refine x_callVIp (as := [.int x1]) Vi_Weeks_hoursLeft Vs_Weeks_hoursLeft (hs.k k_91) rfl hf (fun q hq => t_Weeks_hoursLeft hs  hq) Y_Weeks_hoursLeft L_Weeks_91 (by decide +kernel) rfl rfl (Nat.le_of_ble_eq_true rfl) (by decide) (fun q7 hf => ?_)
    refine g_iload_n (i := 2) (by decide +kernel) rfl ?_
    refine g_isub (by decide +kernel) ?_
    refine x_callVIp (as := [.int x1, .int x2, .int x6, .ref 92, .int p2, .int (q7 - p2)]) Vi_Ahead_hoursFrom Vs_Ahead_hoursFrom (hs.k k_86) rfl hf (fun q hq => t_Ahead_hoursFrom hs k_92 hq) Y_Ahead_hoursFrom L_Weeks_95 (by decide +kernel) rfl rfl (Nat.le_of_ble_eq_true rfl) (by decide) (fun q8 hf => ?_)
    refine g_iconst (z := (-1)) (v := (-1)) (by decide +kernel) rfl ?_
    refine x_icmp_eq (off := 7) (tgt := 75) hf (by decide +kernel) (by decide) (fun c9 hf => ?_) (fun c9 hf => ?_)
    · refine g_iconst (z := 0) (v := 0) (by decide +kernel) rfl ?_
      exact x_zretp rfl hf (by decide +kernel) rfl
    · refine g_iconst (z := 1) (v := 1) (by decide +kernel) rfl ?_
      refine g_goto (off := 4) (tgt := 76) (by decide +kernel) (by decide) ?_
      exact x_zretp rfl hf (by decide +kernel) rfl
def f_Weeks_trialIsFirst_L2  : Nat → Int32 → am_H → Option (Bool)
  | 0, _, _ => none
  | n + 1, v1, h =>
    (if (h.2.1 1 1) ≤ v1 then
      some false
    else
      (am_rd (h.2.1 92) 6 v1).bind fun x2 =>
      (am_rd (h.2.1 93) 6 v1).bind fun x3 =>
      (if x2 = x3 then
        f_Weeks_trialIsFirst_L2  n (v1 + (1 : Int32)) h
      else
        (am_rd (h.2.1 92) 6 v1).bind fun x5 =>
        (am_rd (h.2.1 93) 6 v1).bind fun x6 =>
        (if x6 ≤ x5 then
          some false
        else
          some true)))
set_option maxRecDepth 100000 in
set_option maxHeartbeats 4000000 in
theorem t_Weeks_trialIsFirst_L2   : ∀ (n : Nat) (v1 : Int32) (h : am_H) (r : Bool), am_Sh h → f_Weeks_trialIsFirst_L2  n v1 h = some r → am_G 0 M_Weeks_trialIsFirst 0 0 (am_pB h r) 2 [(0, .ref 91), (1, .int v1)] [] h 0 0 := by
  intro n
  induction n with
  | zero =>
    intro v1 h r hs hf
    rw [f_Weeks_trialIsFirst_L2] at hf
    cases hf
  | succ n ih =>
    intro v1 h r hs hf
    rw [f_Weeks_trialIsFirst_L2] at hf
    refine g_iload_n (i := 1) (by decide +kernel) rfl ?_
    refine g_aload_n (i := 0) (by decide +kernel) rfl ?_
    refine x_getr (hs.k k_91) F_Weeks_50 (by decide +kernel) rfl (hs.r r_91_0) ?_
    refine x_geti (hs.k k_1) F_Weeks_121 (by decide +kernel) rfl ?_
    refine x_icmp_ge (off := 45) (tgt := 55) hf (by decide +kernel) (by decide) (fun c1 hf => ?_) (fun c1 hf => ?_)
    · refine g_iconst (z := 0) (v := 0) (by decide +kernel) rfl ?_
      exact x_zretp rfl hf (by decide +kernel) rfl
    · refine g_aload_n (i := 0) (by decide +kernel) rfl ?_
      refine x_getr (hs.k k_91) F_Weeks_9 (by decide +kernel) rfl (hs.r r_91_3) ?_
      refine g_iload_n (i := 1) (by decide +kernel) rfl ?_
      refine x_iald hf (hs.k k_92) (by decide +kernel) (fun x2 hf => ?_)
      refine g_aload_n (i := 0) (by decide +kernel) rfl ?_
      refine x_getr (hs.k k_91) F_Weeks_15 (by decide +kernel) rfl (hs.r r_91_4) ?_
      refine g_iload_n (i := 1) (by decide +kernel) rfl ?_
      refine x_iald hf (hs.k k_93) (by decide +kernel) (fun x3 hf => ?_)
      refine x_icmp_eq (off := 24) (tgt := 49) hf (by decide +kernel) (by decide) (fun c4 hf => ?_) (fun c4 hf => ?_)
      · refine g_iinc (i := 1) (z := 1) (v := (v1 + (1 : Int32))) (by decide +kernel) rfl rfl rfl (by decide) (ls1 := [(0, .ref 91), (1, .int (v1 + (1 : Int32)))]) rfl ?_
        refine g_goto (off := (-50)) (tgt := 2) (by decide +kernel) (by decide) ?_
        exact am_G.forget (am_subp [0, 1] rfl) (ih _ _ _ hs hf)
      · refine g_aload_n (i := 0) (by decide +kernel) rfl ?_
        refine x_getr (hs.k k_91) F_Weeks_9 (by decide +kernel) rfl (hs.r r_91_3) ?_
        refine g_iload_n (i := 1) (by decide +kernel) rfl ?_
        refine x_iald hf (hs.k k_92) (by decide +kernel) (fun x5 hf => ?_)
        refine g_aload_n (i := 0) (by decide +kernel) rfl ?_
        refine x_getr (hs.k k_91) F_Weeks_15 (by decide +kernel) rfl (hs.r r_91_4) ?_
        refine g_iload_n (i := 1) (by decide +kernel) rfl ?_
        refine x_iald hf (hs.k k_93) (by decide +kernel) (fun x6 hf => ?_)
        refine x_icmp_ge (off := 7) (tgt := 47) hf (by decide +kernel) (by decide) (fun c7 hf => ?_) (fun c7 hf => ?_)
        · refine g_iconst (z := 0) (v := 0) (by decide +kernel) rfl ?_
          exact x_zretp rfl hf (by decide +kernel) rfl
        · refine g_iconst (z := 1) (v := 1) (by decide +kernel) rfl ?_
          refine g_goto (off := 4) (tgt := 48) (by decide +kernel) (by decide) ?_
          exact x_zretp rfl hf (by decide +kernel) rfl
def f_Weeks_trialIsFirst  (h : am_H) : Option (Bool) :=
  f_Weeks_trialIsFirst_L2  am_fu (0 : Int32) h
set_option maxRecDepth 100000 in
set_option maxHeartbeats 4000000 in
theorem t_Weeks_trialIsFirst  {h : am_H} (hs : am_Sh h)  {r : Bool} (hf : f_Weeks_trialIsFirst  h = some r) : am_Ct 0 M_Weeks_trialIsFirst [.ref 91] h 0 0 (am_pB h r) := by
  unfold f_Weeks_trialIsFirst at hf
  refine am_Ct.of (by decide) rfl (Nat.le_of_ble_eq_true rfl) (ls := [(0, .ref 91)]) rfl ?_
  refine g_iconst (z := 0) (v := 0) (by decide +kernel) rfl ?_
  refine g_istore_n (i := 1) (by decide +kernel) rfl (by decide) (ls1 := [(0, .ref 91), (1, .int (0 : Int32))]) rfl ?_
  exact am_G.forget (am_subp [0, 1] rfl) (t_Weeks_trialIsFirst_L2  am_fu _ _ _ hs hf)
def f_Weeks_keepBetter (p1 : Int32) (p2 : Int32) (h : am_H) : Option (am_H) :=
  (if (h.2.1 91 5) < p1 then
    am_let (am_sI h 91 5 p1) fun h2 =>
    am_let (am_sI h2 91 6 p2) fun h3 =>
    (am_cp h3 92 6 (0 : Int32) 93 6 (0 : Int32) (6 : Int32)).bind fun h4 =>
    some h4
  else
    (if p2 < (h.2.1 91 6) then
      am_let (am_sI h 91 5 p1) fun h6 =>
      am_let (am_sI h6 91 6 p2) fun h7 =>
      (am_cp h7 92 6 (0 : Int32) 93 6 (0 : Int32) (6 : Int32)).bind fun h8 =>
      some h8
    else
      (if p2 = (h.2.1 91 6) then
        (f_Weeks_trialIsFirst  h).bind fun q10 =>
        (if q10 = true then
          am_let (am_sI h 91 5 p1) fun h12 =>
          am_let (am_sI h12 91 6 p2) fun h13 =>
          (am_cp h13 92 6 (0 : Int32) 93 6 (0 : Int32) (6 : Int32)).bind fun h14 =>
          some h14
        else
          some h)
      else
        some h)))
set_option maxRecDepth 100000 in
set_option maxHeartbeats 4000000 in
theorem t_Weeks_keepBetter {p1 : Int32} {p2 : Int32} {h : am_H} (hs : am_Sh h)  {r : am_H} (hf : f_Weeks_keepBetter p1 p2 h = some r) : am_Ct 1 M_Weeks_keepBetter [.ref 91, .int p1, .int p2] h 0 0 (am_qV r) := by
  unfold f_Weeks_keepBetter at hf
  refine am_Ct.of (by decide) rfl (Nat.le_of_ble_eq_true rfl) (ls := [(0, .ref 91), (1, .int p1), (2, .int p2)]) rfl ?_
  refine g_iload_n (i := 1) (by decide +kernel) rfl ?_
  refine g_aload_n (i := 0) (by decide +kernel) rfl ?_
  refine x_geti (hs.k k_91) F_Weeks_18 (by decide +kernel) rfl ?_
  refine x_icmp_gt (off := 26) (tgt := 31) hf (by decide +kernel) (by decide) (fun c1 hf => ?_) (fun c1 hf => ?_)
  · refine g_aload_n (i := 0) (by decide +kernel) rfl ?_
    refine g_iload_n (i := 1) (by decide +kernel) rfl ?_
    refine x_puti hf hs (hs.k k_91) F_Weeks_18 (by decide +kernel) rfl rfl rfl rfl (fun h2 hf hs => ?_)
    refine g_aload_n (i := 0) (by decide +kernel) rfl ?_
    refine g_iload_n (i := 2) (by decide +kernel) rfl ?_
    refine x_puti hf hs (hs.k k_91) F_Weeks_22 (by decide +kernel) rfl rfl rfl rfl (fun h3 hf hs => ?_)
    refine g_aload_n (i := 0) (by decide +kernel) rfl ?_
    refine x_getr (hs.k k_91) F_Weeks_9 (by decide +kernel) rfl (hs.r r_91_3) ?_
    refine g_iconst (z := 0) (v := 0) (by decide +kernel) rfl ?_
    refine g_aload_n (i := 0) (by decide +kernel) rfl ?_
    refine x_getr (hs.k k_91) F_Weeks_15 (by decide +kernel) rfl (hs.r r_91_4) ?_
    refine g_iconst (z := 0) (v := 0) (by decide +kernel) rfl ?_
    refine g_bipush (z := 6) (v := 6) (by decide +kernel) rfl ?_
    refine x_copy hf hs (hs.k k_92) (hs.k k_93) L_Weeks_124 (by decide) (Nat.le_of_ble_eq_true rfl) (by decide +kernel) (fun h4 hf hs => ?_)
    exact x_vret hf hs (by decide +kernel) rfl
  · refine g_iload_n (i := 2) (by decide +kernel) rfl ?_
    refine g_aload_n (i := 0) (by decide +kernel) rfl ?_
    refine x_geti (hs.k k_91) F_Weeks_22 (by decide +kernel) rfl ?_
    refine x_icmp_lt (off := 18) (tgt := 31) hf (by decide +kernel) (by decide) (fun c5 hf => ?_) (fun c5 hf => ?_)
    · refine g_aload_n (i := 0) (by decide +kernel) rfl ?_
      refine g_iload_n (i := 1) (by decide +kernel) rfl ?_
      refine x_puti hf hs (hs.k k_91) F_Weeks_18 (by decide +kernel) rfl rfl rfl rfl (fun h6 hf hs => ?_)
      refine g_aload_n (i := 0) (by decide +kernel) rfl ?_
      refine g_iload_n (i := 2) (by decide +kernel) rfl ?_
      refine x_puti hf hs (hs.k k_91) F_Weeks_22 (by decide +kernel) rfl rfl rfl rfl (fun h7 hf hs => ?_)
      refine g_aload_n (i := 0) (by decide +kernel) rfl ?_
      refine x_getr (hs.k k_91) F_Weeks_9 (by decide +kernel) rfl (hs.r r_91_3) ?_
      refine g_iconst (z := 0) (v := 0) (by decide +kernel) rfl ?_
      refine g_aload_n (i := 0) (by decide +kernel) rfl ?_
      refine x_getr (hs.k k_91) F_Weeks_15 (by decide +kernel) rfl (hs.r r_91_4) ?_
      refine g_iconst (z := 0) (v := 0) (by decide +kernel) rfl ?_
      refine g_bipush (z := 6) (v := 6) (by decide +kernel) rfl ?_
      refine x_copy hf hs (hs.k k_92) (hs.k k_93) L_Weeks_124 (by decide) (Nat.le_of_ble_eq_true rfl) (by decide +kernel) (fun h8 hf hs => ?_)
      exact x_vret hf hs (by decide +kernel) rfl
    · refine g_iload_n (i := 2) (by decide +kernel) rfl ?_
      refine g_aload_n (i := 0) (by decide +kernel) rfl ?_
      refine x_geti (hs.k k_91) F_Weeks_22 (by decide +kernel) rfl ?_
      refine x_icmp_ne (off := 35) (tgt := 56) hf (by decide +kernel) (by decide) (fun c9 hf => ?_) (fun c9 hf => ?_)
      · exact x_vret hf hs (by decide +kernel) rfl
      · refine g_aload_n (i := 0) (by decide +kernel) rfl ?_
        refine x_callVBp (as := []) Vi_Weeks_trialIsFirst Vs_Weeks_trialIsFirst (hs.k k_91) rfl hf (fun q hq => t_Weeks_trialIsFirst hs  hq) Y_Weeks_trialIsFirst L_Weeks_206 (by decide +kernel) rfl rfl (Nat.le_of_ble_eq_true rfl) (by decide) (fun q10 hf => ?_)
        refine x_ifb_eq (off := 28) (tgt := 56) hf (by decide +kernel) (by decide) (fun c11 hf => ?_) (fun c11 hf => ?_)
        · exact x_vret hf hs (by decide +kernel) rfl
        · refine g_aload_n (i := 0) (by decide +kernel) rfl ?_
          refine g_iload_n (i := 1) (by decide +kernel) rfl ?_
          refine x_puti hf hs (hs.k k_91) F_Weeks_18 (by decide +kernel) rfl rfl rfl rfl (fun h12 hf hs => ?_)
          refine g_aload_n (i := 0) (by decide +kernel) rfl ?_
          refine g_iload_n (i := 2) (by decide +kernel) rfl ?_
          refine x_puti hf hs (hs.k k_91) F_Weeks_22 (by decide +kernel) rfl rfl rfl rfl (fun h13 hf hs => ?_)
          refine g_aload_n (i := 0) (by decide +kernel) rfl ?_
          refine x_getr (hs.k k_91) F_Weeks_9 (by decide +kernel) rfl (hs.r r_91_3) ?_
          refine g_iconst (z := 0) (v := 0) (by decide +kernel) rfl ?_
          refine g_aload_n (i := 0) (by decide +kernel) rfl ?_
          refine x_getr (hs.k k_91) F_Weeks_15 (by decide +kernel) rfl (hs.r r_91_4) ?_
          refine g_iconst (z := 0) (v := 0) (by decide +kernel) rfl ?_
          refine g_bipush (z := 6) (v := 6) (by decide +kernel) rfl ?_
          refine x_copy hf hs (hs.k k_92) (hs.k k_93) L_Weeks_124 (by decide) (Nat.le_of_ble_eq_true rfl) (by decide +kernel) (fun h14 hf hs => ?_)
          exact x_vret hf hs (by decide +kernel) rfl
