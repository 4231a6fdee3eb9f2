def f_Weeks_weigh_L7 (p1 : Int32) : Nat → Int32 → Int32 → am_H → Option (Int32 × Int32)
  | 0, _, _, _ => none
  | n + 1, v2, v3, h =>
    (if (h.2.1 91 11) ≤ v3 then
      some (v2, v3)
    else
      (f_Weeks_openComes v3 p1 h).bind fun q2 =>
      (if q2 = true then
        f_Weeks_weigh_L7 p1 n (v2 + (1 : Int32)) (v3 + (1 : Int32)) h
      else
        f_Weeks_weigh_L7 p1 n v2 (v3 + (1 : Int32)) h))
set_option maxRecDepth 100000 in
set_option maxHeartbeats 4000000 in
theorem t_Weeks_weigh_L7 {p1 : Int32}  {Q : Option Value → am_H → Prop} : ∀ (n : Nat) (v2 : Int32) (v3 : Int32) (h : am_H) (q : Int32 × Int32), am_Sh h → f_Weeks_weigh_L7 p1 n v2 v3 h = some q → (am_G 4 M_Weeks_weigh 0 0 Q 33 [(0, .ref 91), (1, .int p1), (2, .int q.1), (3, .int q.2)] [] h 0 0) → am_G 4 M_Weeks_weigh 0 0 Q 7 [(0, .ref 91), (1, .int p1), (2, .int v2), (3, .int v3)] [] h 0 0 := by
  intro n
  induction n with
  | zero =>
    intro v2 v3 h q hs hf kont
    rw [f_Weeks_weigh_L7] at hf
    cases hf
  | succ n ih =>
    intro v2 v3 h q hs hf kont
    rw [f_Weeks_weigh_L7] at hf
    refine g_iload_n (i := 3) (by decide +kernel) rfl ?_
    refine g_aload_n (i := 0) (by decide +kernel) rfl ?_
    refine x_geti (hs.k k_91) F_Weeks_38 (by decide +kernel) rfl ?_
    refine x_icmp_ge (off := 21) (tgt := 33) hf (by decide +kernel) (by decide) (fun c1 hf => ?_) (fun c1 hf => ?_)
    · cases hf
      exact am_G.forget (am_subp [0, 1, 2, 3] rfl) kont
    · refine g_aload_n (i := 0) (by decide +kernel) rfl ?_
      refine g_iload_n (i := 3) (by decide +kernel) rfl ?_
      refine g_iload_n (i := 1) (by decide +kernel) rfl ?_
      refine x_callVBp (as := [.int v3, .int p1]) Vi_Weeks_openComes Vs_Weeks_openComes (hs.k k_91) rfl hf (fun q hq => t_Weeks_openComes hs  hq) Y_Weeks_openComes L_Weeks_190 (by decide +kernel) rfl rfl (Nat.le_of_ble_eq_true rfl) (by decide) (fun q2 hf => ?_)
      refine x_ifb_eq (off := 6) (tgt := 27) hf (by decide +kernel) (by decide) (fun c3 hf => ?_) (fun c3 hf => ?_)
      · refine g_iinc (i := 3) (z := 1) (v := (v3 + (1 : Int32))) (by decide +kernel) rfl rfl rfl (by decide) (ls1 := [(0, .ref 91), (1, .int p1), (2, .int v2), (3, .int (v3 + (1 : Int32)))]) rfl ?_
        refine g_goto (off := (-23)) (tgt := 7) (by decide +kernel) (by decide) ?_
        exact am_G.forget (am_subp [0, 1, 2, 3] rfl) (ih _ _ _ _ hs hf kont)
      · refine g_iinc (i := 2) (z := 1) (v := (v2 + (1 : Int32))) (by decide +kernel) rfl rfl rfl (by decide) (ls1 := [(0, .ref 91), (1, .int p1), (2, .int (v2 + (1 : Int32))), (3, .int v3)]) rfl ?_
        refine g_iinc (i := 3) (z := 1) (v := (v3 + (1 : Int32))) (by decide +kernel) rfl rfl rfl (by decide) (ls1 := [(0, .ref 91), (1, .int p1), (2, .int (v2 + (1 : Int32))), (3, .int (v3 + (1 : Int32)))]) rfl ?_
        refine g_goto (off := (-23)) (tgt := 7) (by decide +kernel) (by decide) ?_
        exact am_G.forget (am_subp [0, 1, 2, 3] rfl) (ih _ _ _ _ hs hf kont)
def f_Weeks_weigh (p1 : Int32) (h : am_H) : Option (am_H) :=
  (f_Weeks_weigh_L7 p1 am_fu (h.2.1 91 12) (0 : Int32) h).bind fun q4 =>
  (if q4.1 < (h.2.1 91 5) then
    some h
  else
    (f_Weeks_movesOf 92 6 h).bind fun q6 =>
    (f_Weeks_keepBetter q4.1 q6 h).bind fun q7 =>
    some q7)
set_option maxRecDepth 100000 in
set_option maxHeartbeats 4000000 in
theorem t_Weeks_weigh {p1 : Int32} {h : am_H} (hs : am_Sh h)  {r : am_H} (hf : f_Weeks_weigh p1 h = some r) : am_Ct 4 M_Weeks_weigh [.ref 91, .int p1] h 0 0 (am_qV r) := by
  unfold f_Weeks_weigh at hf
  refine am_Ct.of (by decide) rfl (Nat.le_of_ble_eq_true rfl) (ls := [(0, .ref 91), (1, .int p1)]) rfl ?_
  refine g_aload_n (i := 0) (by decide +kernel) rfl ?_
  refine x_geti (hs.k k_91) F_Weeks_41 (by decide +kernel) rfl ?_
  refine g_istore_n (i := 2) (by decide +kernel) rfl (by decide) (ls1 := [(0, .ref 91), (1, .int p1), (2, .int (h.2.1 91 12))]) rfl ?_
  refine g_iconst (z := 0) (v := 0) (by decide +kernel) rfl ?_
  refine g_istore_n (i := 3) (by decide +kernel) rfl (by decide) (ls1 := [(0, .ref 91), (1, .int p1), (2, .int (h.2.1 91 12)), (3, .int (0 : Int32))]) rfl ?_
  obtain ⟨q4, hqq4, hf⟩ := Option.bind_eq_some_iff.mp hf
  refine t_Weeks_weigh_L7  am_fu _ _ _ q4 hs hqq4 ?_
  refine g_iload_n (i := 2) (by decide +kernel) rfl ?_
  refine g_aload_n (i := 0) (by decide +kernel) rfl ?_
  refine x_geti (hs.k k_91) F_Weeks_18 (by decide +kernel) rfl ?_
  refine x_icmp_lt (off := 16) (tgt := 54) hf (by decide +kernel) (by decide) (fun c5 hf => ?_) (fun c5 hf => ?_)
  · exact x_vret hf hs (by decide +kernel) rfl
  · refine g_aload_n (i := 0) (by decide +kernel) rfl ?_
    refine g_iload_n (i := 2) (by decide +kernel) rfl ?_
    refine g_aload_n (i := 0) (by decide +kernel) rfl ?_
    refine g_aload_n (i := 0) (by decide +kernel) rfl ?_
    refine x_getr (hs.k k_91) F_Weeks_9 (by decide +kernel) rfl (hs.r r_91_3) ?_
    refine x_callVIp (as := [.ref 92]) Vi_Weeks_movesOf Vs_Weeks_movesOf (hs.k k_91) rfl hf (fun q hq => t_Weeks_movesOf hs k_92 hq) Y_Weeks_movesOf L_Weeks_200 (by decide +kernel) rfl rfl (Nat.le_of_ble_eq_true rfl) (by decide) (fun q6 hf => ?_)
    refine x_callVV (as := [.int q4.1, .int q6]) Vi_Weeks_keepBetter Vs_Weeks_keepBetter (hs.k k_91) rfl hf (fun q hq => t_Weeks_keepBetter hs  hq) Y_Weeks_keepBetter L_Weeks_203 (by decide +kernel) rfl rfl (Nat.le_of_ble_eq_true rfl) (by decide) (fun q7 hf hs => ?_)
    exact x_vret hf hs (by decide +kernel) rfl
def f_Weeks_lost_L4 (p1 : Int32) : Nat → Int32 → Int32 → am_H → Option (Int32 × Int32)
  | 0, _, _, _ => none
  | n + 1, v2, v3, h =>
    (if (h.2.1 91 11) ≤ v3 then
      some (v2, v3)
    else
      (am_rd (h.2.1 94) 5 v3).bind fun x2 =>
      (f_Weeks_hoursLeft x2 h).bind fun q3 =>
      (if p1 < q3 then
        f_Weeks_lost_L4 p1 n v2 (v3 + (1 : Int32)) h
      else
        (am_rd (h.2.1 95) 35 ((p1 * (5 : Int32)) + v3)).bind fun x5 =>
        (am_rd (h.2.1 5) 5 x2).bind fun x6 =>
        (f_Top_hasBit x5 x6 h).bind fun q7 =>
        (if q7 = true then
          f_Weeks_lost_L4 p1 n v2 (v3 + (1 : Int32)) h
        else
          f_Weeks_lost_L4 p1 n (v2 + (1 : Int32)) (v3 + (1 : Int32)) h)))
set_option maxRecDepth 100000 in
set_option maxHeartbeats 4000000 in
theorem t_Weeks_lost_L4 {p1 : Int32}  {Q : Option Value → am_H → Prop} : ∀ (n : Nat) (v2 : Int32) (v3 : Int32) (h : am_H) (q : Int32 × Int32), am_Sh h → f_Weeks_lost_L4 p1 n v2 v3 h = some q → (am_G 2 M_Weeks_lost 0 0 Q 65 [(0, .ref 91), (1, .int p1), (2, .int q.1), (3, .int q.2)] [] h 0 0) → am_G 2 M_Weeks_lost 0 0 Q 4 [(0, .ref 91), (1, .int p1), (2, .int v2), (3, .int v3)] [] h 0 0 := by
  intro n
  induction n with
  | zero =>
    intro v2 v3 h q hs hf kont
    rw [f_Weeks_lost_L4] at hf
    cases hf
  | succ n ih =>
    intro v2 v3 h q hs hf kont
    rw [f_Weeks_lost_L4] at hf
    refine g_iload_n (i := 3) (by decide +kernel) rfl ?_
    refine g_aload_n (i := 0) (by decide +kernel) rfl ?_
    refine x_geti (hs.k k_91) F_Weeks_38 (by decide +kernel) rfl ?_
    refine x_icmp_ge (off := 56) (tgt := 65) hf (by decide +kernel) (by decide) (fun c1 hf => ?_) (fun c1 hf => ?_)
    · cases hf
      exact am_G.forget (am_subp [0, 1, 2, 3] rfl) kont
    · refine g_aload_n (i := 0) (by decide +kernel) rfl ?_
      refine x_getr (hs.k k_91) F_Weeks_35 (by decide +kernel) rfl (hs.r r_91_10) ?_
      refine g_iload_n (i := 3) (by decide +kernel) rfl ?_
      refine x_iald hf (hs.k k_94) (by decide +kernel) (fun x2 hf => ?_)
      refine g_istore (i := 4) (by decide +kernel) rfl (by decide) (ls1 := [(0, .ref 91), (1, .int p1), (2, .int v2), (3, .int v3), (4, .int x2)]) rfl ?_
      refine g_iload_n (i := 1) (by decide +kernel) rfl ?_
      refine g_aload_n (i := 0) (by decide +kernel) rfl ?_
      refine g_iload (i := 4) (by decide +kernel) rfl ?_
      refine x_callVIp (as := [.int x2]) Vi_Weeks_hoursLeft Vs_Weeks_hoursLeft (hs.k k_91) rfl hf (fun q hq => t_Weeks_hoursLeft hs  hq) Y_Weeks_hoursLeft L_Weeks_91 (by decide +kernel) rfl rfl (Nat.le_of_ble_eq_true rfl) (by decide) (fun q3 hf => ?_)
      refine x_icmp_lt (off := 32) (tgt := 59) hf (by decide +kernel) (by decide) (fun c4 hf => ?_) (fun c4 hf => ?_)
      · refine g_iinc (i := 3) (z := 1) (v := (v3 + (1 : Int32))) (by decide +kernel) rfl rfl rfl (by decide) (ls1 := [(0, .ref 91), (1, .int p1), (2, .int v2), (3, .int (v3 + (1 : Int32))), (4, .int x2)]) rfl ?_
        refine g_goto (off := (-58)) (tgt := 4) (by decide +kernel) (by decide) ?_
        exact am_G.forget (am_subp [0, 1, 2, 3] rfl) (ih _ _ _ _ hs hf kont)
      · refine g_aload_n (i := 0) (by decide +kernel) rfl ?_
        refine x_getr (hs.k k_91) F_Weeks_47 (by decide +kernel) rfl (hs.r r_91_14) ?_
        refine g_iload_n (i := 1) (by decide +kernel) rfl ?_
        refine g_iconst (z := 5) (v := 5) (by decide +kernel) rfl ?_
        refine g_imul (by decide +kernel) ?_
        refine g_iload_n (i := 3) (by decide +kernel) rfl ?_
        refine g_iadd (by decide +kernel) ?_
        refine x_iald hf (hs.k k_95) (by decide +kernel) (fun x5 hf => ?_)
        refine g_aload_n (i := 0) (by decide +kernel) rfl ?_
        refine x_getr (hs.k k_91) F_Weeks_50 (by decide +kernel) rfl (hs.r r_91_0) ?_
        refine x_getr (hs.k k_1) F_Weeks_62 (by decide +kernel) rfl (hs.r r_1_9) ?_
        refine g_iload (i := 4) (by decide +kernel) rfl ?_
        refine x_iald hf (hs.k k_5) (by decide +kernel) (fun x6 hf => ?_)
        refine x_callSNBp (as := [.int x5, .int x6]) St_Top_hasBit hf (fun q hq => t_Top_hasBit hs  hq) Y_Top_hasBit L_Weeks_72 (by decide +kernel) rfl rfl (Nat.le_of_ble_eq_true rfl) (by decide) (fun q7 hf => ?_)
        refine x_ifb_ne (off := 6) (tgt := 59) hf (by decide +kernel) (by decide) (fun c8 hf => ?_) (fun c8 hf => ?_)
        · refine g_iinc (i := 3) (z := 1) (v := (v3 + (1 : Int32))) (by decide +kernel) rfl rfl rfl (by decide) (ls1 := [(0, .ref 91), (1, .int p1), (2, .int v2), (3, .int (v3 + (1 : Int32))), (4, .int x2)]) rfl ?_
          refine g_goto (off := (-58)) (tgt := 4) (by decide +kernel) (by decide) ?_
          exact am_G.forget (am_subp [0, 1, 2, 3] rfl) (ih _ _ _ _ hs hf kont)
        · refine g_iinc (i := 2) (z := 1) (v := (v2 + (1 : Int32))) (by decide +kernel) rfl rfl rfl (by decide) (ls1 := [(0, .ref 91), (1, .int p1), (2, .int (v2 + (1 : Int32))), (3, .int v3), (4, .int x2)]) rfl ?_
          refine g_iinc (i := 3) (z := 1) (v := (v3 + (1 : Int32))) (by decide +kernel) rfl rfl rfl (by decide) (ls1 := [(0, .ref 91), (1, .int p1), (2, .int (v2 + (1 : Int32))), (3, .int (v3 + (1 : Int32))), (4, .int x2)]) rfl ?_
          refine g_goto (off := (-58)) (tgt := 4) (by decide +kernel) (by decide) ?_
          exact am_G.forget (am_subp [0, 1, 2, 3] rfl) (ih _ _ _ _ hs hf kont)
def f_Weeks_lost (p1 : Int32) (h : am_H) : Option (Int32) :=
  (f_Weeks_lost_L4 p1 am_fu (0 : Int32) (0 : Int32) h).bind fun q9 =>
  some q9.1
set_option maxRecDepth 100000 in
set_option maxHeartbeats 4000000 in
theorem t_Weeks_lost {p1 : Int32} {h : am_H} (hs : am_Sh h)  {r : Int32} (hf : f_Weeks_lost p1 h = some r) : am_Ct 2 M_Weeks_lost [.ref 91, .int p1] h 0 0 (am_pI h r) := by
  unfold f_Weeks_lost at hf
  refine am_Ct.of (by decide) rfl (Nat.le_of_ble_eq_true rfl) (ls := [(0, .ref 91), (1, .int p1)]) rfl ?_
  refine g_iconst (z := 0) (v := 0) (by decide +kernel) rfl ?_
  refine g_istore_n (i := 2) (by decide +kernel) rfl (by decide) (ls1 := [(0, .ref 91), (1, .int p1), (2, .int (0 : Int32))]) rfl ?_
  refine g_iconst (z := 0) (v := 0) (by decide +kernel) rfl ?_
  refine g_istore_n (i := 3) (by decide +kernel) rfl (by decide) (ls1 := [(0, .ref 91), (1, .int p1), (2, .int (0 : Int32)), (3, .int (0 : Int32))]) rfl ?_
  obtain ⟨q9, hqq9, hf⟩ := Option.bind_eq_some_iff.mp hf
  refine t_Weeks_lost_L4  am_fu _ _ _ q9 hs hqq9 ?_
  refine g_iload_n (i := 2) (by decide +kernel) rfl ?_
  exact x_iretp hf (by decide +kernel) rfl
def f_Weeks_stepOpen_L20 (p1 : Int32) (p2 : Int32) : Nat → Int32 → Int32 → am_H → Option (Int32 × am_H)
  | 0, _, _, _ => none
  | n + 1, v3, v4, h =>
    (if (h.2.1 91 11) ≤ v4 then
      some (v4, h)
    else
      (am_rd (h.2.1 94) 5 v4).bind fun x4 =>
      (am_rd (h.2.1 95) 35 ((p1 * (5 : Int32)) + v4)).bind fun x5 =>
      (f_Weeks_hoursLeft x4 h).bind fun q6 =>
      ((if q6 ≤ p1 then
          some x5
        else
          (am_rd (h.2.1 5) 5 x4).bind fun x8 =>
          (f_Top_hasBit x5 x8 h).bind fun q9 =>
          (if q9 = true then
            some x5
          else
            (f_River_row x4 p2 v3 h).bind fun q11 =>
            (am_rd (h.2.1 92) 6 p2).bind fun x12 =>
            (f_River_spread 1 q11 x5 x12 h).bind fun q13 =>
            some q13)) : Option (Int32)).bind fun m14 =>
      (am_wr h 95 35 (((p1 + (1 : Int32)) * (5 : Int32)) + v4) m14).bind fun h15 =>
      f_Weeks_stepOpen_L20 p1 p2 n v3 (v4 + (1 : Int32)) h15)
set_option maxRecDepth 100000 in
set_option maxHeartbeats 4000000 in
theorem t_Weeks_stepOpen_L20 {p1 : Int32} {p2 : Int32}  {Q : Option Value → am_H → Prop} : ∀ (n : Nat) (v3 : Int32) (v4 : Int32) (h : am_H) (q : Int32 × am_H), am_Sh h → f_Weeks_stepOpen_L20 p1 p2 n v3 v4 h = some q → (am_Sh q.2 → am_G 2 M_Weeks_stepOpen 0 0 Q 124 [(0, .ref 91), (1, .int p1), (2, .int p2), (3, .int v3), (4, .int q.1)] [] q.2 0 0) → am_G 2 M_Weeks_stepOpen 0 0 Q 20 [(0, .ref 91), (1, .int p1), (2, .int p2), (3, .int v3), (4, .int v4)] [] h 0 0 := by
  intro n
  induction n with
  | zero =>
    intro v3 v4 h q hs hf kont
    rw [f_Weeks_stepOpen_L20] at hf
    cases hf
  | succ n ih =>
    intro v3 v4 h q hs hf kont
    rw [f_Weeks_stepOpen_L20] at hf
    refine g_iload (i := 4) (by decide +kernel) rfl ?_
    refine g_aload_n (i := 0) (by decide +kernel) rfl ?_
    refine x_geti (hs.k k_91) F_Weeks_38 (by decide +kernel) rfl ?_
    refine x_icmp_ge (off := 98) (tgt := 124) hf (by decide +kernel) (by decide) (fun c3 hf => ?_) (fun c3 hf => ?_)
    · cases hf
      exact am_G.forget (am_subp [0, 1, 2, 3, 4] rfl) (kont hs)
    · refine g_aload_n (i := 0) (by decide +kernel) rfl ?_
      refine x_getr (hs.k k_91) F_Weeks_35 (by decide +kernel) rfl (hs.r r_91_10) ?_
      refine g_iload (i := 4) (by decide +kernel) rfl ?_
      refine x_iald hf (hs.k k_94) (by decide +kernel) (fun x4 hf => ?_)
      refine g_istore (i := 5) (by decide +kernel) rfl (by decide) (ls1 := [(0, .ref 91), (1, .int p1), (2, .int p2), (3, .int v3), (4, .int v4), (5, .int x4)]) rfl ?_
      refine g_aload_n (i := 0) (by decide +kernel) rfl ?_
      refine x_getr (hs.k k_91) F_Weeks_47 (by decide +kernel) rfl (hs.r r_91_14) ?_
      refine g_iload_n (i := 1) (by decide +kernel) rfl ?_
      refine g_iconst (z := 5) (v := 5) (by decide +kernel) rfl ?_
      refine g_imul (by decide +kernel) ?_
      refine g_iload (i := 4) (by decide +kernel) rfl ?_
      refine g_iadd (by decide +kernel) ?_
      refine x_iald hf (hs.k k_95) (by decide +kernel) (fun x5 hf => ?_)
      refine g_istore (i := 6) (by decide +kernel) rfl (by decide) (ls1 := [(0, .ref 91), (1, .int p1), (2, .int p2), (3, .int v3), (4, .int v4), (5, .int x4), (6, .int x5)]) rfl ?_
      refine g_iload_n (i := 1) (by decide +kernel) rfl ?_
      refine g_aload_n (i := 0) (by decide +kernel) rfl ?_
      refine g_iload (i := 5) (by decide +kernel) rfl ?_
      refine x_callVIp (as := [.int x4]) Vi_Weeks_hoursLeft Vs_Weeks_hoursLeft (hs.k k_91) rfl hf (fun q hq => t_Weeks_hoursLeft hs  hq) Y_Weeks_hoursLeft L_Weeks_91 (by decide +kernel) rfl rfl (Nat.le_of_ble_eq_true rfl) (by decide) (fun q6 hf => ?_)
      obtain ⟨m14, hm103, hf⟩ := Option.bind_eq_some_iff.mp hf
      refine am_cut (J := 103) (ls' := [(0, .ref 91), (1, .int p1), (2, .int p2), (3, .int v3), (4, .int v4), (5, .int x4), (6, .int m14)]) (st' := []) ?_ (fun K103 => ?_)
      · refine g_aload_n (i := 0) (by decide +kernel) rfl ?_
        refine x_getr (hs.k k_91) F_Weeks_47 (by decide +kernel) rfl (hs.r r_91_14) ?_
        refine g_iload_n (i := 1) (by decide +kernel) rfl ?_
        refine g_iconst (z := 1) (v := 1) (by decide +kernel) rfl ?_
        refine g_iadd (by decide +kernel) ?_
        refine g_iconst (z := 5) (v := 5) (by decide +kernel) rfl ?_
        refine g_imul (by decide +kernel) ?_
        refine g_iload (i := 4) (by decide +kernel) rfl ?_
        refine g_iadd (by decide +kernel) ?_
        refine g_iload (i := 6) (by decide +kernel) rfl ?_
        refine x_iast hf hs (hs.k k_95) (by decide +kernel) (fun h15 hf hs => ?_)
        refine g_iinc (i := 4) (z := 1) (v := (v4 + (1 : Int32))) (by decide +kernel) rfl rfl rfl (by decide) (ls1 := [(0, .ref 91), (1, .int p1), (2, .int p2), (3, .int v3), (4, .int (v4 + (1 : Int32))), (5, .int x4), (6, .int m14)]) rfl ?_
        refine g_goto (off := (-101)) (tgt := 20) (by decide +kernel) (by decide) ?_
        exact am_G.forget (am_subp [0, 1, 2, 3, 4] rfl) (ih _ _ _ _ hs hf kont)
      refine x_icmp_ge (off := 45) (tgt := 103) hm103 (by decide +kernel) (by decide) (fun c7 hm103 => ?_) (fun c7 hm103 => ?_)
      · cases hm103
        exact am_G.forget (am_subp [0, 1, 2, 3, 4, 5, 6] rfl) K103
      · refine g_iload (i := 6) (by decide +kernel) rfl ?_
        refine g_aload_n (i := 0) (by decide +kernel) rfl ?_
        refine x_getr (hs.k k_91) F_Weeks_50 (by decide +kernel) rfl (hs.r r_91_0) ?_
        refine x_getr (hs.k k_1) F_Weeks_62 (by decide +kernel) rfl (hs.r r_1_9) ?_
        refine g_iload (i := 5) (by decide +kernel) rfl ?_
        refine x_iald hm103 (hs.k k_5) (by decide +kernel) (fun x8 hm103 => ?_)
        refine x_callSNBp (as := [.int x5, .int x8]) St_Top_hasBit hm103 (fun q hq => t_Top_hasBit hs  hq) Y_Top_hasBit L_Weeks_72 (by decide +kernel) rfl rfl (Nat.le_of_ble_eq_true rfl) (by decide) (fun q9 hm103 => ?_)
        refine x_ifb_ne (off := 27) (tgt := 103) hm103 (by decide +kernel) (by decide) (fun c10 hm103 => ?_) (fun c10 hm103 => ?_)
        · cases hm103
          exact am_G.forget (am_subp [0, 1, 2, 3, 4, 5, 6] rfl) K103
        · refine g_aload_n (i := 0) (by decide +kernel) rfl ?_
          refine x_getr (hs.k k_91) F_Weeks_50 (by decide +kernel) rfl (hs.r r_91_0) ?_
          refine g_iload (i := 5) (by decide +kernel) rfl ?_
          refine g_iload_n (i := 2) (by decide +kernel) rfl ?_
          refine g_iload_n (i := 3) (by decide +kernel) rfl ?_
          refine x_callSIp (as := [.int x4, .int p2, .int v3]) St_River_row hm103 (fun q hq => t_River_row hs  hq) Y_River_row L_Weeks_196 (by decide +kernel) rfl rfl (Nat.le_of_ble_eq_true rfl) (by decide) (fun q11 hm103 => ?_)
          refine g_iload (i := 6) (by decide +kernel) rfl ?_
          refine g_aload_n (i := 0) (by decide +kernel) rfl ?_
          refine x_getr (hs.k k_91) F_Weeks_9 (by decide +kernel) rfl (hs.r r_91_3) ?_
          refine g_iload_n (i := 2) (by decide +kernel) rfl ?_
          refine x_iald hm103 (hs.k k_92) (by decide +kernel) (fun x12 hm103 => ?_)
          refine x_callVIp (as := [.int q11, .int x5, .int x12]) Vi_River_spread Vs_River_spread (hs.k k_1) rfl hm103 (fun q hq => t_River_spread hs (by decide) hq) Y_River_spread L_Weeks_173 (by decide +kernel) rfl rfl (Nat.le_of_ble_eq_true rfl) (by decide) (fun q13 hm103 => ?_)
          refine g_istore (i := 6) (by decide +kernel) rfl (by decide) (ls1 := [(0, .ref 91), (1, .int p1), (2, .int p2), (3, .int v3), (4, .int v4), (5, .int x4), (6, .int q13)]) rfl ?_
          cases hm103
          exact am_G.forget (am_subp [0, 1, 2, 3, 4, 5, 6] rfl) K103
def f_Weeks_stepOpen (p1 : Int32) (p2 : Int32) (h : am_H) : Option (am_H) :=
  am_let (if (h.2.1 10 1) ≤ p1 then (0 : Int32) else (1 : Int32)) fun y2 =>
  (f_Weeks_stepOpen_L20 p1 p2 am_fu y2 (0 : Int32) h).bind fun q16 =>
  some q16.2
set_option maxRecDepth 100000 in
set_option maxHeartbeats 4000000 in
theorem t_Weeks_stepOpen {p1 : Int32} {p2 : Int32} {h : am_H} (hs : am_Sh h)  {r : am_H} (hf : f_Weeks_stepOpen p1 p2 h = some r) : am_Ct 2 M_Weeks_stepOpen [.ref 91, .int p1, .int p2] h 0 0 (am_qV r) := by
  unfold f_Weeks_stepOpen at hf
  refine am_Ct.of (by decide) rfl (Nat.le_of_ble_eq_true rfl) (ls := [(0, .ref 91), (1, .int p1), (2, .int p2)]) rfl ?_
  refine g_iload_n (i := 1) (by decide +kernel) rfl ?_
  refine g_aload_n (i := 0) (by decide +kernel) rfl ?_
  refine x_getr (hs.k k_91) F_Weeks_54 (by decide +kernel) rfl (hs.r r_91_1) ?_
  refine x_geti (hs.k k_10) F_Weeks_193 (by decide +kernel) rfl ?_
  refine am_cut (J := 16) (ls' := [(0, .ref 91), (1, .int p1), (2, .int p2)]) (st' := [.int (if (h.2.1 10 1) ≤ p1 then (0 : Int32) else (1 : Int32))]) ?_ (fun K16 => ?_)
  · refine x_nmI hf (fun y2 hf => ?_)
    refine g_istore_n (i := 3) (by decide +kernel) rfl (by decide) (ls1 := [(0, .ref 91), (1, .int p1), (2, .int p2), (3, .int y2)]) rfl ?_
    refine g_iconst (z := 0) (v := 0) (by decide +kernel) rfl ?_
    refine g_istore (i := 4) (by decide +kernel) rfl (by decide) (ls1 := [(0, .ref 91), (1, .int p1), (2, .int p2), (3, .int y2), (4, .int (0 : Int32))]) rfl ?_
    obtain ⟨q16, hqq16, hf⟩ := Option.bind_eq_some_iff.mp hf
    refine t_Weeks_stepOpen_L20  am_fu _ _ _ q16 hs hqq16 (fun hs => ?_)
    exact x_vret hf hs (by decide +kernel) rfl
  refine p_icmp_ge (off := 7) (tgt := 15) (by decide +kernel) (by decide) (fun c1 => ?_) (fun c1 => ?_)
  · refine g_iconst (z := 0) (v := 0) (by decide +kernel) rfl ?_
    have K1 := K16
    simp only [if_pos c1] at K1
    exact am_G.forget (am_subp [0, 1, 2] rfl) K1
  · refine g_iconst (z := 1) (v := 1) (by decide +kernel) rfl ?_
    refine g_goto (off := 4) (tgt := 16) (by decide +kernel) (by decide) ?_
    have K1 := K16
    simp only [if_neg c1] at K1
    exact am_G.forget (am_subp [0, 1, 2] rfl) K1
def am_M_Tb (t : Nat) : am_M := match t with
  | _ => M_Weeks_tryBest
def f_Weeks_tryBest_L59 (rec : Nat → Int32 → am_H → Option (am_H)) (p1 : Int32) : Nat → Int32 → Int32 → am_H → Option (Int32 × am_H)
  | 0, _, _, _ => none
  | n + 1, v2, v3, h =>
    (if (h.2.1 1 0) ≤ v3 then
      some (v3, h)
    else
      (am_wr h 92 6 v2 v3).bind fun h6 =>
      (f_Weeks_stepOpen p1 v2 h6).bind fun q7 =>
      (rec 0 (p1 + (1 : Int32)) q7).bind fun q8 =>
      f_Weeks_tryBest_L59 rec p1 n v2 (v3 + (1 : Int32)) q8)
set_option maxRecDepth 100000 in
set_option maxHeartbeats 4000000 in
theorem t_Weeks_tryBest_L59 {rec : Nat → Int32 → am_H → Option (am_H)} {e : Nat} (hrec : ∀ (t : Nat) (a0 : Int32) (h : am_H), am_Sh h → ∀ q, rec t a0 h = some q → am_Ct e (am_M_Tb t) [.ref 91, .int a0] h 0 0 (am_qV q)) (he : 5 ≤ e) {p1 : Int32}  {Q : Option Value → am_H → Prop} : ∀ (n : Nat) (v2 : Int32) (v3 : Int32) (h : am_H) (q : Int32 × am_H), am_Sh h → f_Weeks_tryBest_L59 rec p1 n v2 v3 h = some q → (am_Sh q.2 → am_G (e + 1) M_Weeks_tryBest 0 0 Q 96 [(0, .ref 91), (1, .int p1), (2, .int v2), (3, .int q.1)] [] q.2 0 0) → am_G (e + 1) M_Weeks_tryBest 0 0 Q 59 [(0, .ref 91), (1, .int p1), (2, .int v2), (3, .int v3)] [] h 0 0 := by
  intro n
  induction n with
  | zero =>
    intro v2 v3 h q hs hf kont
    rw [f_Weeks_tryBest_L59] at hf
    cases hf
  | succ n ih =>
    intro v2 v3 h q hs hf kont
    rw [f_Weeks_tryBest_L59] at hf
    refine g_iload_n (i := 3) (by decide +kernel) rfl ?_
    refine g_aload_n (i := 0) (by decide +kernel) rfl ?_
    refine x_getr (hs.k k_91) F_Weeks_50 (by decide +kernel) rfl (hs.r r_91_0) ?_
    refine x_geti (hs.k k_1) F_Weeks_130 (by decide +kernel) rfl ?_
    refine x_icmp_ge (off := 29) (tgt := 96) hf (by decide +kernel) (by decide) (fun c5 hf => ?_) (fun c5 hf => ?_)
    · cases hf
      exact am_G.forget (am_subp [0, 1, 2, 3] rfl) (kont hs)
    · refine g_aload_n (i := 0) (by decide +kernel) rfl ?_
      refine x_getr (hs.k k_91) F_Weeks_9 (by decide +kernel) rfl (hs.r r_91_3) ?_
      refine g_iload_n (i := 2) (by decide +kernel) rfl ?_
      refine g_iload_n (i := 3) (by decide +kernel) rfl ?_
      refine x_iast hf hs (hs.k k_92) (by decide +kernel) (fun h6 hf hs => ?_)
      refine g_aload_n (i := 0) (by decide +kernel) rfl ?_
      refine g_iload_n (i := 1) (by decide +kernel) rfl ?_
      refine g_iload_n (i := 2) (by decide +kernel) rfl ?_
      refine x_callVV (as := [.int p1, .int v2]) Vi_Weeks_stepOpen Vs_Weeks_stepOpen (hs.k k_91) rfl hf (fun q hq => t_Weeks_stepOpen hs  hq) Y_Weeks_stepOpen L_Weeks_180 (by decide +kernel) rfl rfl (Nat.le_of_ble_eq_true rfl) (by omega) (fun q7 hf hs => ?_)
      refine g_aload_n (i := 0) (by decide +kernel) rfl ?_
      refine g_iload_n (i := 1) (by decide +kernel) rfl ?_
      refine g_iconst (z := 1) (v := 1) (by decide +kernel) rfl ?_
      refine g_iadd (by decide +kernel) ?_
      refine x_callVV (as := [.int (p1 + (1 : Int32))]) Vi_Weeks_tryBest Vs_Weeks_tryBest (hs.k k_91) rfl hf (fun q hq => hrec 0 _ _ hs q hq) Y_Weeks_tryBest L_Weeks_161 (by decide +kernel) rfl rfl (Nat.le_of_ble_eq_true rfl) (by omega) (fun q8 hf hs => ?_)
      refine g_iinc (i := 3) (z := 1) (v := (v3 + (1 : Int32))) (by decide +kernel) rfl rfl rfl (by decide) (ls1 := [(0, .ref 91), (1, .int p1), (2, .int v2), (3, .int (v3 + (1 : Int32)))]) rfl ?_
      refine g_goto (off := (-34)) (tgt := 59) (by decide +kernel) (by decide) ?_
      exact am_G.forget (am_subp [0, 1, 2, 3] rfl) (ih _ _ _ _ hs hf kont)
def b_Weeks_tryBest (rec : Nat → Int32 → am_H → Option (am_H)) (p1 : Int32) (h : am_H) : Option (am_H) :=
  (f_Weeks_lost p1 h).bind fun q1 =>
  (if (h.2.1 91 5) ≤ (((h.2.1 91 12) + (h.2.1 91 11)) - q1) then
    (if p1 < (h.2.1 1 1) then
      (f_River_hourOfWeek 1 ((h.2.1 10 0) + p1) h).bind fun q4 =>
      (f_Weeks_tryBest_L59 rec p1 am_fu q4 (0 : Int32) h).bind fun q9 =>
      some q9.2
    else
      (f_Weeks_weigh p1 h).bind fun q10 =>
      some q10)
  else
    some h)
set_option maxRecDepth 100000 in
set_option maxHeartbeats 4000000 in
theorem tb_Weeks_tryBest {rec : Nat → Int32 → am_H → Option (am_H)} {e : Nat} (hrec : ∀ (t : Nat) (a0 : Int32) (h : am_H), am_Sh h → ∀ q, rec t a0 h = some q → am_Ct e (am_M_Tb t) [.ref 91, .int a0] h 0 0 (am_qV q)) (he : 5 ≤ e) {p1 : Int32} {h : am_H} (hs : am_Sh h)  {r : am_H} (hf : b_Weeks_tryBest rec p1 h = some r) : am_Ct (e + 1) M_Weeks_tryBest [.ref 91, .int p1] h 0 0 (am_qV r) := by
  unfold b_Weeks_tryBest at hf
  refine am_Ct.of (by decide) rfl (Nat.le_of_ble_eq_true rfl) (ls := [(0, .ref 91), (1, .int p1)]) rfl ?_
  refine g_aload_n (i := 0) (by decide +kernel) rfl ?_
  refine x_geti (hs.k k_91) F_Weeks_41 (by decide +kernel) rfl ?_
  refine g_aload_n (i := 0) (by decide +kernel) rfl ?_
  refine x_geti (hs.k k_91) F_Weeks_38 (by decide +kernel) rfl ?_
  refine g_iadd (by decide +kernel) ?_
  refine g_aload_n (i := 0) (by decide +kernel) rfl ?_
  refine g_iload_n (i := 1) (by decide +kernel) rfl ?_
  refine x_callVIp (as := [.int p1]) Vi_Weeks_lost Vs_Weeks_lost (hs.k k_91) rfl hf (fun q hq => t_Weeks_lost hs  hq) Y_Weeks_lost L_Weeks_177 (by decide +kernel) rfl rfl (Nat.le_of_ble_eq_true rfl) (by omega) (fun q1 hf => ?_)
  refine g_isub (by decide +kernel) ?_
  refine g_aload_n (i := 0) (by decide +kernel) rfl ?_
  refine x_geti (hs.k k_91) F_Weeks_18 (by decide +kernel) rfl ?_
  refine x_icmp_ge (off := 4) (tgt := 23) hf (by decide +kernel) (by decide) (fun c2 hf => ?_) (fun c2 hf => ?_)
  · refine g_iload_n (i := 1) (by decide +kernel) rfl ?_
    refine g_aload_n (i := 0) (by decide +kernel) rfl ?_
    refine x_getr (hs.k k_91) F_Weeks_50 (by decide +kernel) rfl (hs.r r_91_0) ?_
    refine x_geti (hs.k k_1) F_Weeks_121 (by decide +kernel) rfl ?_
    refine x_icmp_lt (off := 9) (tgt := 40) hf (by decide +kernel) (by decide) (fun c3 hf => ?_) (fun c3 hf => ?_)
    · refine g_aload_n (i := 0) (by decide +kernel) rfl ?_
      refine x_getr (hs.k k_91) F_Weeks_50 (by decide +kernel) rfl (hs.r r_91_0) ?_
      refine g_aload_n (i := 0) (by decide +kernel) rfl ?_
      refine x_getr (hs.k k_91) F_Weeks_54 (by decide +kernel) rfl (hs.r r_91_1) ?_
      refine x_geti (hs.k k_10) F_Weeks_79 (by decide +kernel) rfl ?_
      refine g_iload_n (i := 1) (by decide +kernel) rfl ?_
      refine g_iadd (by decide +kernel) ?_
      refine x_callVIp (as := [.int ((h.2.1 10 0) + p1)]) Vi_River_hourOfWeek Vs_River_hourOfWeek (hs.k k_1) rfl hf (fun q hq => t_River_hourOfWeek hs (by decide) hq) Y_River_hourOfWeek L_Weeks_145 (by decide +kernel) rfl rfl (Nat.le_of_ble_eq_true rfl) (by omega) (fun q4 hf => ?_)
      refine g_istore_n (i := 2) (by decide +kernel) rfl (by decide) (ls1 := [(0, .ref 91), (1, .int p1), (2, .int q4)]) rfl ?_
      refine g_iconst (z := 0) (v := 0) (by decide +kernel) rfl ?_
      refine g_istore_n (i := 3) (by decide +kernel) rfl (by decide) (ls1 := [(0, .ref 91), (1, .int p1), (2, .int q4), (3, .int (0 : Int32))]) rfl ?_
      obtain ⟨q9, hqq9, hf⟩ := Option.bind_eq_some_iff.mp hf
      refine t_Weeks_tryBest_L59 hrec he  am_fu _ _ _ q9 hs hqq9 (fun hs => ?_)
      exact x_vret hf hs (by decide +kernel) rfl
    · refine g_aload_n (i := 0) (by decide +kernel) rfl ?_
      refine g_iload_n (i := 1) (by decide +kernel) rfl ?_
      refine x_callVV (as := [.int p1]) Vi_Weeks_weigh Vs_Weeks_weigh (hs.k k_91) rfl hf (fun q hq => t_Weeks_weigh hs  hq) Y_Weeks_weigh L_Weeks_157 (by decide +kernel) rfl rfl (Nat.le_of_ble_eq_true rfl) (by omega) (fun q10 hf hs => ?_)
      exact x_vret hf hs (by decide +kernel) rfl
  · exact x_vret hf hs (by decide +kernel) rfl
def f_Tb : Nat → Nat → Int32 → am_H → Option (am_H)
  | 0, _, _, _ => none
  | n + 1, t, a0, h => match t with
    | _ => b_Weeks_tryBest (f_Tb n) a0 h
theorem t_Tb : ∀ (n t : Nat) (a0 : Int32) (h : am_H), am_Sh h → ∀ q, f_Tb n t a0 h = some q → am_Ct (5 + n) (am_M_Tb t) [.ref 91, .int a0] h 0 0 (am_qV q)
  | 0, t, a0, h, hs, q, hq => by
    rw [f_Tb] at hq
    cases hq
  | n + 1, t, a0, h, hs, q, hq => by
    have hrec := t_Tb n
    match t, hq with
    | _ + 0, hq => exact tb_Weeks_tryBest hrec (by omega) hs hq
def f_Weeks_tryBest (a0 : Int32) (h : am_H) : Option (am_H) := f_Tb 60 0 a0 h
theorem t_Weeks_tryBest {a0 : Int32} {h : am_H} (hs : am_Sh h) {r : am_H} (hf : f_Weeks_tryBest a0 h = some r) : am_Ct 65 M_Weeks_tryBest [.ref 91, .int a0] h 0 0 (am_qV r) := t_Tb 60 0 a0 h hs r hf
def f_Weeks_findBest_L19  : Nat → Int32 → am_H → Option (Int32 × am_H)
  | 0, _, _ => none
  | n + 1, v1, h =>
    (if (h.2.1 1 0) ≤ v1 then
      some (v1, h)
    else
      (f_Arrays_fill 92 6 v1 h).bind fun q5 =>
      (f_Weeks_weigh (0 : Int32) q5).bind fun q6 =>
      f_Weeks_findBest_L19  n (v1 + (1 : Int32)) q6)
set_option maxRecDepth 100000 in
set_option maxHeartbeats 4000000 in
theorem t_Weeks_findBest_L19   {Q : Option Value → am_H → Prop} : ∀ (n : Nat) (v1 : Int32) (h : am_H) (q : Int32 × am_H), am_Sh h → f_Weeks_findBest_L19  n v1 h = some q → (am_Sh q.2 → am_G 66 M_Weeks_findBest 0 0 Q 49 [(0, .ref 91), (1, .int q.1)] [] q.2 0 0) → am_G 66 M_Weeks_findBest 0 0 Q 19 [(0, .ref 91), (1, .int v1)] [] h 0 0 := by
  intro n
  induction n with
  | zero =>
    intro v1 h q hs hf kont
    rw [f_Weeks_findBest_L19] at hf
    cases hf
  | succ n ih =>
    intro v1 h q hs hf kont
    rw [f_Weeks_findBest_L19] at hf
    refine g_iload_n (i := 1) (by decide +kernel) rfl ?_
    refine g_aload_n (i := 0) (by decide +kernel) rfl ?_
    refine x_getr (hs.k k_91) F_Weeks_50 (by decide +kernel) rfl (hs.r r_91_0) ?_
    refine x_geti (hs.k k_1) F_Weeks_130 (by decide +kernel) rfl ?_
    refine x_icmp_ge (off := 22) (tgt := 49) hf (by decide +kernel) (by decide) (fun c4 hf => ?_) (fun c4 hf => ?_)
    · cases hf
      exact am_G.forget (am_subp [0, 1] rfl) (kont hs)
    · refine g_aload_n (i := 0) (by decide +kernel) rfl ?_
      refine x_getr (hs.k k_91) F_Weeks_9 (by decide +kernel) rfl (hs.r r_91_3) ?_
      refine g_iload_n (i := 1) (by decide +kernel) rfl ?_
      refine x_callSV (as := [.ref 92, .int v1]) St_Arrays_fill hf (fun q hq => t_Arrays_fill hs k_92 hq) Y_Arrays_fill L_Weeks_151 (by decide +kernel) rfl rfl (Nat.le_of_ble_eq_true rfl) (by decide) (fun q5 hf hs => ?_)
      refine g_aload_n (i := 0) (by decide +kernel) rfl ?_
      refine g_iconst (z := 0) (v := 0) (by decide +kernel) rfl ?_
      refine x_callVV (as := [.int (0 : Int32)]) Vi_Weeks_weigh Vs_Weeks_weigh (hs.k k_91) rfl hf (fun q hq => t_Weeks_weigh hs  hq) Y_Weeks_weigh L_Weeks_157 (by decide +kernel) rfl rfl (Nat.le_of_ble_eq_true rfl) (by decide) (fun q6 hf hs => ?_)
      refine g_iinc (i := 1) (z := 1) (v := (v1 + (1 : Int32))) (by decide +kernel) rfl rfl rfl (by decide) (ls1 := [(0, .ref 91), (1, .int (v1 + (1 : Int32)))]) rfl ?_
      refine g_goto (off := (-27)) (tgt := 19) (by decide +kernel) (by decide) ?_
      exact am_G.forget (am_subp [0, 1] rfl) (ih _ _ _ hs hf kont)
def f_Weeks_findBest  (h : am_H) : Option (am_H) :=
  (if (h.2.1 91 8) = 0 then
    (f_Weeks_sortPeople  h).bind fun q2 =>
    am_let (am_sI q2 91 5 (-1 : Int32)) fun h3 =>
    (f_Weeks_findBest_L19  am_fu (0 : Int32) h3).bind fun q7 =>
    ((if ((q7.2.2.1 91 12) + (q7.2.2.1 91 11)) ≤ (q7.2.2.1 91 5) then
        some q7.2
      else
        (f_Weeks_tryBest (0 : Int32) q7.2).bind fun q9 =>
        some q9) : Option (am_H)).bind fun m10 =>
    am_let (am_sI m10 91 8 (1 : Int32)) fun h11 =>
    some h11
  else
    some h)
set_option maxRecDepth 100000 in
set_option maxHeartbeats 4000000 in
theorem t_Weeks_findBest  {h : am_H} (hs : am_Sh h)  {r : am_H} (hf : f_Weeks_findBest  h = some r) : am_Ct 66 M_Weeks_findBest [.ref 91] h 0 0 (am_qV r) := by
  unfold f_Weeks_findBest at hf
  refine am_Ct.of (by decide) rfl (Nat.le_of_ble_eq_true rfl) (ls := [(0, .ref 91)]) rfl ?_
  refine g_aload_n (i := 0) (by decide +kernel) rfl ?_
  refine x_geti (hs.k k_91) F_Weeks_28 (by decide +kernel) rfl ?_
  refine x_if_eq (off := 4) (tgt := 8) hf (by decide +kernel) (by decide) (fun c1 hf => ?_) (fun c1 hf => ?_)
  · refine g_aload_n (i := 0) (by decide +kernel) rfl ?_
    refine x_callVV (as := []) Vi_Weeks_sortPeople Vs_Weeks_sortPeople (hs.k k_91) rfl hf (fun q hq => t_Weeks_sortPeople hs  hq) Y_Weeks_sortPeople L_Weeks_148 (by decide +kernel) rfl rfl (Nat.le_of_ble_eq_true rfl) (by decide) (fun q2 hf hs => ?_)
    refine g_aload_n (i := 0) (by decide +kernel) rfl ?_
    refine g_iconst (z := (-1)) (v := (-1)) (by decide +kernel) rfl ?_
    refine x_puti hf hs (hs.k k_91) F_Weeks_18 (by decide +kernel) rfl rfl rfl rfl (fun h3 hf hs => ?_)
    refine g_iconst (z := 0) (v := 0) (by decide +kernel) rfl ?_
    refine g_istore_n (i := 1) (by decide +kernel) rfl (by decide) (ls1 := [(0, .ref 91), (1, .int (0 : Int32))]) rfl ?_
    obtain ⟨q7, hqq7, hf⟩ := Option.bind_eq_some_iff.mp hf
    refine t_Weeks_findBest_L19  am_fu _ _ q7 hs hqq7 (fun hs => ?_)
    refine g_aload_n (i := 0) (by decide +kernel) rfl ?_
    refine x_geti (hs.k k_91) F_Weeks_18 (by decide +kernel) rfl ?_
    refine g_aload_n (i := 0) (by decide +kernel) rfl ?_
    refine x_geti (hs.k k_91) F_Weeks_41 (by decide +kernel) rfl ?_
    refine g_aload_n (i := 0) (by decide +kernel) rfl ?_
    refine x_geti (hs.k k_91) F_Weeks_38 (by decide +kernel) rfl ?_
    refine g_iadd (by decide +kernel) ?_
    obtain ⟨m10, hm70, hf⟩ := Option.bind_eq_some_iff.mp hf
    refine am_cutS (J := 70) (ls' := [(0, .ref 91), (1, .int q7.1)]) (st' := []) (h' := m10) (fun hs => ?_) (fun K70 => ?_)
    · refine g_aload_n (i := 0) (by decide +kernel) rfl ?_
      refine g_iconst (z := 1) (v := 1) (by decide +kernel) rfl ?_
      refine x_puti hf hs (hs.k k_91) F_Weeks_28 (by decide +kernel) rfl rfl rfl rfl (fun h11 hf hs => ?_)
      exact x_vret hf hs (by decide +kernel) rfl
    refine x_icmp_ge (off := 8) (tgt := 70) hm70 (by decide +kernel) (by decide) (fun c8 hm70 => ?_) (fun c8 hm70 => ?_)
    · cases hm70
      exact am_G.forget (am_subp [0, 1] rfl) (K70 hs)
    · refine g_aload_n (i := 0) (by decide +kernel) rfl ?_
      refine g_iconst (z := 0) (v := 0) (by decide +kernel) rfl ?_
      refine x_callVV (as := [.int (0 : Int32)]) Vi_Weeks_tryBest Vs_Weeks_tryBest (hs.k k_91) rfl hm70 (fun q hq => t_Weeks_tryBest hs  hq) Y_Weeks_tryBest L_Weeks_161 (by decide +kernel) rfl rfl (Nat.le_of_ble_eq_true rfl) (by decide) (fun q9 hm70 hs => ?_)
      cases hm70
      exact am_G.forget (am_subp [0, 1] rfl) (K70 hs)
  · exact x_vret hf hs (by decide +kernel) rfl
def f_Top_best (p1 : Int32) (h : am_H) : Option (Int32 × am_H) :=
  ((if p1 < (10 : Int32) then
      some (0 : Int32)
    else
      (f_River_hasHour 1 (p1 - (10 : Int32)) h).bind fun q2 =>
      (if q2 = true then
        some (1 : Int32)
      else
        some (0 : Int32))) : Option (Int32)).bind fun m4 =>
  (if p1 = 0 then
    (f_Weeks_findBest  h).bind fun q6 =>
    (if m4 = 0 then
      (if p1 = 0 then
        some ((q6.2.1 91 5), q6)
      else
        some ((q6.2.1 91 6), q6))
    else
      (am_rd (q6.2.1 93) 6 (p1 - (10 : Int32))).bind fun x9 =>
      some (x9, q6))
  else
    (if p1 = (1 : Int32) then
      (f_Weeks_findBest  h).bind fun q11 =>
      (if m4 = 0 then
        (if p1 = 0 then
          some ((q11.2.1 91 5), q11)
        else
          some ((q11.2.1 91 6), q11))
      else
        (am_rd (q11.2.1 93) 6 (p1 - (10 : Int32))).bind fun x14 =>
        some (x14, q11))
    else
      (if m4 = 0 then
        some ((-2 : Int32), h)
      else
        (f_Weeks_findBest  h).bind fun q16 =>
        (if m4 = 0 then
          (if p1 = 0 then
            some ((q16.2.1 91 5), q16)
          else
            some ((q16.2.1 91 6), q16))
        else
          (am_rd (q16.2.1 93) 6 (p1 - (10 : Int32))).bind fun x19 =>
          some (x19, q16)))))
set_option maxRecDepth 100000 in
set_option maxHeartbeats 4000000 in
theorem t_Top_best {p1 : Int32} {h : am_H} (hs : am_Sh h)  {r : Int32 × am_H} (hf : f_Top_best p1 h = some r) : am_Ct 67 M_Top_best [.ref 0, .int p1] h 0 0 (am_qI r) := by
  unfold f_Top_best at hf
  refine am_Ct.of (by decide) rfl (Nat.le_of_ble_eq_true rfl) (ls := [(0, .ref 0), (1, .int p1)]) rfl ?_
  refine g_iload_n (i := 1) (by decide +kernel) rfl ?_
  refine g_bipush (z := 10) (v := 10) (by decide +kernel) rfl ?_
  obtain ⟨m4, hm25, hf⟩ := Option.bind_eq_some_iff.mp hf
  refine am_cut (J := 25) (ls' := [(0, .ref 0), (1, .int p1)]) (st' := [.int m4]) ?_ (fun K25 => ?_)
  · refine g_istore_n (i := 2) (by decide +kernel) rfl (by decide) (ls1 := [(0, .ref 0), (1, .int p1), (2, .int m4)]) rfl ?_
    refine g_iload_n (i := 1) (by decide +kernel) rfl ?_
    refine x_if_eq (off := 15) (tgt := 42) hf (by decide +kernel) (by decide) (fun c5 hf => ?_) (fun c5 hf => ?_)
    · refine g_aload_n (i := 0) (by decide +kernel) rfl ?_
      refine x_getr (hs.k k_0) F_Top_72 (by decide +kernel) rfl (hs.r r_0_10) ?_
      refine x_callVV (as := []) Vi_Weeks_findBest Vs_Weeks_findBest (hs.k k_91) rfl hf (fun q hq => t_Weeks_findBest hs  hq) Y_Weeks_findBest L_Top_273 (by decide +kernel) rfl rfl (Nat.le_of_ble_eq_true rfl) (by decide) (fun q6 hf hs => ?_)
      refine g_iload_n (i := 2) (by decide +kernel) rfl ?_
      refine x_if_eq (off := 16) (tgt := 66) hf (by decide +kernel) (by decide) (fun c7 hf => ?_) (fun c7 hf => ?_)
      · refine g_iload_n (i := 1) (by decide +kernel) rfl ?_
        refine x_if_ne (off := 13) (tgt := 80) hf (by decide +kernel) (by decide) (fun c8 hf => ?_) (fun c8 hf => ?_)
        · refine g_aload_n (i := 0) (by decide +kernel) rfl ?_
          refine x_getr (hs.k k_0) F_Top_72 (by decide +kernel) rfl (hs.r r_0_10) ?_
          refine x_geti (hs.k k_91) F_Top_282 (by decide +kernel) rfl ?_
          exact x_iret hf hs (by decide +kernel) rfl
        · refine g_aload_n (i := 0) (by decide +kernel) rfl ?_
          refine x_getr (hs.k k_0) F_Top_72 (by decide +kernel) rfl (hs.r r_0_10) ?_
          refine x_geti (hs.k k_91) F_Top_279 (by decide +kernel) rfl ?_
          refine g_goto (off := 10) (tgt := 87) (by decide +kernel) (by decide) ?_
          exact x_iret hf hs (by decide +kernel) rfl
      · refine g_aload_n (i := 0) (by decide +kernel) rfl ?_
        refine x_getr (hs.k k_0) F_Top_72 (by decide +kernel) rfl (hs.r r_0_10) ?_
        refine x_getr (hs.k k_91) F_Top_276 (by decide +kernel) rfl (hs.r r_91_4) ?_
        refine g_iload_n (i := 1) (by decide +kernel) rfl ?_
        refine g_bipush (z := 10) (v := 10) (by decide +kernel) rfl ?_
        refine g_isub (by decide +kernel) ?_
        refine x_iald hf (hs.k k_93) (by decide +kernel) (fun x9 hf => ?_)
        exact x_iret hf hs (by decide +kernel) rfl
    · refine g_iload_n (i := 1) (by decide +kernel) rfl ?_
      refine g_iconst (z := 1) (v := 1) (by decide +kernel) rfl ?_
      refine x_icmp_eq (off := 10) (tgt := 42) hf (by decide +kernel) (by decide) (fun c10 hf => ?_) (fun c10 hf => ?_)
      · refine g_aload_n (i := 0) (by decide +kernel) rfl ?_
        refine x_getr (hs.k k_0) F_Top_72 (by decide +kernel) rfl (hs.r r_0_10) ?_
        refine x_callVV (as := []) Vi_Weeks_findBest Vs_Weeks_findBest (hs.k k_91) rfl hf (fun q hq => t_Weeks_findBest hs  hq) Y_Weeks_findBest L_Top_273 (by decide +kernel) rfl rfl (Nat.le_of_ble_eq_true rfl) (by decide) (fun q11 hf hs => ?_)
        refine g_iload_n (i := 2) (by decide +kernel) rfl ?_
        refine x_if_eq (off := 16) (tgt := 66) hf (by decide +kernel) (by decide) (fun c12 hf => ?_) (fun c12 hf => ?_)
        · refine g_iload_n (i := 1) (by decide +kernel) rfl ?_
          refine x_if_ne (off := 13) (tgt := 80) hf (by decide +kernel) (by decide) (fun c13 hf => ?_) (fun c13 hf => ?_)
          · refine g_aload_n (i := 0) (by decide +kernel) rfl ?_
            refine x_getr (hs.k k_0) F_Top_72 (by decide +kernel) rfl (hs.r r_0_10) ?_
            refine x_geti (hs.k k_91) F_Top_282 (by decide +kernel) rfl ?_
            exact x_iret hf hs (by decide +kernel) rfl
          · refine g_aload_n (i := 0) (by decide +kernel) rfl ?_
            refine x_getr (hs.k k_0) F_Top_72 (by decide +kernel) rfl (hs.r r_0_10) ?_
            refine x_geti (hs.k k_91) F_Top_279 (by decide +kernel) rfl ?_
            refine g_goto (off := 10) (tgt := 87) (by decide +kernel) (by decide) ?_
            exact x_iret hf hs (by decide +kernel) rfl
        · refine g_aload_n (i := 0) (by decide +kernel) rfl ?_
          refine x_getr (hs.k k_0) F_Top_72 (by decide +kernel) rfl (hs.r r_0_10) ?_
          refine x_getr (hs.k k_91) F_Top_276 (by decide +kernel) rfl (hs.r r_91_4) ?_
          refine g_iload_n (i := 1) (by decide +kernel) rfl ?_
          refine g_bipush (z := 10) (v := 10) (by decide +kernel) rfl ?_
          refine g_isub (by decide +kernel) ?_
          refine x_iald hf (hs.k k_93) (by decide +kernel) (fun x14 hf => ?_)
          exact x_iret hf hs (by decide +kernel) rfl
      · refine g_iload_n (i := 2) (by decide +kernel) rfl ?_
        refine x_if_ne (off := 6) (tgt := 42) hf (by decide +kernel) (by decide) (fun c15 hf => ?_) (fun c15 hf => ?_)
        · refine g_aload_n (i := 0) (by decide +kernel) rfl ?_
          refine x_getr (hs.k k_0) F_Top_72 (by decide +kernel) rfl (hs.r r_0_10) ?_
          refine x_callVV (as := []) Vi_Weeks_findBest Vs_Weeks_findBest (hs.k k_91) rfl hf (fun q hq => t_Weeks_findBest hs  hq) Y_Weeks_findBest L_Top_273 (by decide +kernel) rfl rfl (Nat.le_of_ble_eq_true rfl) (by decide) (fun q16 hf hs => ?_)
          refine g_iload_n (i := 2) (by decide +kernel) rfl ?_
          refine x_if_eq (off := 16) (tgt := 66) hf (by decide +kernel) (by decide) (fun c17 hf => ?_) (fun c17 hf => ?_)
          · refine g_iload_n (i := 1) (by decide +kernel) rfl ?_
            refine x_if_ne (off := 13) (tgt := 80) hf (by decide +kernel) (by decide) (fun c18 hf => ?_) (fun c18 hf => ?_)
            · refine g_aload_n (i := 0) (by decide +kernel) rfl ?_
              refine x_getr (hs.k k_0) F_Top_72 (by decide +kernel) rfl (hs.r r_0_10) ?_
              refine x_geti (hs.k k_91) F_Top_282 (by decide +kernel) rfl ?_
              exact x_iret hf hs (by decide +kernel) rfl
            · refine g_aload_n (i := 0) (by decide +kernel) rfl ?_
              refine x_getr (hs.k k_0) F_Top_72 (by decide +kernel) rfl (hs.r r_0_10) ?_
              refine x_geti (hs.k k_91) F_Top_279 (by decide +kernel) rfl ?_
              refine g_goto (off := 10) (tgt := 87) (by decide +kernel) (by decide) ?_
              exact x_iret hf hs (by decide +kernel) rfl
          · refine g_aload_n (i := 0) (by decide +kernel) rfl ?_
            refine x_getr (hs.k k_0) F_Top_72 (by decide +kernel) rfl (hs.r r_0_10) ?_
            refine x_getr (hs.k k_91) F_Top_276 (by decide +kernel) rfl (hs.r r_91_4) ?_
            refine g_iload_n (i := 1) (by decide +kernel) rfl ?_
            refine g_bipush (z := 10) (v := 10) (by decide +kernel) rfl ?_
            refine g_isub (by decide +kernel) ?_
            refine x_iald hf (hs.k k_93) (by decide +kernel) (fun x19 hf => ?_)
            exact x_iret hf hs (by decide +kernel) rfl
        · refine g_bipush (z := (-2)) (v := (-2)) (by decide +kernel) rfl ?_
          exact x_iret hf hs (by decide +kernel) rfl
  refine x_icmp_lt (off := 21) (tgt := 24) hm25 (by decide +kernel) (by decide) (fun c1 hm25 => ?_) (fun c1 hm25 => ?_)
  · refine g_iconst (z := 0) (v := 0) (by decide +kernel) rfl ?_
    cases hm25
    exact am_G.forget (am_subp [0, 1] rfl) K25
  · refine g_aload_n (i := 0) (by decide +kernel) rfl ?_
    refine x_getr (hs.k k_0) F_Top_10 (by decide +kernel) rfl (hs.r r_0_0) ?_
    refine g_iload_n (i := 1) (by decide +kernel) rfl ?_
    refine g_bipush (z := 10) (v := 10) (by decide +kernel) rfl ?_
    refine g_isub (by decide +kernel) ?_
    refine x_callVBp (as := [.int (p1 - (10 : Int32))]) Vi_River_hasHour Vs_River_hasHour (hs.k k_1) rfl hm25 (fun q hq => t_River_hasHour hs (by decide) hq) Y_River_hasHour L_Top_177 (by decide +kernel) rfl rfl (Nat.le_of_ble_eq_true rfl) (by decide) (fun q2 hm25 => ?_)
    refine x_ifb_eq (off := 7) (tgt := 24) hm25 (by decide +kernel) (by decide) (fun c3 hm25 => ?_) (fun c3 hm25 => ?_)
    · refine g_iconst (z := 0) (v := 0) (by decide +kernel) rfl ?_
      cases hm25
      exact am_G.forget (am_subp [0, 1] rfl) K25
    · refine g_iconst (z := 1) (v := 1) (by decide +kernel) rfl ?_
      refine g_goto (off := 4) (tgt := 25) (by decide +kernel) (by decide) ?_
      cases hm25
      exact am_G.forget (am_subp [0, 1] rfl) K25
def f_Weeks_choice (p1 : Int32) (h : am_H) : Option (Int32) :=
  (if (h.2.1 1 0) ≤ p1 then
    some (-1 : Int32)
  else
    some p1)
set_option maxRecDepth 100000 in
set_option maxHeartbeats 4000000 in
theorem t_Weeks_choice {p1 : Int32} {h : am_H} (hs : am_Sh h)  {r : Int32} (hf : f_Weeks_choice p1 h = some r) : am_Ct 0 M_Weeks_choice [.ref 91, .int p1] h 0 0 (am_pI h r) := by
  unfold f_Weeks_choice at hf
  refine am_Ct.of (by decide) rfl (Nat.le_of_ble_eq_true rfl) (ls := [(0, .ref 91), (1, .int p1)]) rfl ?_
  refine g_iload_n (i := 1) (by decide +kernel) rfl ?_
  refine g_aload_n (i := 0) (by decide +kernel) rfl ?_
  refine x_getr (hs.k k_91) F_Weeks_50 (by decide +kernel) rfl (hs.r r_91_0) ?_
  refine x_geti (hs.k k_1) F_Weeks_130 (by decide +kernel) rfl ?_
  refine x_icmp_ge (off := 7) (tgt := 15) hf (by decide +kernel) (by decide) (fun c1 hf => ?_) (fun c1 hf => ?_)
  · refine g_iconst (z := (-1)) (v := (-1)) (by decide +kernel) rfl ?_
    exact x_iretp hf (by decide +kernel) rfl
  · refine g_iload_n (i := 1) (by decide +kernel) rfl ?_
    refine g_goto (off := 4) (tgt := 16) (by decide +kernel) (by decide) ?_
    exact x_iretp hf (by decide +kernel) rfl
def f_Weeks_bestChange_L37  : Nat → Int32 → Int32 → Int32 → Int32 → am_H → Option (Int32 × Int32 × Int32 × am_H)
  | 0, _, _, _, _, _ => none
  | n + 1, v1, v2, v3, v4, h =>
    (if (h.2.1 1 0) < v4 then
      some (v1, v2, v4, h)
    else
      (f_Weeks_choice v4 h).bind fun q6 =>
      (am_wr h 92 6 v3 q6).bind fun h7 =>
      (f_Weeks_doneInTime 92 6 h7).bind fun q8 =>
      (f_Integer_bitCount q8 h7).bind fun q9 =>
      (if q9 ≤ v1 then
        f_Weeks_bestChange_L37  n v1 v2 v3 (v4 + (1 : Int32)) h7
      else
        (if (h7.2.1 1 0) ≤ v4 then
          f_Weeks_bestChange_L37  n q9 (((10 : Int32) * v3) + (9 : Int32)) v3 (v4 + (1 : Int32)) h7
        else
          f_Weeks_bestChange_L37  n q9 (((10 : Int32) * v3) + v4) v3 (v4 + (1 : Int32)) h7)))
set_option maxRecDepth 100000 in
set_option maxHeartbeats 4000000 in
theorem t_Weeks_bestChange_L37   {Q : Option Value → am_H → Prop} : ∀ (n : Nat) (v1 : Int32) (v2 : Int32) (v3 : Int32) (v4 : Int32) (h : am_H) (q : Int32 × Int32 × Int32 × am_H), am_Sh h → f_Weeks_bestChange_L37  n v1 v2 v3 v4 h = some q → (am_Sh q.2.2.2 → am_G 5 M_Weeks_bestChange 0 0 Q 114 [(0, .ref 91), (1, .int q.1), (2, .int q.2.1), (3, .int v3), (4, .int q.2.2.1)] [] q.2.2.2 0 0) → am_G 5 M_Weeks_bestChange 0 0 Q 37 [(0, .ref 91), (1, .int v1), (2, .int v2), (3, .int v3), (4, .int v4)] [] h 0 0 := by
  intro n
  induction n with
  | zero =>
    intro v1 v2 v3 v4 h q hs hf kont
    rw [f_Weeks_bestChange_L37] at hf
    cases hf
  | succ n ih =>
    intro v1 v2 v3 v4 h q hs hf kont
    rw [f_Weeks_bestChange_L37] at hf
    refine g_iload (i := 4) (by decide +kernel) rfl ?_
    refine g_aload_n (i := 0) (by decide +kernel) rfl ?_
    refine x_getr (hs.k k_91) F_Weeks_50 (by decide +kernel) rfl (hs.r r_91_0) ?_
    refine x_geti (hs.k k_1) F_Weeks_130 (by decide +kernel) rfl ?_
    refine x_icmp_gt (off := 68) (tgt := 114) hf (by decide +kernel) (by decide) (fun c5 hf => ?_) (fun c5 hf => ?_)
    · cases hf
      exact am_G.forget (am_subp [0, 1, 2, 3, 4] rfl) (kont hs)
    · refine g_aload_n (i := 0) (by decide +kernel) rfl ?_
      refine x_getr (hs.k k_91) F_Weeks_9 (by decide +kernel) rfl (hs.r r_91_3) ?_
      refine g_iload_n (i := 3) (by decide +kernel) rfl ?_
      refine g_aload_n (i := 0) (by decide +kernel) rfl ?_
      refine g_iload (i := 4) (by decide +kernel) rfl ?_
      refine x_callVIp (as := [.int v4]) Vi_Weeks_choice Vs_Weeks_choice (hs.k k_91) rfl hf (fun q hq => t_Weeks_choice hs  hq) Y_Weeks_choice L_Weeks_142 (by decide +kernel) rfl rfl (Nat.le_of_ble_eq_true rfl) (by decide) (fun q6 hf => ?_)
      refine x_iast hf hs (hs.k k_92) (by decide +kernel) (fun h7 hf hs => ?_)
      refine g_aload_n (i := 0) (by decide +kernel) rfl ?_
      refine g_aload_n (i := 0) (by decide +kernel) rfl ?_
      refine x_getr (hs.k k_91) F_Weeks_9 (by decide +kernel) rfl (hs.r r_91_3) ?_
      refine x_callVIp (as := [.ref 92]) Vi_Weeks_doneInTime Vs_Weeks_doneInTime (hs.k k_91) rfl hf (fun q hq => t_Weeks_doneInTime hs k_92 hq) Y_Weeks_doneInTime L_Weeks_133 (by decide +kernel) rfl rfl (Nat.le_of_ble_eq_true rfl) (by decide) (fun q8 hf => ?_)
      refine x_callSIp (as := [.int q8]) St_Integer_bitCount hf (fun q hq => t_Integer_bitCount hs  hq) Y_Integer_bitCount L_Weeks_137 (by decide +kernel) rfl rfl (Nat.le_of_ble_eq_true rfl) (by decide) (fun q9 hf => ?_)
      refine g_istore (i := 5) (by decide +kernel) rfl (by decide) (ls1 := [(0, .ref 91), (1, .int v1), (2, .int v2), (3, .int v3), (4, .int v4), (5, .int q9)]) rfl ?_
      refine g_iload (i := 5) (by decide +kernel) rfl ?_
      refine g_iload_n (i := 1) (by decide +kernel) rfl ?_
      refine x_icmp_le (off := 31) (tgt := 108) hf (by decide +kernel) (by decide) (fun c10 hf => ?_) (fun c10 hf => ?_)
      · refine g_iinc (i := 4) (z := 1) (v := (v4 + (1 : Int32))) (by decide +kernel) rfl rfl rfl (by decide) (ls1 := [(0, .ref 91), (1, .int v1), (2, .int v2), (3, .int v3), (4, .int (v4 + (1 : Int32))), (5, .int q9)]) rfl ?_
        refine g_goto (off := (-74)) (tgt := 37) (by decide +kernel) (by decide) ?_
        exact am_G.forget (am_subp [0, 1, 2, 3, 4] rfl) (ih _ _ _ _ _ _ hs hf kont)
      · refine g_iload (i := 5) (by decide +kernel) rfl ?_
        refine g_istore_n (i := 1) (by decide +kernel) rfl (by decide) (ls1 := [(0, .ref 91), (1, .int q9), (2, .int v2), (3, .int v3), (4, .int v4), (5, .int q9)]) rfl ?_
        refine g_bipush (z := 10) (v := 10) (by decide +kernel) rfl ?_
        refine g_iload_n (i := 3) (by decide +kernel) rfl ?_
        refine g_imul (by decide +kernel) ?_
        refine g_iload (i := 4) (by decide +kernel) rfl ?_
        refine g_aload_n (i := 0) (by decide +kernel) rfl ?_
        refine x_getr (hs.k k_91) F_Weeks_50 (by decide +kernel) rfl (hs.r r_91_0) ?_
        refine x_geti (hs.k k_1) F_Weeks_130 (by decide +kernel) rfl ?_
        refine x_icmp_ge (off := 8) (tgt := 104) hf (by decide +kernel) (by decide) (fun c11 hf => ?_) (fun c11 hf => ?_)
        · refine g_bipush (z := 9) (v := 9) (by decide +kernel) rfl ?_
          refine g_iadd (by decide +kernel) ?_
          refine g_istore_n (i := 2) (by decide +kernel) rfl (by decide) (ls1 := [(0, .ref 91), (1, .int q9), (2, .int (((10 : Int32) * v3) + (9 : Int32))), (3, .int v3), (4, .int v4), (5, .int q9)]) rfl ?_
          refine g_iinc (i := 4) (z := 1) (v := (v4 + (1 : Int32))) (by decide +kernel) rfl rfl rfl (by decide) (ls1 := [(0, .ref 91), (1, .int q9), (2, .int (((10 : Int32) * v3) + (9 : Int32))), (3, .int v3), (4, .int (v4 + (1 : Int32))), (5, .int q9)]) rfl ?_
          refine g_goto (off := (-74)) (tgt := 37) (by decide +kernel) (by decide) ?_
          exact am_G.forget (am_subp [0, 1, 2, 3, 4] rfl) (ih _ _ _ _ _ _ hs hf kont)
        · refine g_iload (i := 4) (by decide +kernel) rfl ?_
          refine g_goto (off := 5) (tgt := 106) (by decide +kernel) (by decide) ?_
          refine g_iadd (by decide +kernel) ?_
          refine g_istore_n (i := 2) (by decide +kernel) rfl (by decide) (ls1 := [(0, .ref 91), (1, .int q9), (2, .int (((10 : Int32) * v3) + v4)), (3, .int v3), (4, .int v4), (5, .int q9)]) rfl ?_
          refine g_iinc (i := 4) (z := 1) (v := (v4 + (1 : Int32))) (by decide +kernel) rfl rfl rfl (by decide) (ls1 := [(0, .ref 91), (1, .int q9), (2, .int (((10 : Int32) * v3) + v4)), (3, .int v3), (4, .int (v4 + (1 : Int32))), (5, .int q9)]) rfl ?_
          refine g_goto (off := (-74)) (tgt := 37) (by decide +kernel) (by decide) ?_
          exact am_G.forget (am_subp [0, 1, 2, 3, 4] rfl) (ih _ _ _ _ _ _ hs hf kont)
def f_Weeks_bestChange_L23  : Nat → Int32 → Int32 → Int32 → am_H → Option (Int32 × Int32 × Int32 × am_H)
  | 0, _, _, _, _ => none
  | n + 1, v1, v2, v3, h =>
    (if (h.2.1 1 1) ≤ v3 then
      some (v1, v2, v3, h)
    else
      (f_Weeks_bestChange_L37  am_fu v1 v2 v3 (0 : Int32) h).bind fun q12 =>
      (am_rd (q12.2.2.2.2.1 11) 6 v3).bind fun x13 =>
      (am_wr q12.2.2.2 92 6 v3 x13).bind fun h14 =>
      f_Weeks_bestChange_L23  n q12.1 q12.2.1 (v3 + (1 : Int32)) h14)
set_option maxRecDepth 100000 in
set_option maxHeartbeats 4000000 in
theorem t_Weeks_bestChange_L23   {Q : Option Value → am_H → Prop} : ∀ (n : Nat) (v1 : Int32) (v2 : Int32) (v3 : Int32) (h : am_H) (q : Int32 × Int32 × Int32 × am_H), am_Sh h → f_Weeks_bestChange_L23  n v1 v2 v3 h = some q → (am_Sh q.2.2.2 → am_G 5 M_Weeks_bestChange 0 0 Q 135 [(0, .ref 91), (1, .int q.1), (2, .int q.2.1), (3, .int q.2.2.1)] [] q.2.2.2 0 0) → am_G 5 M_Weeks_bestChange 0 0 Q 23 [(0, .ref 91), (1, .int v1), (2, .int v2), (3, .int v3)] [] h 0 0 := by
  intro n
  induction n with
  | zero =>
    intro v1 v2 v3 h q hs hf kont
    rw [f_Weeks_bestChange_L23] at hf
    cases hf
  | succ n ih =>
    intro v1 v2 v3 h q hs hf kont
    rw [f_Weeks_bestChange_L23] at hf
    refine g_iload_n (i := 3) (by decide +kernel) rfl ?_
    refine g_aload_n (i := 0) (by decide +kernel) rfl ?_
    refine x_getr (hs.k k_91) F_Weeks_50 (by decide +kernel) rfl (hs.r r_91_0) ?_
    refine x_geti (hs.k k_1) F_Weeks_121 (by decide +kernel) rfl ?_
    refine x_icmp_ge (off := 104) (tgt := 135) hf (by decide +kernel) (by decide) (fun c4 hf => ?_) (fun c4 hf => ?_)
    · cases hf
      exact am_G.forget (am_subp [0, 1, 2, 3] rfl) (kont hs)
    · refine g_iconst (z := 0) (v := 0) (by decide +kernel) rfl ?_
      refine g_istore (i := 4) (by decide +kernel) rfl (by decide) (ls1 := [(0, .ref 91), (1, .int v1), (2, .int v2), (3, .int v3), (4, .int (0 : Int32))]) rfl ?_
      obtain ⟨q12, hqq12, hf⟩ := Option.bind_eq_some_iff.mp hf
      refine t_Weeks_bestChange_L37  am_fu _ _ _ _ _ q12 hs hqq12 (fun hs => ?_)
      refine g_aload_n (i := 0) (by decide +kernel) rfl ?_
      refine x_getr (hs.k k_91) F_Weeks_9 (by decide +kernel) rfl (hs.r r_91_3) ?_
      refine g_iload_n (i := 3) (by decide +kernel) rfl ?_
      refine g_aload_n (i := 0) (by decide +kernel) rfl ?_
      refine x_getr (hs.k k_91) F_Weeks_54 (by decide +kernel) rfl (hs.r r_91_1) ?_
      refine x_getr (hs.k k_10) F_Weeks_115 (by decide +kernel) rfl (hs.r r_10_3) ?_
      refine g_iload_n (i := 3) (by decide +kernel) rfl ?_
      refine x_iald hf (hs.k k_11) (by decide +kernel) (fun x13 hf => ?_)
      refine x_iast hf hs (hs.k k_92) (by decide +kernel) (fun h14 hf hs => ?_)
      refine g_iinc (i := 3) (z := 1) (v := (v3 + (1 : Int32))) (by decide +kernel) rfl rfl rfl (by decide) (ls1 := [(0, .ref 91), (1, .int q12.1), (2, .int q12.2.1), (3, .int (v3 + (1 : Int32))), (4, .int q12.2.2.1)]) rfl ?_
      refine g_goto (off := (-109)) (tgt := 23) (by decide +kernel) (by decide) ?_
      exact am_G.forget (am_subp [0, 1, 2, 3] rfl) (ih _ _ _ _ _ hs hf kont)
def f_Weeks_bestChange  (h : am_H) : Option (Int32 × am_H) :=
  (f_Weeks_doneInTime 11 6 h).bind fun q1 =>
  (f_Integer_bitCount q1 h).bind fun q2 =>
  (f_Weeks_takeWeek  h).bind fun q3 =>
  (f_Weeks_bestChange_L23  am_fu q2 (-1 : Int32) (0 : Int32) q3).bind fun q15 =>
  some (q15.2.1, q15.2.2.2)
set_option maxRecDepth 100000 in
set_option maxHeartbeats 4000000 in
theorem t_Weeks_bestChange  {h : am_H} (hs : am_Sh h)  {r : Int32 × am_H} (hf : f_Weeks_bestChange  h = some r) : am_Ct 5 M_Weeks_bestChange [.ref 91] h 0 0 (am_qI r) := by
  unfold f_Weeks_bestChange at hf
  refine am_Ct.of (by decide) rfl (Nat.le_of_ble_eq_true rfl) (ls := [(0, .ref 91)]) rfl ?_
  refine g_aload_n (i := 0) (by decide +kernel) rfl ?_
  refine g_aload_n (i := 0) (by decide +kernel) rfl ?_
  refine x_getr (hs.k k_91) F_Weeks_54 (by decide +kernel) rfl (hs.r r_91_1) ?_
  refine x_getr (hs.k k_10) F_Weeks_115 (by decide +kernel) rfl (hs.r r_10_3) ?_
  refine x_callVIp (as := [.ref 11]) Vi_Weeks_doneInTime Vs_Weeks_doneInTime (hs.k k_91) rfl hf (fun q hq => t_Weeks_doneInTime hs k_11 hq) Y_Weeks_doneInTime L_Weeks_133 (by decide +kernel) rfl rfl (Nat.le_of_ble_eq_true rfl) (by decide) (fun q1 hf => ?_)
  refine x_callSIp (as := [.int q1]) St_Integer_bitCount hf (fun q hq => t_Integer_bitCount hs  hq) Y_Integer_bitCount L_Weeks_137 (by decide +kernel) rfl rfl (Nat.le_of_ble_eq_true rfl) (by decide) (fun q2 hf => ?_)
  refine g_istore_n (i := 1) (by decide +kernel) rfl (by decide) (ls1 := [(0, .ref 91), (1, .int q2)]) rfl ?_
  refine g_iconst (z := (-1)) (v := (-1)) (by decide +kernel) rfl ?_
  refine g_istore_n (i := 2) (by decide +kernel) rfl (by decide) (ls1 := [(0, .ref 91), (1, .int q2), (2, .int (-1 : Int32))]) rfl ?_
  refine g_aload_n (i := 0) (by decide +kernel) rfl ?_
  refine x_callVV (as := []) Vi_Weeks_takeWeek Vs_Weeks_takeWeek (hs.k k_91) rfl hf (fun q hq => t_Weeks_takeWeek hs  hq) Y_Weeks_takeWeek L_Weeks_118 (by decide +kernel) rfl rfl (Nat.le_of_ble_eq_true rfl) (by decide) (fun q3 hf hs => ?_)
  refine g_iconst (z := 0) (v := 0) (by decide +kernel) rfl ?_
  refine g_istore_n (i := 3) (by decide +kernel) rfl (by decide) (ls1 := [(0, .ref 91), (1, .int q2), (2, .int (-1 : Int32)), (3, .int (0 : Int32))]) rfl ?_
  obtain ⟨q15, hqq15, hf⟩ := Option.bind_eq_some_iff.mp hf
  refine t_Weeks_bestChange_L23  am_fu _ _ _ _ q15 hs hqq15 (fun hs => ?_)
  refine g_iload_n (i := 2) (by decide +kernel) rfl ?_
  exact x_iret hf hs (by decide +kernel) rfl
def f_Top_change  (h : am_H) : Option (Int32 × am_H) :=
  (f_Weeks_bestChange  h).bind fun q1 =>
  some (q1.1, q1.2)
set_option maxRecDepth 100000 in
set_option maxHeartbeats 4000000 in
theorem t_Top_change  {h : am_H} (hs : am_Sh h)  {r : Int32 × am_H} (hf : f_Top_change  h = some r) : am_Ct 6 M_Top_change [.ref 0] h 0 0 (am_qI r) := by
  unfold f_Top_change at hf
  refine am_Ct.of (by decide) rfl (Nat.le_of_ble_eq_true rfl) (ls := [(0, .ref 0)]) rfl ?_
  refine g_aload_n (i := 0) (by decide +kernel) rfl ?_
  refine x_getr (hs.k k_0) F_Top_72 (by decide +kernel) rfl (hs.r r_0_10) ?_
  refine x_callVI (as := []) Vi_Weeks_bestChange Vs_Weeks_bestChange (hs.k k_91) rfl hf (fun q hq => t_Weeks_bestChange hs  hq) Y_Weeks_bestChange L_Top_285 (by decide +kernel) rfl rfl (Nat.le_of_ble_eq_true rfl) (by decide) (fun q1 hf hs => ?_)
  exact x_iret hf hs (by decide +kernel) rfl
def f_Weeks_allCome_L2 (p1 : Int32) : Nat → Int32 → am_H → Option (Bool)
  | 0, _, _ => none
  | n + 1, v2, h =>
    (if (h.2.1 91 11) ≤ v2 then
      some true
    else
      (f_Weeks_openComes v2 p1 h).bind fun q2 =>
      (if q2 = true then
        f_Weeks_allCome_L2 p1 n (v2 + (1 : Int32)) h
      else
        some false))
set_option maxRecDepth 100000 in
set_option maxHeartbeats 4000000 in
theorem t_Weeks_allCome_L2 {p1 : Int32}  : ∀ (n : Nat) (v2 : Int32) (h : am_H) (r : Bool), am_Sh h → f_Weeks_allCome_L2 p1 n v2 h = some r → am_G 4 M_Weeks_allCome 0 0 (am_pB h r) 2 [(0, .ref 91), (1, .int p1), (2, .int v2)] [] h 0 0 := by
  intro n
  induction n with
  | zero =>
    intro v2 h r hs hf
    rw [f_Weeks_allCome_L2] at hf
    cases hf
  | succ n ih =>
    intro v2 h r hs hf
    rw [f_Weeks_allCome_L2] at hf
    refine g_iload_n (i := 2) (by decide +kernel) rfl ?_
    refine g_aload_n (i := 0) (by decide +kernel) rfl ?_
    refine x_geti (hs.k k_91) F_Weeks_38 (by decide +kernel) rfl ?_
    refine x_icmp_ge (off := 20) (tgt := 27) hf (by decide +kernel) (by decide) (fun c1 hf => ?_) (fun c1 hf => ?_)
    · refine g_iconst (z := 1) (v := 1) (by decide +kernel) rfl ?_
      exact x_zretp rfl hf (by decide +kernel) rfl
    · refine g_aload_n (i := 0) (by decide +kernel) rfl ?_
      refine g_iload_n (i := 2) (by decide +kernel) rfl ?_
      refine g_iload_n (i := 1) (by decide +kernel) rfl ?_
      refine x_callVBp (as := [.int v2, .int p1]) Vi_Weeks_openComes Vs_Weeks_openComes (hs.k k_91) rfl hf (fun q hq => t_Weeks_openComes hs  hq) Y_Weeks_openComes L_Weeks_190 (by decide +kernel) rfl rfl (Nat.le_of_ble_eq_true rfl) (by decide) (fun q2 hf => ?_)
      refine x_ifb_ne (off := 5) (tgt := 21) hf (by decide +kernel) (by decide) (fun c3 hf => ?_) (fun c3 hf => ?_)
      · refine g_iinc (i := 2) (z := 1) (v := (v2 + (1 : Int32))) (by decide +kernel) rfl rfl rfl (by decide) (ls1 := [(0, .ref 91), (1, .int p1), (2, .int (v2 + (1 : Int32)))]) rfl ?_
        refine g_goto (off := (-22)) (tgt := 2) (by decide +kernel) (by decide) ?_
        exact am_G.forget (am_subp [0, 1, 2] rfl) (ih _ _ _ hs hf)
      · refine g_iconst (z := 0) (v := 0) (by decide +kernel) rfl ?_
        exact x_zretp rfl hf (by decide +kernel) rfl
def f_Weeks_allCome (p1 : Int32) (h : am_H) : Option (Bool) :=
  f_Weeks_allCome_L2 p1 am_fu (0 : Int32) h
set_option maxRecDepth 100000 in
set_option maxHeartbeats 4000000 in
theorem t_Weeks_allCome {p1 : Int32} {h : am_H} (hs : am_Sh h)  {r : Bool} (hf : f_Weeks_allCome p1 h = some r) : am_Ct 4 M_Weeks_allCome [.ref 91, .int p1] h 0 0 (am_pB h r) := by
  unfold f_Weeks_allCome at hf
  refine am_Ct.of (by decide) rfl (Nat.le_of_ble_eq_true rfl) (ls := [(0, .ref 91), (1, .int p1)]) rfl ?_
  refine g_iconst (z := 0) (v := 0) (by decide +kernel) rfl ?_
  refine g_istore_n (i := 2) (by decide +kernel) rfl (by decide) (ls1 := [(0, .ref 91), (1, .int p1), (2, .int (0 : Int32))]) rfl ?_
  exact am_G.forget (am_subp [0, 1, 2] rfl) (t_Weeks_allCome_L2  am_fu _ _ _ hs hf)
def f_Weeks_weeksOf_L4 (p1 : Int32) : Nat → Int32 → Int32 → am_H → Option (Int32 × Int32)
  | 0, _, _, _ => none
  | n + 1, v2, v3, h =>
    (if p1 ≤ v3 then
      some (v2, v3)
    else
      f_Weeks_weeksOf_L4 p1 n (v2 * ((h.2.1 1 0) + (1 : Int32))) (v3 + (1 : Int32)) h)
set_option maxRecDepth 100000 in
set_option maxHeartbeats 4000000 in
theorem t_Weeks_weeksOf_L4 {p1 : Int32}  {Q : Option Value → am_H → Prop} : ∀ (n : Nat) (v2 : Int32) (v3 : Int32) (h : am_H) (q : Int32 × Int32), am_Sh h → f_Weeks_weeksOf_L4 p1 n v2 v3 h = some q → (am_G 0 M_Weeks_weeksOf 0 0 Q 27 [(0, .ref 91), (1, .int p1), (2, .int q.1), (3, .int q.2)] [] h 0 0) → am_G 0 M_Weeks_weeksOf 0 0 Q 4 [(0, .ref 91), (1, .int p1), (2, .int v2), (3, .int v3)] [] h 0 0 := by
  intro n
  induction n with
  | zero =>
    intro v2 v3 h q hs hf kont
    rw [f_Weeks_weeksOf_L4] at hf
    cases hf
  | succ n ih =>
    intro v2 v3 h q hs hf kont
    rw [f_Weeks_weeksOf_L4] at hf
    refine g_iload_n (i := 3) (by decide +kernel) rfl ?_
    refine g_iload_n (i := 1) (by decide +kernel) rfl ?_
    refine x_icmp_ge (off := 21) (tgt := 27) hf (by decide +kernel) (by decide) (fun c1 hf => ?_) (fun c1 hf => ?_)
    · cases hf
      exact am_G.forget (am_subp [0, 1, 2, 3] rfl) kont
    · refine g_iload_n (i := 2) (by decide +kernel) rfl ?_
      refine g_aload_n (i := 0) (by decide +kernel) rfl ?_
      refine x_getr (hs.k k_91) F_Weeks_50 (by decide +kernel) rfl (hs.r r_91_0) ?_
      refine x_geti (hs.k k_1) F_Weeks_130 (by decide +kernel) rfl ?_
      refine g_iconst (z := 1) (v := 1) (by decide +kernel) rfl ?_
      refine g_iadd (by decide +kernel) ?_
      refine g_imul (by decide +kernel) ?_
      refine g_istore_n (i := 2) (by decide +kernel) rfl (by decide) (ls1 := [(0, .ref 91), (1, .int p1), (2, .int (v2 * ((h.2.1 1 0) + (1 : Int32)))), (3, .int v3)]) rfl ?_
      refine g_iinc (i := 3) (z := 1) (v := (v3 + (1 : Int32))) (by decide +kernel) rfl rfl rfl (by decide) (ls1 := [(0, .ref 91), (1, .int p1), (2, .int (v2 * ((h.2.1 1 0) + (1 : Int32)))), (3, .int (v3 + (1 : Int32)))]) rfl ?_
      refine g_goto (off := (-20)) (tgt := 4) (by decide +kernel) (by decide) ?_
      exact am_G.forget (am_subp [0, 1, 2, 3] rfl) (ih _ _ _ _ hs hf kont)
def f_Weeks_weeksOf (p1 : Int32) (h : am_H) : Option (Int32) :=
  (f_Weeks_weeksOf_L4 p1 am_fu (1 : Int32) (0 : Int32) h).bind fun q2 =>
  some q2.1
set_option maxRecDepth 100000 in
set_option maxHeartbeats 4000000 in
theorem t_Weeks_weeksOf {p1 : Int32} {h : am_H} (hs : am_Sh h)  {r : Int32} (hf : f_Weeks_weeksOf p1 h = some r) : am_Ct 0 M_Weeks_weeksOf [.ref 91, .int p1] h 0 0 (am_pI h r) := by
  unfold f_Weeks_weeksOf at hf
  refine am_Ct.of (by decide) rfl (Nat.le_of_ble_eq_true rfl) (ls := [(0, .ref 91), (1, .int p1)]) rfl ?_
  refine g_iconst (z := 1) (v := 1) (by decide +kernel) rfl ?_
  refine g_istore_n (i := 2) (by decide +kernel) rfl (by decide) (ls1 := [(0, .ref 91), (1, .int p1), (2, .int (1 : Int32))]) rfl ?_
  refine g_iconst (z := 0) (v := 0) (by decide +kernel) rfl ?_
  refine g_istore_n (i := 3) (by decide +kernel) rfl (by decide) (ls1 := [(0, .ref 91), (1, .int p1), (2, .int (1 : Int32)), (3, .int (0 : Int32))]) rfl ?_
  obtain ⟨q2, hqq2, hf⟩ := Option.bind_eq_some_iff.mp hf
  refine t_Weeks_weeksOf_L4  am_fu _ _ _ q2 hs hqq2 ?_
  refine g_iload_n (i := 2) (by decide +kernel) rfl ?_
  exact x_iretp hf (by decide +kernel) rfl
def am_M_Tg (t : Nat) : am_M := match t with
  | _ => M_Weeks_tryGood
def f_Weeks_tryGood_L71 (rec : Nat → Int32 → am_H → Option (am_H)) (p1 : Int32) : Nat → Int32 → Int32 → am_H → Option (Int32 × am_H)
  | 0, _, _, _ => none
  | n + 1, v2, v3, h =>
    (if (h.2.1 1 0) < v3 then
      some (v3, h)
    else
      (f_Weeks_choice v3 h).bind fun q8 =>
      (am_wr h 92 6 v2 q8).bind fun h9 =>
      (f_Weeks_stepOpen p1 v2 h9).bind fun q10 =>
      (rec 0 (p1 + (1 : Int32)) q10).bind fun q11 =>
      f_Weeks_tryGood_L71 rec p1 n v2 (v3 + (1 : Int32)) q11)
set_option maxRecDepth 100000 in
set_option maxHeartbeats 4000000 in
theorem t_Weeks_tryGood_L71 {rec : Nat → Int32 → am_H → Option (am_H)} {e : Nat} (hrec : ∀ (t : Nat) (a0 : Int32) (h : am_H), am_Sh h → ∀ q, rec t a0 h = some q → am_Ct e (am_M_Tg t) [.ref 91, .int a0] h 0 0 (am_qV q)) (he : 5 ≤ e) {p1 : Int32}  {Q : Option Value → am_H → Prop} : ∀ (n : Nat) (v2 : Int32) (v3 : Int32) (h : am_H) (q : Int32 × am_H), am_Sh h → f_Weeks_tryGood_L71 rec p1 n v2 v3 h = some q → (am_Sh q.2 → am_G (e + 1) M_Weeks_tryGood 0 0 Q 112 [(0, .ref 91), (1, .int p1), (2, .int v2), (3, .int q.1)] [] q.2 0 0) → am_G (e + 1) M_Weeks_tryGood 0 0 Q 71 [(0, .ref 91), (1, .int p1), (2, .int v2), (3, .int v3)] [] h 0 0 := by
  intro n
  induction n with
  | zero =>
    intro v2 v3 h q hs hf kont
    rw [f_Weeks_tryGood_L71] at hf
    cases hf
  | succ n ih =>
    intro v2 v3 h q hs hf kont
    rw [f_Weeks_tryGood_L71] at hf
    refine g_iload_n (i := 3) (by decide +kernel) rfl ?_
    refine g_aload_n (i := 0) (by decide +kernel) rfl ?_
    refine x_getr (hs.k k_91) F_Weeks_50 (by decide +kernel) rfl (hs.r r_91_0) ?_
    refine x_geti (hs.k k_1) F_Weeks_130 (by decide +kernel) rfl ?_
    refine x_icmp_gt (off := 33) (tgt := 112) hf (by decide +kernel) (by decide) (fun c7 hf => ?_) (fun c7 hf => ?_)
    · cases hf
      exact am_G.forget (am_subp [0, 1, 2, 3] rfl) (kont hs)
    · refine g_aload_n (i := 0) (by decide +kernel) rfl ?_
      refine x_getr (hs.k k_91) F_Weeks_9 (by decide +kernel) rfl (hs.r r_91_3) ?_
      refine g_iload_n (i := 2) (by decide +kernel) rfl ?_
      refine g_aload_n (i := 0) (by decide +kernel) rfl ?_
      refine g_iload_n (i := 3) (by decide +kernel) rfl ?_
      refine x_callVIp (as := [.int v3]) Vi_Weeks_choice Vs_Weeks_choice (hs.k k_91) rfl hf (fun q hq => t_Weeks_choice hs  hq) Y_Weeks_choice L_Weeks_142 (by decide +kernel) rfl rfl (Nat.le_of_ble_eq_true rfl) (by omega) (fun q8 hf => ?_)
      refine x_iast hf hs (hs.k k_92) (by decide +kernel) (fun h9 hf hs => ?_)
      refine g_aload_n (i := 0) (by decide +kernel) rfl ?_
      refine g_iload_n (i := 1) (by decide +kernel) rfl ?_
      refine g_iload_n (i := 2) (by decide +kernel) rfl ?_
      refine x_callVV (as := [.int p1, .int v2]) Vi_Weeks_stepOpen Vs_Weeks_stepOpen (hs.k k_91) rfl hf (fun q hq => t_Weeks_stepOpen hs  hq) Y_Weeks_stepOpen L_Weeks_180 (by decide +kernel) rfl rfl (Nat.le_of_ble_eq_true rfl) (by omega) (fun q10 hf hs => ?_)
      refine g_aload_n (i := 0) (by decide +kernel) rfl ?_
      refine g_iload_n (i := 1) (by decide +kernel) rfl ?_
      refine g_iconst (z := 1) (v := 1) (by decide +kernel) rfl ?_
      refine g_iadd (by decide +kernel) ?_
      refine x_callVV (as := [.int (p1 + (1 : Int32))]) Vi_Weeks_tryGood Vs_Weeks_tryGood (hs.k k_91) rfl hf (fun q hq => hrec 0 _ _ hs q hq) Y_Weeks_tryGood L_Weeks_164 (by decide +kernel) rfl rfl (Nat.le_of_ble_eq_true rfl) (by omega) (fun q11 hf hs => ?_)
      refine g_iinc (i := 3) (z := 1) (v := (v3 + (1 : Int32))) (by decide +kernel) rfl rfl rfl (by decide) (ls1 := [(0, .ref 91), (1, .int p1), (2, .int v2), (3, .int (v3 + (1 : Int32)))]) rfl ?_
      refine g_goto (off := (-38)) (tgt := 71) (by decide +kernel) (by decide) ?_
      exact am_G.forget (am_subp [0, 1, 2, 3] rfl) (ih _ _ _ _ hs hf kont)
def b_Weeks_tryGood (rec : Nat → Int32 → am_H → Option (am_H)) (p1 : Int32) (h : am_H) : Option (am_H) :=
  (f_Weeks_lost p1 h).bind fun q1 =>
  (if q1 ≤ 0 then
    (f_Weeks_allCome p1 h).bind fun q3 =>
    (if q3 = true then
      (f_Weeks_weeksOf ((h.2.1 1 1) - p1) h).bind fun q13 =>
      am_let (am_sI h 91 7 ((h.2.1 91 7) + q13)) fun h14 =>
      some h14
    else
      (if p1 < (h.2.1 1 1) then
        (f_River_hourOfWeek 1 ((h.2.1 10 0) + p1) h).bind fun q6 =>
        (f_Weeks_tryGood_L71 rec p1 am_fu q6 (0 : Int32) h).bind fun q12 =>
        some q12.2
      else
        some h))
  else
    some h)
set_option maxRecDepth 100000 in
set_option maxHeartbeats 4000000 in
theorem tb_Weeks_tryGood {rec : Nat → Int32 → am_H → Option (am_H)} {e : Nat} (hrec : ∀ (t : Nat) (a0 : Int32) (h : am_H), am_Sh h → ∀ q, rec t a0 h = some q → am_Ct e (am_M_Tg t) [.ref 91, .int a0] h 0 0 (am_qV q)) (he : 5 ≤ e) {p1 : Int32} {h : am_H} (hs : am_Sh h)  {r : am_H} (hf : b_Weeks_tryGood rec p1 h = some r) : am_Ct (e + 1) M_Weeks_tryGood [.ref 91, .int p1] h 0 0 (am_qV r) := by
  unfold b_Weeks_tryGood at hf
  refine am_Ct.of (by decide) rfl (Nat.le_of_ble_eq_true rfl) (ls := [(0, .ref 91), (1, .int p1)]) rfl ?_
  refine g_aload_n (i := 0) (by decide +kernel) rfl ?_
  refine g_iload_n (i := 1) (by decide +kernel) rfl ?_
  refine x_callVIp (as := [.int p1]) Vi_Weeks_lost Vs_Weeks_lost (hs.k k_91) rfl hf (fun q hq => t_Weeks_lost hs  hq) Y_Weeks_lost L_Weeks_177 (by decide +kernel) rfl rfl (Nat.le_of_ble_eq_true rfl) (by omega) (fun q1 hf => ?_)
  refine x_if_le (off := 4) (tgt := 9) hf (by decide +kernel) (by decide) (fun c2 hf => ?_) (fun c2 hf => ?_)
  · refine g_aload_n (i := 0) (by decide +kernel) rfl ?_
    refine g_iload_n (i := 1) (by decide +kernel) rfl ?_
    refine x_callVBp (as := [.int p1]) Vi_Weeks_allCome Vs_Weeks_allCome (hs.k k_91) rfl hf (fun q hq => t_Weeks_allCome hs  hq) Y_Weeks_allCome L_Weeks_184 (by decide +kernel) rfl rfl (Nat.le_of_ble_eq_true rfl) (by omega) (fun q3 hf => ?_)
    refine x_ifb_eq (off := 26) (tgt := 40) hf (by decide +kernel) (by decide) (fun c4 hf => ?_) (fun c4 hf => ?_)
    · refine g_iload_n (i := 1) (by decide +kernel) rfl ?_
      refine g_aload_n (i := 0) (by decide +kernel) rfl ?_
      refine x_getr (hs.k k_91) F_Weeks_50 (by decide +kernel) rfl (hs.r r_91_0) ?_
      refine x_geti (hs.k k_1) F_Weeks_121 (by decide +kernel) rfl ?_
      refine x_icmp_lt (off := 4) (tgt := 52) hf (by decide +kernel) (by decide) (fun c5 hf => ?_) (fun c5 hf => ?_)
      · refine g_aload_n (i := 0) (by decide +kernel) rfl ?_
        refine x_getr (hs.k k_91) F_Weeks_50 (by decide +kernel) rfl (hs.r r_91_0) ?_
        refine g_aload_n (i := 0) (by decide +kernel) rfl ?_
        refine x_getr (hs.k k_91) F_Weeks_54 (by decide +kernel) rfl (hs.r r_91_1) ?_
        refine x_geti (hs.k k_10) F_Weeks_79 (by decide +kernel) rfl ?_
        refine g_iload_n (i := 1) (by decide +kernel) rfl ?_
        refine g_iadd (by decide +kernel) ?_
        refine x_callVIp (as := [.int ((h.2.1 10 0) + p1)]) Vi_River_hourOfWeek Vs_River_hourOfWeek (hs.k k_1) rfl hf (fun q hq => t_River_hourOfWeek hs (by decide) hq) Y_River_hourOfWeek L_Weeks_145 (by decide +kernel) rfl rfl (Nat.le_of_ble_eq_true rfl) (by omega) (fun q6 hf => ?_)
        refine g_istore_n (i := 2) (by decide +kernel) rfl (by decide) (ls1 := [(0, .ref 91), (1, .int p1), (2, .int q6)]) rfl ?_
        refine g_iconst (z := 0) (v := 0) (by decide +kernel) rfl ?_
        refine g_istore_n (i := 3) (by decide +kernel) rfl (by decide) (ls1 := [(0, .ref 91), (1, .int p1), (2, .int q6), (3, .int (0 : Int32))]) rfl ?_
        obtain ⟨q12, hqq12, hf⟩ := Option.bind_eq_some_iff.mp hf
        refine t_Weeks_tryGood_L71 hrec he  am_fu _ _ _ q12 hs hqq12 (fun hs => ?_)
        exact x_vret hf hs (by decide +kernel) rfl
      · exact x_vret hf hs (by decide +kernel) rfl
    · refine g_aload_n (i := 0) (by decide +kernel) rfl ?_
      refine g_dup (by decide +kernel) rfl ?_
      refine x_geti (hs.k k_91) F_Weeks_25 (by decide +kernel) rfl ?_
      refine g_aload_n (i := 0) (by decide +kernel) rfl ?_
      refine g_aload_n (i := 0) (by decide +kernel) rfl ?_
      refine x_getr (hs.k k_91) F_Weeks_50 (by decide +kernel) rfl (hs.r r_91_0) ?_
      refine x_geti (hs.k k_1) F_Weeks_121 (by decide +kernel) rfl ?_
      refine g_iload_n (i := 1) (by decide +kernel) rfl ?_
      refine g_isub (by decide +kernel) ?_
      refine x_callVIp (as := [.int ((h.2.1 1 1) - p1)]) Vi_Weeks_weeksOf Vs_Weeks_weeksOf (hs.k k_91) rfl hf (fun q hq => t_Weeks_weeksOf hs  hq) Y_Weeks_weeksOf L_Weeks_187 (by decide +kernel) rfl rfl (Nat.le_of_ble_eq_true rfl) (by omega) (fun q13 hf => ?_)
      refine g_iadd (by decide +kernel) ?_
      refine x_puti hf hs (hs.k k_91) F_Weeks_25 (by decide +kernel) rfl rfl rfl rfl (fun h14 hf hs => ?_)
      exact x_vret hf hs (by decide +kernel) rfl
  · exact x_vret hf hs (by decide +kernel) rfl
def f_Tg : Nat → Nat → Int32 → am_H → Option (am_H)
  | 0, _, _, _ => none
  | n + 1, t, a0, h => match t with
    | _ => b_Weeks_tryGood (f_Tg n) a0 h
theorem t_Tg : ∀ (n t : Nat) (a0 : Int32) (h : am_H), am_Sh h → ∀ q, f_Tg n t a0 h = some q → am_Ct (5 + n) (am_M_Tg t) [.ref 91, .int a0] h 0 0 (am_qV q)
  | 0, t, a0, h, hs, q, hq => by
    rw [f_Tg] at hq
    cases hq
  | n + 1, t, a0, h, hs, q, hq => by
    have hrec := t_Tg n
    match t, hq with
    | _ + 0, hq => exact tb_Weeks_tryGood hrec (by omega) hs hq
def f_Weeks_tryGood (a0 : Int32) (h : am_H) : Option (am_H) := f_Tg 60 0 a0 h
theorem t_Weeks_tryGood {a0 : Int32} {h : am_H} (hs : am_Sh h) {r : am_H} (hf : f_Weeks_tryGood a0 h = some r) : am_Ct 65 M_Weeks_tryGood [.ref 91, .int a0] h 0 0 (am_qV r) := t_Tg 60 0 a0 h hs r hf
def f_Weeks_countGood  (h : am_H) : Option (Int32 × am_H) :=
  (if (h.2.1 91 9) = 0 then
    (f_Weeks_sortPeople  h).bind fun q2 =>
    am_let (am_sI q2 91 7 (0 : Int32)) fun h3 =>
    ((if (h3.2.1 91 13) = 0 then
        (f_Weeks_tryGood (0 : Int32) h3).bind fun q5 =>
        some q5
      else
        some h3) : Option (am_H)).bind fun m6 =>
    am_let (am_sI m6 91 9 (1 : Int32)) fun h7 =>
    some ((h7.2.1 91 7), h7)
  else
    some ((h.2.1 91 7), h))
set_option maxRecDepth 100000 in
set_option maxHeartbeats 4000000 in
theorem t_Weeks_countGood  {h : am_H} (hs : am_Sh h)  {r : Int32 × am_H} (hf : f_Weeks_countGood  h = some r) : am_Ct 66 M_Weeks_countGood [.ref 91] h 0 0 (am_qI r) := by
  unfold f_Weeks_countGood at hf
  refine am_Ct.of (by decide) rfl (Nat.le_of_ble_eq_true rfl) (ls := [(0, .ref 91)]) rfl ?_
  refine g_aload_n (i := 0) (by decide +kernel) rfl ?_
  refine x_geti (hs.k k_91) F_Weeks_32 (by decide +kernel) rfl ?_
  refine x_if_ne (off := 29) (tgt := 33) hf (by decide +kernel) (by decide) (fun c1 hf => ?_) (fun c1 hf => ?_)
  · refine g_aload_n (i := 0) (by decide +kernel) rfl ?_
    refine x_geti (hs.k k_91) F_Weeks_25 (by decide +kernel) rfl ?_
    exact x_iret hf hs (by decide +kernel) rfl
  · refine g_aload_n (i := 0) (by decide +kernel) rfl ?_
    refine x_callVV (as := []) Vi_Weeks_sortPeople Vs_Weeks_sortPeople (hs.k k_91) rfl hf (fun q hq => t_Weeks_sortPeople hs  hq) Y_Weeks_sortPeople L_Weeks_148 (by decide +kernel) rfl rfl (Nat.le_of_ble_eq_true rfl) (by decide) (fun q2 hf hs => ?_)
    refine g_aload_n (i := 0) (by decide +kernel) rfl ?_
    refine g_iconst (z := 0) (v := 0) (by decide +kernel) rfl ?_
    refine x_puti hf hs (hs.k k_91) F_Weeks_25 (by decide +kernel) rfl rfl rfl rfl (fun h3 hf hs => ?_)
    refine g_aload_n (i := 0) (by decide +kernel) rfl ?_
    refine x_geti (hs.k k_91) F_Weeks_44 (by decide +kernel) rfl ?_
    obtain ⟨m6, hm28, hf⟩ := Option.bind_eq_some_iff.mp hf
    refine am_cutS (J := 28) (ls' := [(0, .ref 91)]) (st' := []) (h' := m6) (fun hs => ?_) (fun K28 => ?_)
    · refine g_aload_n (i := 0) (by decide +kernel) rfl ?_
      refine g_iconst (z := 1) (v := 1) (by decide +kernel) rfl ?_
      refine x_puti hf hs (hs.k k_91) F_Weeks_32 (by decide +kernel) rfl rfl rfl rfl (fun h7 hf hs => ?_)
      refine g_aload_n (i := 0) (by decide +kernel) rfl ?_
      refine x_geti (hs.k k_91) F_Weeks_25 (by decide +kernel) rfl ?_
      exact x_iret hf hs (by decide +kernel) rfl
    refine x_if_ne (off := 8) (tgt := 28) hm28 (by decide +kernel) (by decide) (fun c4 hm28 => ?_) (fun c4 hm28 => ?_)
    · cases hm28
      exact am_G.forget (am_subp [0] rfl) (K28 hs)
    · refine g_aload_n (i := 0) (by decide +kernel) rfl ?_
      refine g_iconst (z := 0) (v := 0) (by decide +kernel) rfl ?_
      refine x_callVV (as := [.int (0 : Int32)]) Vi_Weeks_tryGood Vs_Weeks_tryGood (hs.k k_91) rfl hm28 (fun q hq => t_Weeks_tryGood hs  hq) Y_Weeks_tryGood L_Weeks_164 (by decide +kernel) rfl rfl (Nat.le_of_ble_eq_true rfl) (by decide) (fun q5 hm28 hs => ?_)
      cases hm28
      exact am_G.forget (am_subp [0] rfl) (K28 hs)
def f_Top_weeks  (h : am_H) : Option (Int32 × am_H) :=
  (f_Weeks_countGood  h).bind fun q1 =>
  some (q1.1, q1.2)
set_option maxRecDepth 100000 in
set_option maxHeartbeats 4000000 in
theorem t_Top_weeks  {h : am_H} (hs : am_Sh h)  {r : Int32 × am_H} (hf : f_Top_weeks  h = some r) : am_Ct 67 M_Top_weeks [.ref 0] h 0 0 (am_qI r) := by
  unfold f_Top_weeks at hf
  refine am_Ct.of (by decide) rfl (Nat.le_of_ble_eq_true rfl) (ls := [(0, .ref 0)]) rfl ?_
  refine g_aload_n (i := 0) (by decide +kernel) rfl ?_
  refine x_getr (hs.k k_0) F_Top_72 (by decide +kernel) rfl (hs.r r_0_10) ?_
  refine x_callVI (as := []) Vi_Weeks_countGood Vs_Weeks_countGood (hs.k k_91) rfl hf (fun q hq => t_Weeks_countGood hs  hq) Y_Weeks_countGood L_Top_289 (by decide +kernel) rfl rfl (Nat.le_of_ble_eq_true rfl) (by decide) (fun q1 hf hs => ?_)
  exact x_iret hf hs (by decide +kernel) rfl
def f_Weeks_bestShift_L20  : Nat → Int32 → Int32 → Int32 → Int32 → am_H → Option (Int32 × am_H)
  | 0, _, _, _, _, _ => none
  | n + 1, v1, v2, v3, v4, h =>
    (if (h.2.1 1 1) ≤ v4 then
      some (v4, h)
    else
      (f_River_hourOfWeek 1 ((v4 - v3) + (h.2.1 1 1)) h).bind fun q3 =>
      (am_rd (h.2.1 11) 6 q3).bind fun x4 =>
      (am_wr h 92 6 v4 x4).bind fun h5 =>
      f_Weeks_bestShift_L20  n v1 v2 v3 (v4 + (1 : Int32)) h5)
set_option maxRecDepth 100000 in
set_option maxHeartbeats 4000000 in
theorem t_Weeks_bestShift_L20   {Q : Option Value → am_H → Prop} : ∀ (n : Nat) (v1 : Int32) (v2 : Int32) (v3 : Int32) (v4 : Int32) (h : am_H) (q : Int32 × am_H), am_Sh h → f_Weeks_bestShift_L20  n v1 v2 v3 v4 h = some q → (am_Sh q.2 → am_G 5 M_Weeks_bestShift 0 0 Q 72 [(0, .ref 91), (1, .int v1), (2, .int v2), (3, .int v3), (4, .int q.1)] [] q.2 0 0) → am_G 5 M_Weeks_bestShift 0 0 Q 20 [(0, .ref 91), (1, .int v1), (2, .int v2), (3, .int v3), (4, .int v4)] [] h 0 0 := by
  intro n
  induction n with
  | zero =>
    intro v1 v2 v3 v4 h q hs hf kont
    rw [f_Weeks_bestShift_L20] at hf
    cases hf
  | succ n ih =>
    intro v1 v2 v3 v4 h q hs hf kont
    rw [f_Weeks_bestShift_L20] at hf
    refine g_iload (i := 4) (by decide +kernel) rfl ?_
    refine g_aload_n (i := 0) (by decide +kernel) rfl ?_
    refine x_getr (hs.k k_91) F_Weeks_50 (by decide +kernel) rfl (hs.r r_91_0) ?_
    refine x_geti (hs.k k_1) F_Weeks_121 (by decide +kernel) rfl ?_
    refine x_icmp_ge (off := 43) (tgt := 72) hf (by decide +kernel) (by decide) (fun c2 hf => ?_) (fun c2 hf => ?_)
    · cases hf
      exact am_G.forget (am_subp [0, 1, 2, 3, 4] rfl) (kont hs)
    · refine g_aload_n (i := 0) (by decide +kernel) rfl ?_
      refine x_getr (hs.k k_91) F_Weeks_9 (by decide +kernel) rfl (hs.r r_91_3) ?_
      refine g_iload (i := 4) (by decide +kernel) rfl ?_
      refine g_aload_n (i := 0) (by decide +kernel) rfl ?_
      refine x_getr (hs.k k_91) F_Weeks_54 (by decide +kernel) rfl (hs.r r_91_1) ?_
      refine x_getr (hs.k k_10) F_Weeks_115 (by decide +kernel) rfl (hs.r r_10_3) ?_
      refine g_aload_n (i := 0) (by decide +kernel) rfl ?_
      refine x_getr (hs.k k_91) F_Weeks_50 (by decide +kernel) rfl (hs.r r_91_0) ?_
      refine g_iload (i := 4) (by decide +kernel) rfl ?_
      refine g_iload_n (i := 3) (by decide +kernel) rfl ?_
      refine g_isub (by decide +kernel) ?_
      refine g_aload_n (i := 0) (by decide +kernel) rfl ?_
      refine x_getr (hs.k k_91) F_Weeks_50 (by decide +kernel) rfl (hs.r r_91_0) ?_
      refine x_geti (hs.k k_1) F_Weeks_121 (by decide +kernel) rfl ?_
      refine g_iadd (by decide +kernel) ?_
      refine x_callVIp (as := [.int ((v4 - v3) + (h.2.1 1 1))]) Vi_River_hourOfWeek Vs_River_hourOfWeek (hs.k k_1) rfl hf (fun q hq => t_River_hourOfWeek hs (by decide) hq) Y_River_hourOfWeek L_Weeks_145 (by decide +kernel) rfl rfl (Nat.le_of_ble_eq_true rfl) (by decide) (fun q3 hf => ?_)
      refine x_iald hf (hs.k k_11) (by decide +kernel) (fun x4 hf => ?_)
      refine x_iast hf hs (hs.k k_92) (by decide +kernel) (fun h5 hf hs => ?_)
      refine g_iinc (i := 4) (z := 1) (v := (v4 + (1 : Int32))) (by decide +kernel) rfl rfl rfl (by decide) (ls1 := [(0, .ref 91), (1, .int v1), (2, .int v2), (3, .int v3), (4, .int (v4 + (1 : Int32)))]) rfl ?_
      refine g_goto (off := (-49)) (tgt := 20) (by decide +kernel) (by decide) ?_
      exact am_G.forget (am_subp [0, 1, 2, 3, 4] rfl) (ih _ _ _ _ _ _ hs hf kont)
def f_Weeks_bestShift_L6  : Nat → Int32 → Int32 → Int32 → am_H → Option (Int32 × Int32 × Int32 × am_H)
  | 0, _, _, _, _ => none
  | n + 1, v1, v2, v3, h =>
    (if (h.2.1 1 1) ≤ v3 then
      some (v1, v2, v3, h)
    else
      (f_Weeks_bestShift_L20  am_fu v1 v2 v3 (0 : Int32) h).bind fun q6 =>
      (f_Weeks_doneInTime 92 6 q6.2).bind fun q7 =>
      (f_Integer_bitCount q7 q6.2).bind fun q8 =>
      (if q8 ≤ v1 then
        f_Weeks_bestShift_L6  n v1 v2 (v3 + (1 : Int32)) q6.2
      else
        f_Weeks_bestShift_L6  n q8 v3 (v3 + (1 : Int32)) q6.2))
set_option maxRecDepth 100000 in
set_option maxHeartbeats 4000000 in
theorem t_Weeks_bestShift_L6   {Q : Option Value → am_H → Prop} : ∀ (n : Nat) (v1 : Int32) (v2 : Int32) (v3 : Int32) (h : am_H) (q : Int32 × Int32 × Int32 × am_H), am_Sh h → f_Weeks_bestShift_L6  n v1 v2 v3 h = some q → (am_Sh q.2.2.2 → am_G 5 M_Weeks_bestShift 0 0 Q 102 [(0, .ref 91), (1, .int q.1), (2, .int q.2.1), (3, .int q.2.2.1)] [] q.2.2.2 0 0) → am_G 5 M_Weeks_bestShift 0 0 Q 6 [(0, .ref 91), (1, .int v1), (2, .int v2), (3, .int v3)] [] h 0 0 := by
  intro n
  induction n with
  | zero =>
    intro v1 v2 v3 h q hs hf kont
    rw [f_Weeks_bestShift_L6] at hf
    cases hf
  | succ n ih =>
    intro v1 v2 v3 h q hs hf kont
    rw [f_Weeks_bestShift_L6] at hf
    refine g_iload_n (i := 3) (by decide +kernel) rfl ?_
    refine g_aload_n (i := 0) (by decide +kernel) rfl ?_
    refine x_getr (hs.k k_91) F_Weeks_50 (by decide +kernel) rfl (hs.r r_91_0) ?_
    refine x_geti (hs.k k_1) F_Weeks_121 (by decide +kernel) rfl ?_
    refine x_icmp_ge (off := 88) (tgt := 102) hf (by decide +kernel) (by decide) (fun c1 hf => ?_) (fun c1 hf => ?_)
    · cases hf
      exact am_G.forget (am_subp [0, 1, 2, 3] rfl) (kont hs)
    · refine g_iconst (z := 0) (v := 0) (by decide +kernel) rfl ?_
      refine g_istore (i := 4) (by decide +kernel) rfl (by decide) (ls1 := [(0, .ref 91), (1, .int v1), (2, .int v2), (3, .int v3), (4, .int (0 : Int32))]) rfl ?_
      obtain ⟨q6, hqq6, hf⟩ := Option.bind_eq_some_iff.mp hf
      refine t_Weeks_bestShift_L20  am_fu _ _ _ _ _ q6 hs hqq6 (fun hs => ?_)
      refine g_aload_n (i := 0) (by decide +kernel) rfl ?_
      refine g_aload_n (i := 0) (by decide +kernel) rfl ?_
      refine x_getr (hs.k k_91) F_Weeks_9 (by decide +kernel) rfl (hs.r r_91_3) ?_
      refine x_callVIp (as := [.ref 92]) Vi_Weeks_doneInTime Vs_Weeks_doneInTime (hs.k k_91) rfl hf (fun q hq => t_Weeks_doneInTime hs k_92 hq) Y_Weeks_doneInTime L_Weeks_133 (by decide +kernel) rfl rfl (Nat.le_of_ble_eq_true rfl) (by decide) (fun q7 hf => ?_)
      refine x_callSIp (as := [.int q7]) St_Integer_bitCount hf (fun q hq => t_Integer_bitCount hs  hq) Y_Integer_bitCount L_Weeks_137 (by decide +kernel) rfl rfl (Nat.le_of_ble_eq_true rfl) (by decide) (fun q8 hf => ?_)
      refine g_istore (i := 4) (by decide +kernel) rfl (by decide) (ls1 := [(0, .ref 91), (1, .int v1), (2, .int v2), (3, .int v3), (4, .int q8)]) rfl ?_
      refine g_iload (i := 4) (by decide +kernel) rfl ?_
      refine g_iload_n (i := 1) (by decide +kernel) rfl ?_
      refine x_icmp_le (off := 8) (tgt := 96) hf (by decide +kernel) (by decide) (fun c9 hf => ?_) (fun c9 hf => ?_)
      · refine g_iinc (i := 3) (z := 1) (v := (v3 + (1 : Int32))) (by decide +kernel) rfl rfl rfl (by decide) (ls1 := [(0, .ref 91), (1, .int v1), (2, .int v2), (3, .int (v3 + (1 : Int32))), (4, .int q8)]) rfl ?_
        refine g_goto (off := (-93)) (tgt := 6) (by decide +kernel) (by decide) ?_
        exact am_G.forget (am_subp [0, 1, 2, 3] rfl) (ih _ _ _ _ _ hs hf kont)
      · refine g_iload (i := 4) (by decide +kernel) rfl ?_
        refine g_istore_n (i := 1) (by decide +kernel) rfl (by decide) (ls1 := [(0, .ref 91), (1, .int q8), (2, .int v2), (3, .int v3), (4, .int q8)]) rfl ?_
        refine g_iload_n (i := 3) (by decide +kernel) rfl ?_
        refine g_istore_n (i := 2) (by decide +kernel) rfl (by decide) (ls1 := [(0, .ref 91), (1, .int q8), (2, .int v3), (3, .int v3), (4, .int q8)]) rfl ?_
        refine g_iinc (i := 3) (z := 1) (v := (v3 + (1 : Int32))) (by decide +kernel) rfl rfl rfl (by decide) (ls1 := [(0, .ref 91), (1, .int q8), (2, .int v3), (3, .int (v3 + (1 : Int32))), (4, .int q8)]) rfl ?_
        refine g_goto (off := (-93)) (tgt := 6) (by decide +kernel) (by decide) ?_
        exact am_G.forget (am_subp [0, 1, 2, 3] rfl) (ih _ _ _ _ _ hs hf kont)
def f_Weeks_bestShift  (h : am_H) : Option (Int32 × am_H) :=
  (f_Weeks_bestShift_L6  am_fu (-1 : Int32) (0 : Int32) (0 : Int32) h).bind fun q10 =>
  some (q10.2.1, q10.2.2.2)
set_option maxRecDepth 100000 in
set_option maxHeartbeats 4000000 in
theorem t_Weeks_bestShift  {h : am_H} (hs : am_Sh h)  {r : Int32 × am_H} (hf : f_Weeks_bestShift  h = some r) : am_Ct 5 M_Weeks_bestShift [.ref 91] h 0 0 (am_qI r) := by
  unfold f_Weeks_bestShift at hf
  refine am_Ct.of (by decide) rfl (Nat.le_of_ble_eq_true rfl) (ls := [(0, .ref 91)]) rfl ?_
  refine g_iconst (z := (-1)) (v := (-1)) (by decide +kernel) rfl ?_
  refine g_istore_n (i := 1) (by decide +kernel) rfl (by decide) (ls1 := [(0, .ref 91), (1, .int (-1 : Int32))]) rfl ?_
  refine g_iconst (z := 0) (v := 0) (by decide +kernel) rfl ?_
  refine g_istore_n (i := 2) (by decide +kernel) rfl (by decide) (ls1 := [(0, .ref 91), (1, .int (-1 : Int32)), (2, .int (0 : Int32))]) rfl ?_
  refine g_iconst (z := 0) (v := 0) (by decide +kernel) rfl ?_
  refine g_istore_n (i := 3) (by decide +kernel) rfl (by decide) (ls1 := [(0, .ref 91), (1, .int (-1 : Int32)), (2, .int (0 : Int32)), (3, .int (0 : Int32))]) rfl ?_
  obtain ⟨q10, hqq10, hf⟩ := Option.bind_eq_some_iff.mp hf
  refine t_Weeks_bestShift_L6  am_fu _ _ _ _ q10 hs hqq10 (fun hs => ?_)
  refine g_iload_n (i := 2) (by decide +kernel) rfl ?_
  exact x_iret hf hs (by decide +kernel) rfl
