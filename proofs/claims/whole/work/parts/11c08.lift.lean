def f_Weeks_comesByAll_L45 (p1 : Int32) : Nat → Int32 → Int32 → Int32 → Int32 → Int32 → Int32 → am_H → Option (Int32 × Int32)
  | 0, _, _, _, _, _, _, _ => none
  | n + 1, v2, v3, v4, v5, v6, v7, h =>
    (if (h.2.1 1 0) ≤ v7 then
      some (v6, v7)
    else
      (f_River_spread 1 v5 v2 v7 h).bind fun q6 =>
      f_Weeks_comesByAll_L45 p1 n v2 v3 v4 v5 (v6 ||| q6) (v7 + (1 : Int32)) h)
set_option maxRecDepth 100000 in
set_option maxHeartbeats 4000000 in
theorem t_Weeks_comesByAll_L45 {p1 : Int32}  {Q : Option Value → am_H → Prop} : ∀ (n : Nat) (v2 : Int32) (v3 : Int32) (v4 : Int32) (v5 : Int32) (v6 : Int32) (v7 : Int32) (h : am_H) (q : Int32 × Int32), am_Sh h → f_Weeks_comesByAll_L45 p1 n v2 v3 v4 v5 v6 v7 h = some q → (am_G 2 M_Weeks_comesByAll 0 0 Q 80 [(0, .ref 91), (1, .int p1), (2, .int v2), (3, .int v3), (4, .int v4), (5, .int v5), (6, .int q.1), (7, .int q.2)] [] h 0 0) → am_G 2 M_Weeks_comesByAll 0 0 Q 45 [(0, .ref 91), (1, .int p1), (2, .int v2), (3, .int v3), (4, .int v4), (5, .int v5), (6, .int v6), (7, .int v7)] [] h 0 0 := by
  intro n
  induction n with
  | zero =>
    intro v2 v3 v4 v5 v6 v7 h q hs hf kont
    rw [f_Weeks_comesByAll_L45] at hf
    cases hf
  | succ n ih =>
    intro v2 v3 v4 v5 v6 v7 h q hs hf kont
    rw [f_Weeks_comesByAll_L45] at hf
    refine g_iload (i := 7) (by decide +kernel) rfl ?_
    refine g_aload_n (i := 0) (by decide +kernel) rfl ?_
    refine x_getr (hs.k k_91) F_Weeks_50 (by decide +kernel) rfl (hs.r r_91_0) ?_
    refine x_geti (hs.k k_1) F_Weeks_130 (by decide +kernel) rfl ?_
    refine x_icmp_ge (off := 26) (tgt := 80) hf (by decide +kernel) (by decide) (fun c5 hf => ?_) (fun c5 hf => ?_)
    · cases hf
      exact am_G.forget (am_subp [0, 1, 2, 3, 4, 5, 6, 7] rfl) kont
    · refine g_iload (i := 6) (by decide +kernel) rfl ?_
      refine g_aload_n (i := 0) (by decide +kernel) rfl ?_
      refine x_getr (hs.k k_91) F_Weeks_50 (by decide +kernel) rfl (hs.r r_91_0) ?_
      refine g_iload (i := 5) (by decide +kernel) rfl ?_
      refine g_iload_n (i := 2) (by decide +kernel) rfl ?_
      refine g_iload (i := 7) (by decide +kernel) rfl ?_
      refine x_callVIp (as := [.int v5, .int v2, .int v7]) Vi_River_spread Vs_River_spread (hs.k k_1) rfl hf (fun q hq => t_River_spread hs (by decide) hq) Y_River_spread L_Weeks_173 (by decide +kernel) rfl rfl (Nat.le_of_ble_eq_true rfl) (by decide) (Nat.le_refl _) (Nat.le_refl _) (fun q6 hf => ?_)
      refine g_ior (by decide +kernel) ?_
      refine g_istore (i := 6) (by decide +kernel) rfl (by decide) (ls1 := [(0, .ref 91), (1, .int p1), (2, .int v2), (3, .int v3), (4, .int v4), (5, .int v5), (6, .int (v6 ||| q6)), (7, .int v7)]) rfl ?_
      refine g_iinc (i := 7) (z := 1) (v := (v7 + (1 : Int32))) (by decide +kernel) rfl rfl rfl (by decide) (ls1 := [(0, .ref 91), (1, .int p1), (2, .int v2), (3, .int v3), (4, .int v4), (5, .int v5), (6, .int (v6 ||| q6)), (7, .int (v7 + (1 : Int32)))]) rfl ?_
      refine g_goto (off := (-32)) (tgt := 45) (by decide +kernel) (by decide) ?_
      exact am_G.forget (am_subp [0, 1, 2, 3, 4, 5, 6, 7] rfl) (ih _ _ _ _ _ _ _ _ hs hf kont)
def f_Weeks_comesByAll_L21 (p1 : Int32) : Nat → Int32 → Int32 → Int32 → am_H → Option (Int32 × Int32)
  | 0, _, _, _, _ => none
  | n + 1, v2, v3, v4, h =>
    (if v3 ≤ v4 then
      some (v2, v4)
    else
      (f_Ahead_rowIn p1 v4 h).bind fun q4 =>
      (f_Weeks_comesByAll_L45 p1 am_fu v2 v3 v4 q4 v2 (0 : Int32) h).bind fun q7 =>
      f_Weeks_comesByAll_L21 p1 n q7.1 v3 (v4 + (1 : Int32)) h)
set_option maxRecDepth 100000 in
set_option maxHeartbeats 4000000 in
theorem t_Weeks_comesByAll_L21 {p1 : Int32}  {Q : Option Value → am_H → Prop} : ∀ (n : Nat) (v2 : Int32) (v3 : Int32) (v4 : Int32) (h : am_H) (q : Int32 × Int32), am_Sh h → f_Weeks_comesByAll_L21 p1 n v2 v3 v4 h = some q → (am_G 2 M_Weeks_comesByAll 0 0 Q 89 [(0, .ref 91), (1, .int p1), (2, .int q.1), (3, .int v3), (4, .int q.2)] [] h 0 0) → am_G 2 M_Weeks_comesByAll 0 0 Q 21 [(0, .ref 91), (1, .int p1), (2, .int v2), (3, .int v3), (4, .int v4)] [] h 0 0 := by
  intro n
  induction n with
  | zero =>
    intro v2 v3 v4 h q hs hf kont
    rw [f_Weeks_comesByAll_L21] at hf
    cases hf
  | succ n ih =>
    intro v2 v3 v4 h q hs hf kont
    rw [f_Weeks_comesByAll_L21] at hf
    refine g_iload (i := 4) (by decide +kernel) rfl ?_
    refine g_iload_n (i := 3) (by decide +kernel) rfl ?_
    refine x_icmp_ge (off := 65) (tgt := 89) hf (by decide +kernel) (by decide) (fun c3 hf => ?_) (fun c3 hf => ?_)
    · cases hf
      exact am_G.forget (am_subp [0, 1, 2, 3, 4] rfl) kont
    · refine g_aload_n (i := 0) (by decide +kernel) rfl ?_
      refine x_getr (hs.k k_91) F_Weeks_58 (by decide +kernel) rfl (hs.r r_91_2) ?_
      refine g_iload_n (i := 1) (by decide +kernel) rfl ?_
      refine g_iload (i := 4) (by decide +kernel) rfl ?_
      refine x_callVIp (as := [.int p1, .int v4]) Vi_Ahead_rowIn Vs_Ahead_rowIn (hs.k k_86) rfl hf (fun q hq => t_Ahead_rowIn hs  hq) Y_Ahead_rowIn L_Weeks_170 (by decide +kernel) rfl rfl (Nat.le_of_ble_eq_true rfl) (by decide) (Nat.le_refl _) (Nat.le_refl _) (fun q4 hf => ?_)
      refine g_istore (i := 5) (by decide +kernel) rfl (by decide) (ls1 := [(0, .ref 91), (1, .int p1), (2, .int v2), (3, .int v3), (4, .int v4), (5, .int q4)]) rfl ?_
      refine g_iload_n (i := 2) (by decide +kernel) rfl ?_
      refine g_istore (i := 6) (by decide +kernel) rfl (by decide) (ls1 := [(0, .ref 91), (1, .int p1), (2, .int v2), (3, .int v3), (4, .int v4), (5, .int q4), (6, .int v2)]) rfl ?_
      refine g_iconst (z := 0) (v := 0) (by decide +kernel) rfl ?_
      refine g_istore (i := 7) (by decide +kernel) rfl (by decide) (ls1 := [(0, .ref 91), (1, .int p1), (2, .int v2), (3, .int v3), (4, .int v4), (5, .int q4), (6, .int v2), (7, .int (0 : Int32))]) rfl ?_
      obtain ⟨q7, hqq7, hf⟩ := Option.bind_eq_some_iff.mp hf
      refine am_G.forget (am_subp [0, 1, 2, 3, 4, 5, 6, 7] rfl) (t_Weeks_comesByAll_L45  am_fu _ _ _ _ _ _ _ q7 hs hqq7 ?_)
      refine g_iload (i := 6) (by decide +kernel) rfl ?_
      refine g_istore_n (i := 2) (by decide +kernel) rfl (by decide) (ls1 := [(0, .ref 91), (1, .int p1), (2, .int q7.1), (3, .int v3), (4, .int v4), (5, .int q4), (6, .int q7.1), (7, .int q7.2)]) rfl ?_
      refine g_iinc (i := 4) (z := 1) (v := (v4 + (1 : Int32))) (by decide +kernel) rfl rfl rfl (by decide) (ls1 := [(0, .ref 91), (1, .int p1), (2, .int q7.1), (3, .int v3), (4, .int (v4 + (1 : Int32))), (5, .int q4), (6, .int q7.1), (7, .int q7.2)]) rfl ?_
      refine g_goto (off := (-65)) (tgt := 21) (by decide +kernel) (by decide) ?_
      exact am_G.forget (am_subp [0, 1, 2, 3, 4] rfl) (ih _ _ _ _ _ hs hf kont)
def f_Weeks_comesByAll (p1 : Int32) (h : am_H) : Option (Bool) :=
  (am_rd (h.2.1 12) 5 p1).bind fun x1 =>
  (f_Weeks_hoursLeft p1 h).bind fun q2 =>
  (f_Weeks_comesByAll_L21 p1 am_fu ((1 : Int32) <<< (x1 &&& 31)) q2 (0 : Int32) h).bind fun q8 =>
  (if q2 < 0 then
    some false
  else
    (am_rd (h.2.1 5) 5 p1).bind fun x10 =>
    (f_Top_hasBit q8.1 x10 h).bind fun q11 =>
    (if q11 = true then
      some true
    else
      some false))
set_option maxRecDepth 100000 in
set_option maxHeartbeats 4000000 in
theorem t_Weeks_comesByAll {p1 : Int32} {h : am_H} (hs : am_Sh h)  {r : Bool} (hf : f_Weeks_comesByAll p1 h = some r) : am_Ct 2 M_Weeks_comesByAll [.ref 91, .int p1] h 0 0 (am_pB h r) := by
  unfold f_Weeks_comesByAll at hf
  refine am_Ct.of (by decide) rfl (Nat.le_of_ble_eq_true rfl) (ls := [(0, .ref 91), (1, .int p1)]) rfl ?_
  refine g_iconst (z := 1) (v := 1) (by decide +kernel) rfl ?_
  refine g_aload_n (i := 0) (by decide +kernel) rfl ?_
  refine x_getr (hs.k k_91) F_Weeks_54 (by decide +kernel) rfl (hs.r r_91_1) ?_
  refine x_getr (hs.k k_10) F_Weeks_88 (by decide +kernel) rfl (hs.r r_10_4) ?_
  refine g_iload_n (i := 1) (by decide +kernel) rfl ?_
  refine x_iald hf (hs.k k_12) (by decide +kernel) (fun x1 hf => ?_)
  refine g_ishl (by decide +kernel) ?_
  refine g_istore_n (i := 2) (by decide +kernel) rfl (by decide) (ls1 := [(0, .ref 91), (1, .int p1), (2, .int ((1 : Int32) <<< (x1 &&& 31)))]) rfl ?_
  refine g_aload_n (i := 0) (by decide +kernel) rfl ?_
  refine g_iload_n (i := 1) (by decide +kernel) rfl ?_
  refine x_callVIp (as := [.int p1]) Vi_Weeks_hoursLeft Vs_Weeks_hoursLeft (hs.k k_91) rfl hf (fun q hq => t_Weeks_hoursLeft hs  hq) Y_Weeks_hoursLeft L_Weeks_91 (by decide +kernel) rfl rfl (Nat.le_of_ble_eq_true rfl) (by decide) (Nat.le_refl _) (Nat.le_refl _) (fun q2 hf => ?_)
  refine g_istore_n (i := 3) (by decide +kernel) rfl (by decide) (ls1 := [(0, .ref 91), (1, .int p1), (2, .int ((1 : Int32) <<< (x1 &&& 31))), (3, .int q2)]) rfl ?_
  refine g_iconst (z := 0) (v := 0) (by decide +kernel) rfl ?_
  refine g_istore (i := 4) (by decide +kernel) rfl (by decide) (ls1 := [(0, .ref 91), (1, .int p1), (2, .int ((1 : Int32) <<< (x1 &&& 31))), (3, .int q2), (4, .int (0 : Int32))]) rfl ?_
  obtain ⟨q8, hqq8, hf⟩ := Option.bind_eq_some_iff.mp hf
  refine am_G.forget (am_subp [0, 1, 2, 3, 4] rfl) (t_Weeks_comesByAll_L21  am_fu _ _ _ _ q8 hs hqq8 ?_)
  refine g_iload_n (i := 3) (by decide +kernel) rfl ?_
  refine x_if_lt (off := 23) (tgt := 113) hf (by decide +kernel) (by decide) (fun c9 hf => ?_) (fun c9 hf => ?_)
  · refine g_iconst (z := 0) (v := 0) (by decide +kernel) rfl ?_
    exact x_zretp rfl hf (by decide +kernel) rfl (Nat.le_refl _) (Nat.le_refl _)
  · refine g_iload_n (i := 2) (by decide +kernel) rfl ?_
    refine g_aload_n (i := 0) (by decide +kernel) rfl ?_
    refine x_getr (hs.k k_91) F_Weeks_50 (by decide +kernel) rfl (hs.r r_91_0) ?_
    refine x_getr (hs.k k_1) F_Weeks_62 (by decide +kernel) rfl (hs.r r_1_9) ?_
    refine g_iload_n (i := 1) (by decide +kernel) rfl ?_
    refine x_iald hf (hs.k k_5) (by decide +kernel) (fun x10 hf => ?_)
    refine x_callSNBp (as := [.int q8.1, .int x10]) St_Top_hasBit hf (fun q hq => t_Top_hasBit hs  hq) Y_Top_hasBit L_Weeks_72 (by decide +kernel) rfl rfl (Nat.le_of_ble_eq_true rfl) (by decide) (Nat.le_refl _) (Nat.le_refl _) (fun q11 hf => ?_)
    refine x_ifb_eq (off := 7) (tgt := 113) hf (by decide +kernel) (by decide) (fun c12 hf => ?_) (fun c12 hf => ?_)
    · refine g_iconst (z := 0) (v := 0) (by decide +kernel) rfl ?_
      exact x_zretp rfl hf (by decide +kernel) rfl (Nat.le_refl _) (Nat.le_refl _)
    · refine g_iconst (z := 1) (v := 1) (by decide +kernel) rfl ?_
      refine g_goto (off := 4) (tgt := 114) (by decide +kernel) (by decide) ?_
      exact x_zretp rfl hf (by decide +kernel) rfl (Nat.le_refl _) (Nat.le_refl _)
def f_Weeks_sortPeople_L25  : Nat → Int32 → am_H → Option (Int32 × am_H)
  | 0, _, _ => none
  | n + 1, v1, h =>
    (if (h.2.1 1 2) ≤ v1 then
      some (v1, h)
    else
      (f_Weeks_hasErrand v1 h).bind fun q6 =>
      (if q6 = true then
        (f_Weeks_isDone v1 h).bind fun q8 =>
        (if q8 = true then
          am_let (am_sI h 91 12 ((h.2.1 91 12) + (1 : Int32))) fun h10 =>
          f_Weeks_sortPeople_L25  n (v1 + (1 : Int32)) h10
        else
          (f_Weeks_comes v1 92 6 h).bind fun q11 =>
          (if q11 = true then
            am_let (am_sI h 91 12 ((h.2.1 91 12) + (1 : Int32))) fun h20 =>
            f_Weeks_sortPeople_L25  n (v1 + (1 : Int32)) h20
          else
            (f_Weeks_comesByAll v1 h).bind fun q13 =>
            (if q13 = true then
              (am_wr h 94 5 (h.2.1 91 11) v1).bind fun h16 =>
              (am_rd (h16.2.1 12) 5 v1).bind fun x17 =>
              (am_wr h16 95 35 (h16.2.1 91 11) ((1 : Int32) <<< (x17 &&& 31))).bind fun h18 =>
              am_let (am_sI h18 91 11 ((h18.2.1 91 11) + (1 : Int32))) fun h19 =>
              f_Weeks_sortPeople_L25  n (v1 + (1 : Int32)) h19
            else
              am_let (am_sI h 91 13 ((h.2.1 91 13) + (1 : Int32))) fun h15 =>
              f_Weeks_sortPeople_L25  n (v1 + (1 : Int32)) h15)))
      else
        f_Weeks_sortPeople_L25  n (v1 + (1 : Int32)) h))
set_option maxRecDepth 100000 in
set_option maxHeartbeats 4000000 in
theorem t_Weeks_sortPeople_L25   {Q : Option Value → am_H → Prop} : ∀ (n : Nat) (v1 : Int32) (h : am_H) (q : Int32 × am_H), am_Sh h → f_Weeks_sortPeople_L25  n v1 h = some q → (am_Sh q.2 → am_G 4 M_Weeks_sortPeople 0 0 Q 147 [(0, .ref 91), (1, .int q.1)] [] q.2 0 0) → am_G 4 M_Weeks_sortPeople 0 0 Q 25 [(0, .ref 91), (1, .int v1)] [] h 0 0 := by
  intro n
  induction n with
  | zero =>
    intro v1 h q hs hf kont
    rw [f_Weeks_sortPeople_L25] at hf
    cases hf
  | succ n ih =>
    intro v1 h q hs hf kont
    rw [f_Weeks_sortPeople_L25] at hf
    refine g_iload_n (i := 1) (by decide +kernel) rfl ?_
    refine g_aload_n (i := 0) (by decide +kernel) rfl ?_
    refine x_getr (hs.k k_91) F_Weeks_50 (by decide +kernel) rfl (hs.r r_91_0) ?_
    refine x_geti (hs.k k_1) F_Weeks_101 (by decide +kernel) rfl ?_
    refine x_icmp_ge (off := 114) (tgt := 147) hf (by decide +kernel) (by decide) (fun c5 hf => ?_) (fun c5 hf => ?_)
    · cases hf
      exact am_G.forget (am_subp [0, 1] rfl) (kont hs)
    · refine g_aload_n (i := 0) (by decide +kernel) rfl ?_
      refine g_iload_n (i := 1) (by decide +kernel) rfl ?_
      refine x_callVBp (as := [.int v1]) Vi_Weeks_hasErrand Vs_Weeks_hasErrand (hs.k k_91) rfl hf (fun q hq => t_Weeks_hasErrand hs  hq) Y_Weeks_hasErrand L_Weeks_104 (by decide +kernel) rfl rfl (Nat.le_of_ble_eq_true rfl) (by decide) (Nat.le_refl _) (Nat.le_refl _) (fun q6 hf => ?_)
      refine x_ifb_ne (off := 6) (tgt := 47) hf (by decide +kernel) (by decide) (fun c7 hf => ?_) (fun c7 hf => ?_)
      · refine g_aload_n (i := 0) (by decide +kernel) rfl ?_
        refine g_iload_n (i := 1) (by decide +kernel) rfl ?_
        refine x_callVBp (as := [.int v1]) Vi_Weeks_isDone Vs_Weeks_isDone (hs.k k_91) rfl hf (fun q hq => t_Weeks_isDone hs  hq) Y_Weeks_isDone L_Weeks_108 (by decide +kernel) rfl rfl (Nat.le_of_ble_eq_true rfl) (by decide) (Nat.le_refl _) (Nat.le_refl _) (fun q8 hf => ?_)
        refine x_ifb_ne (off := 15) (tgt := 67) hf (by decide +kernel) (by decide) (fun c9 hf => ?_) (fun c9 hf => ?_)
        · refine g_aload_n (i := 0) (by decide +kernel) rfl ?_
          refine g_dup (by decide +kernel) rfl ?_
          refine x_geti (hs.k k_91) F_Weeks_41 (by decide +kernel) rfl ?_
          refine g_iconst (z := 1) (v := 1) (by decide +kernel) rfl ?_
          refine g_iadd (by decide +kernel) ?_
          refine x_puti hf hs (hs.k k_91) F_Weeks_41 (by decide +kernel) rfl rfl rfl rfl (fun h10 hf hs => ?_)
          refine g_goto (off := 64) (tgt := 141) (by decide +kernel) (by decide) ?_
          refine g_iinc (i := 1) (z := 1) (v := (v1 + (1 : Int32))) (by decide +kernel) rfl rfl rfl (by decide) (ls1 := [(0, .ref 91), (1, .int (v1 + (1 : Int32)))]) rfl ?_
          refine g_goto (off := (-119)) (tgt := 25) (by decide +kernel) (by decide) ?_
          exact am_G.forget (am_subp [0, 1] rfl) (ih _ _ _ hs hf kont)
        · refine g_aload_n (i := 0) (by decide +kernel) rfl ?_
          refine g_iload_n (i := 1) (by decide +kernel) rfl ?_
          refine g_aload_n (i := 0) (by decide +kernel) rfl ?_
          refine x_getr (hs.k k_91) F_Weeks_9 (by decide +kernel) rfl (hs.r r_91_3) ?_
          refine x_callVBp (as := [.int v1, .ref 92]) Vi_Weeks_comes Vs_Weeks_comes (hs.k k_91) rfl hf (fun q hq => t_Weeks_comes hs k_92 hq) Y_Weeks_comes L_Weeks_111 (by decide +kernel) rfl rfl (Nat.le_of_ble_eq_true rfl) (by decide) (Nat.le_refl _) (Nat.le_refl _) (fun q11 hf => ?_)
          refine x_ifb_eq (off := 16) (tgt := 80) hf (by decide +kernel) (by decide) (fun c12 hf => ?_) (fun c12 hf => ?_)
          · refine g_aload_n (i := 0) (by decide +kernel) rfl ?_
            refine g_iload_n (i := 1) (by decide +kernel) rfl ?_
            refine x_callVBp (as := [.int v1]) Vi_Weeks_comesByAll Vs_Weeks_comesByAll (hs.k k_91) rfl hf (fun q hq => t_Weeks_comesByAll hs  hq) Y_Weeks_comesByAll L_Weeks_167 (by decide +kernel) rfl rfl (Nat.le_of_ble_eq_true rfl) (by decide) (Nat.le_refl _) (Nat.le_refl _) (fun q13 hf => ?_)
            refine x_ifb_eq (off := 46) (tgt := 131) hf (by decide +kernel) (by decide) (fun c14 hf => ?_) (fun c14 hf => ?_)
            · refine g_aload_n (i := 0) (by decide +kernel) rfl ?_
              refine g_dup (by decide +kernel) rfl ?_
              refine x_geti (hs.k k_91) F_Weeks_44 (by decide +kernel) rfl ?_
              refine g_iconst (z := 1) (v := 1) (by decide +kernel) rfl ?_
              refine g_iadd (by decide +kernel) ?_
              refine x_puti hf hs (hs.k k_91) F_Weeks_44 (by decide +kernel) rfl rfl rfl rfl (fun h15 hf hs => ?_)
              refine g_iinc (i := 1) (z := 1) (v := (v1 + (1 : Int32))) (by decide +kernel) rfl rfl rfl (by decide) (ls1 := [(0, .ref 91), (1, .int (v1 + (1 : Int32)))]) rfl ?_
              refine g_goto (off := (-119)) (tgt := 25) (by decide +kernel) (by decide) ?_
              exact am_G.forget (am_subp [0, 1] rfl) (ih _ _ _ hs hf kont)
            · refine g_aload_n (i := 0) (by decide +kernel) rfl ?_
              refine x_getr (hs.k k_91) F_Weeks_35 (by decide +kernel) rfl (hs.r r_91_10) ?_
              refine g_aload_n (i := 0) (by decide +kernel) rfl ?_
              refine x_geti (hs.k k_91) F_Weeks_38 (by decide +kernel) rfl ?_
              refine g_iload_n (i := 1) (by decide +kernel) rfl ?_
              refine x_iast hf hs (hs.k k_94) (by decide +kernel) (fun h16 hf hs => ?_)
              refine g_aload_n (i := 0) (by decide +kernel) rfl ?_
              refine x_getr (hs.k k_91) F_Weeks_47 (by decide +kernel) rfl (hs.r r_91_14) ?_
              refine g_aload_n (i := 0) (by decide +kernel) rfl ?_
              refine x_geti (hs.k k_91) F_Weeks_38 (by decide +kernel) rfl ?_
              refine g_iconst (z := 1) (v := 1) (by decide +kernel) rfl ?_
              refine g_aload_n (i := 0) (by decide +kernel) rfl ?_
              refine x_getr (hs.k k_91) F_Weeks_54 (by decide +kernel) rfl (hs.r r_91_1) ?_
              refine x_getr (hs.k k_10) F_Weeks_88 (by decide +kernel) rfl (hs.r r_10_4) ?_
              refine g_iload_n (i := 1) (by decide +kernel) rfl ?_
              refine x_iald hf (hs.k k_12) (by decide +kernel) (fun x17 hf => ?_)
              refine g_ishl (by decide +kernel) ?_
              refine x_iast hf hs (hs.k k_95) (by decide +kernel) (fun h18 hf hs => ?_)
              refine g_aload_n (i := 0) (by decide +kernel) rfl ?_
              refine g_dup (by decide +kernel) rfl ?_
              refine x_geti (hs.k k_91) F_Weeks_38 (by decide +kernel) rfl ?_
              refine g_iconst (z := 1) (v := 1) (by decide +kernel) rfl ?_
              refine g_iadd (by decide +kernel) ?_
              refine x_puti hf hs (hs.k k_91) F_Weeks_38 (by decide +kernel) rfl rfl rfl rfl (fun h19 hf hs => ?_)
              refine g_goto (off := 13) (tgt := 141) (by decide +kernel) (by decide) ?_
              refine g_iinc (i := 1) (z := 1) (v := (v1 + (1 : Int32))) (by decide +kernel) rfl rfl rfl (by decide) (ls1 := [(0, .ref 91), (1, .int (v1 + (1 : Int32)))]) rfl ?_
              refine g_goto (off := (-119)) (tgt := 25) (by decide +kernel) (by decide) ?_
              exact am_G.forget (am_subp [0, 1] rfl) (ih _ _ _ hs hf kont)
          · refine g_aload_n (i := 0) (by decide +kernel) rfl ?_
            refine g_dup (by decide +kernel) rfl ?_
            refine x_geti (hs.k k_91) F_Weeks_41 (by decide +kernel) rfl ?_
            refine g_iconst (z := 1) (v := 1) (by decide +kernel) rfl ?_
            refine g_iadd (by decide +kernel) ?_
            refine x_puti hf hs (hs.k k_91) F_Weeks_41 (by decide +kernel) rfl rfl rfl rfl (fun h20 hf hs => ?_)
            refine g_goto (off := 64) (tgt := 141) (by decide +kernel) (by decide) ?_
            refine g_iinc (i := 1) (z := 1) (v := (v1 + (1 : Int32))) (by decide +kernel) rfl rfl rfl (by decide) (ls1 := [(0, .ref 91), (1, .int (v1 + (1 : Int32)))]) rfl ?_
            refine g_goto (off := (-119)) (tgt := 25) (by decide +kernel) (by decide) ?_
            exact am_G.forget (am_subp [0, 1] rfl) (ih _ _ _ hs hf kont)
      · refine g_goto (off := 97) (tgt := 141) (by decide +kernel) (by decide) ?_
        refine g_iinc (i := 1) (z := 1) (v := (v1 + (1 : Int32))) (by decide +kernel) rfl rfl rfl (by decide) (ls1 := [(0, .ref 91), (1, .int (v1 + (1 : Int32)))]) rfl ?_
        refine g_goto (off := (-119)) (tgt := 25) (by decide +kernel) (by decide) ?_
        exact am_G.forget (am_subp [0, 1] rfl) (ih _ _ _ hs hf kont)
def f_Weeks_sortPeople  (h : am_H) : Option (am_H) :=
  am_let (am_sI h 91 11 (0 : Int32)) fun h1 =>
  am_let (am_sI h1 91 12 (0 : Int32)) fun h2 =>
  am_let (am_sI h2 91 13 (0 : Int32)) fun h3 =>
  (f_Arrays_fill 92 6 (-1 : Int32) h3).bind fun q4 =>
  (f_Weeks_sortPeople_L25  am_fu (0 : Int32) q4).bind fun q21 =>
  some q21.2
set_option maxRecDepth 100000 in
set_option maxHeartbeats 4000000 in
theorem t_Weeks_sortPeople  {h : am_H} (hs : am_Sh h)  {r : am_H} (hf : f_Weeks_sortPeople  h = some r) : am_Ct 4 M_Weeks_sortPeople [.ref 91] h 0 0 (am_qV r) := by
  unfold f_Weeks_sortPeople at hf
  refine am_Ct.of (by decide) rfl (Nat.le_of_ble_eq_true rfl) (ls := [(0, .ref 91)]) rfl ?_
  refine g_aload_n (i := 0) (by decide +kernel) rfl ?_
  refine g_iconst (z := 0) (v := 0) (by decide +kernel) rfl ?_
  refine x_puti hf hs (hs.k k_91) F_Weeks_38 (by decide +kernel) rfl rfl rfl rfl (fun h1 hf hs => ?_)
  refine g_aload_n (i := 0) (by decide +kernel) rfl ?_
  refine g_iconst (z := 0) (v := 0) (by decide +kernel) rfl ?_
  refine x_puti hf hs (hs.k k_91) F_Weeks_41 (by decide +kernel) rfl rfl rfl rfl (fun h2 hf hs => ?_)
  refine g_aload_n (i := 0) (by decide +kernel) rfl ?_
  refine g_iconst (z := 0) (v := 0) (by decide +kernel) rfl ?_
  refine x_puti hf hs (hs.k k_91) F_Weeks_44 (by decide +kernel) rfl rfl rfl rfl (fun h3 hf hs => ?_)
  refine g_aload_n (i := 0) (by decide +kernel) rfl ?_
  refine x_getr (hs.k k_91) F_Weeks_9 (by decide +kernel) rfl (hs.r r_91_3) ?_
  refine g_iconst (z := (-1)) (v := (-1)) (by decide +kernel) rfl ?_
  refine x_callSV (as := [.ref 92, .int (-1 : Int32)]) St_Arrays_fill hf (fun q hq => t_Arrays_fill hs k_92 hq) Y_Arrays_fill L_Weeks_151 (by decide +kernel) rfl rfl (Nat.le_of_ble_eq_true rfl) (by decide) (Nat.le_refl _) (Nat.le_refl _) (fun q4 hf hs => ?_)
  refine g_iconst (z := 0) (v := 0) (by decide +kernel) rfl ?_
  refine g_istore_n (i := 1) (by decide +kernel) rfl (by decide) (ls1 := [(0, .ref 91), (1, .int (0 : Int32))]) rfl ?_
  obtain ⟨q21, hqq21, hf⟩ := Option.bind_eq_some_iff.mp hf
  refine am_G.forget (am_subp [0, 1] rfl) (t_Weeks_sortPeople_L25  am_fu _ _ q21 hs hqq21 (fun hs => ?_))
  exact x_vret hf hs (by decide +kernel) rfl (Nat.le_refl _) (Nat.le_refl _)
def f_Weeks_openComes (p1 : Int32) (p2 : Int32) (h : am_H) : Option (Bool) :=
  (am_rd (h.2.1 94) 5 p1).bind fun x1 =>
  (am_rd (h.2.1 95) 35 ((p2 * (5 : Int32)) + p1)).bind fun x2 =>
  (am_rd (h.2.1 5) 5 x1).bind fun x3 =>
  (f_Top_hasBit x2 x3 h).bind fun q4 =>
  (if q4 = true then
    some true
  else
    (am_rd (h.2.1 5) 5 x1).bind fun x6 =>
    (f_Weeks_hoursLeft x1 h).bind fun q7 =>
    (f_Ahead_hoursFrom x1 x2 x6 92 6 p2 (q7 - p2) h).bind fun q8 =>
    (if q8 = (-1 : Int32) then
      some false
    else
      some true))
set_option maxRecDepth 100000 in
set_option maxHeartbeats 4000000 in
theorem t_Weeks_openComes {p1 : Int32} {p2 : Int32} {h : am_H} (hs : am_Sh h)  {r : Bool} (hf : f_Weeks_openComes p1 p2 h = some r) : am_Ct 3 M_Weeks_openComes [.ref 91, .int p1, .int p2] h 0 0 (am_pB h r) := by
  unfold f_Weeks_openComes at hf
  refine am_Ct.of (by decide) rfl (Nat.le_of_ble_eq_true rfl) (ls := [(0, .ref 91), (1, .int p1), (2, .int p2)]) rfl ?_
  refine g_aload_n (i := 0) (by decide +kernel) rfl ?_
  refine x_getr (hs.k k_91) F_Weeks_35 (by decide +kernel) rfl (hs.r r_91_10) ?_
  refine g_iload_n (i := 1) (by decide +kernel) rfl ?_
  refine x_iald hf (hs.k k_94) (by decide +kernel) (fun x1 hf => ?_)
  refine g_istore_n (i := 3) (by decide +kernel) rfl (by decide) (ls1 := [(0, .ref 91), (1, .int p1), (2, .int p2), (3, .int x1)]) rfl ?_
  refine g_aload_n (i := 0) (by decide +kernel) rfl ?_
  refine x_getr (hs.k k_91) F_Weeks_47 (by decide +kernel) rfl (hs.r r_91_14) ?_
  refine g_iload_n (i := 2) (by decide +kernel) rfl ?_
  refine g_iconst (z := 5) (v := 5) (by decide +kernel) rfl ?_
  refine g_imul (by decide +kernel) ?_
  refine g_iload_n (i := 1) (by decide +kernel) rfl ?_
  refine g_iadd (by decide +kernel) ?_
  refine x_iald hf (hs.k k_95) (by decide +kernel) (fun x2 hf => ?_)
  refine g_istore (i := 4) (by decide +kernel) rfl (by decide) (ls1 := [(0, .ref 91), (1, .int p1), (2, .int p2), (3, .int x1), (4, .int x2)]) rfl ?_
  refine g_iload (i := 4) (by decide +kernel) rfl ?_
  refine g_aload_n (i := 0) (by decide +kernel) rfl ?_
  refine x_getr (hs.k k_91) F_Weeks_50 (by decide +kernel) rfl (hs.r r_91_0) ?_
  refine x_getr (hs.k k_1) F_Weeks_62 (by decide +kernel) rfl (hs.r r_1_9) ?_
  refine g_iload_n (i := 3) (by decide +kernel) rfl ?_
  refine x_iald hf (hs.k k_5) (by decide +kernel) (fun x3 hf => ?_)
  refine x_callSNBp (as := [.int x2, .int x3]) St_Top_hasBit hf (fun q hq => t_Top_hasBit hs  hq) Y_Top_hasBit L_Weeks_72 (by decide +kernel) rfl rfl (Nat.le_of_ble_eq_true rfl) (by decide) (Nat.le_refl _) (Nat.le_refl _) (fun q4 hf => ?_)
  refine x_ifb_ne (off := 38) (tgt := 71) hf (by decide +kernel) (by decide) (fun c5 hf => ?_) (fun c5 hf => ?_)
  · refine g_iconst (z := 1) (v := 1) (by decide +kernel) rfl ?_
    refine g_goto (off := 4) (tgt := 76) (by decide +kernel) (by decide) ?_
    exact x_zretp rfl hf (by decide +kernel) rfl (Nat.le_refl _) (Nat.le_refl _)
  · refine g_aload_n (i := 0) (by decide +kernel) rfl ?_
    refine x_getr (hs.k k_91) F_Weeks_58 (by decide +kernel) rfl (hs.r r_91_2) ?_
    refine g_iload_n (i := 3) (by decide +kernel) rfl ?_
    refine g_iload (i := 4) (by decide +kernel) rfl ?_
    refine g_aload_n (i := 0) (by decide +kernel) rfl ?_
    refine x_getr (hs.k k_91) F_Weeks_50 (by decide +kernel) rfl (hs.r r_91_0) ?_
    refine x_getr (hs.k k_1) F_Weeks_62 (by decide +kernel) rfl (hs.r r_1_9) ?_
    refine g_iload_n (i := 3) (by decide +kernel) rfl ?_
    refine x_iald hf (hs.k k_5) (by decide +kernel) (fun x6 hf => ?_)
    refine g_aload_n (i := 0) (by decide +kernel) rfl ?_
    refine x_getr (hs.k k_91) F_Weeks_9 (by decide +kernel) rfl (hs.r r_91_3) ?_
    refine g_iload_n (i := 2) (by decide +kernel) rfl ?_
    refine g_aload_n (i := 0) (by decide +kernel) rfl ?_
    refine g_iload_n (i := 3) (by decide +kernel) rfl ?_
    refine x_callVIp (as := [.int x1]) Vi_Weeks_hoursLeft Vs_Weeks_hoursLeft (hs.k k_91) rfl hf (fun q hq => t_Weeks_hoursLeft hs  hq) Y_Weeks_hoursLeft L_Weeks_91 (by decide +kernel) rfl rfl (Nat.le_of_ble_eq_true rfl) (by decide) (Nat.le_refl _) (Nat.le_refl _) (fun q7 hf => ?_)
    refine g_iload_n (i := 2) (by decide +kernel) rfl ?_
    refine g_isub (by decide +kernel) ?_
    refine x_callVIp (as := [.int x1, .int x2, .int x6, .ref 92, .int p2, .int (q7 - p2)]) Vi_Ahead_hoursFrom Vs_Ahead_hoursFrom (hs.k k_86) rfl hf (fun q hq => t_Ahead_hoursFrom hs k_92 hq) Y_Ahead_hoursFrom L_Weeks_95 (by decide +kernel) rfl rfl (Nat.le_of_ble_eq_true rfl) (by decide) (Nat.le_refl _) (Nat.le_refl _) (fun q8 hf => ?_)
    refine g_iconst (z := (-1)) (v := (-1)) (by decide +kernel) rfl ?_
    refine x_icmp_eq (off := 7) (tgt := 75) hf (by decide +kernel) (by decide) (fun c9 hf => ?_) (fun c9 hf => ?_)
    · refine g_iconst (z := 0) (v := 0) (by decide +kernel) rfl ?_
      exact x_zretp rfl hf (by decide +kernel) rfl (Nat.le_refl _) (Nat.le_refl _)
    · refine g_iconst (z := 1) (v := 1) (by decide +kernel) rfl ?_
      refine g_goto (off := 4) (tgt := 76) (by decide +kernel) (by decide) ?_
      exact x_zretp rfl hf (by decide +kernel) rfl (Nat.le_refl _) (Nat.le_refl _)
def f_Weeks_trialIsFirst_L2  : Nat → Int32 → am_H → Option (Bool)
  | 0, _, _ => none
  | n + 1, v1, h =>
    (if (h.2.1 1 1) ≤ v1 then
      some false
    else
      (am_rd (h.2.1 92) 6 v1).bind fun x2 =>
      (am_rd (h.2.1 93) 6 v1).bind fun x3 =>
      (if x2 = x3 then
        f_Weeks_trialIsFirst_L2  n (v1 + (1 : Int32)) h
      else
        (am_rd (h.2.1 92) 6 v1).bind fun x5 =>
        (am_rd (h.2.1 93) 6 v1).bind fun x6 =>
        (if x6 ≤ x5 then
          some false
        else
          some true)))
set_option maxRecDepth 100000 in
set_option maxHeartbeats 4000000 in
theorem t_Weeks_trialIsFirst_L2   : ∀ (n : Nat) (v1 : Int32) (h : am_H) (r : Bool), am_Sh h → f_Weeks_trialIsFirst_L2  n v1 h = some r → am_G 0 M_Weeks_trialIsFirst 0 0 (am_pB h r) 2 [(0, .ref 91), (1, .int v1)] [] h 0 0 := by
  intro n
  induction n with
  | zero =>
    intro v1 h r hs hf
    rw [f_Weeks_trialIsFirst_L2] at hf
    cases hf
  | succ n ih =>
    intro v1 h r hs hf
    rw [f_Weeks_trialIsFirst_L2] at hf
    refine g_iload_n (i := 1) (by decide +kernel) rfl ?_
    refine g_aload_n (i := 0) (by decide +kernel) rfl ?_
    refine x_getr (hs.k k_91) F_Weeks_50 (by decide +kernel) rfl (hs.r r_91_0) ?_
    refine x_geti (hs.k k_1) F_Weeks_121 (by decide +kernel) rfl ?_
    refine x_icmp_ge (off := 45) (tgt := 55) hf (by decide +kernel) (by decide) (fun c1 hf => ?_) (fun c1 hf => ?_)
    · refine g_iconst (z := 0) (v := 0) (by decide +kernel) rfl ?_
      exact x_zretp rfl hf (by decide +kernel) rfl (Nat.le_refl _) (Nat.le_refl _)
    · refine g_aload_n (i := 0) (by decide +kernel) rfl ?_
      refine x_getr (hs.k k_91) F_Weeks_9 (by decide +kernel) rfl (hs.r r_91_3) ?_
      refine g_iload_n (i := 1) (by decide +kernel) rfl ?_
      refine x_iald hf (hs.k k_92) (by decide +kernel) (fun x2 hf => ?_)
      refine g_aload_n (i := 0) (by decide +kernel) rfl ?_
      refine x_getr (hs.k k_91) F_Weeks_15 (by decide +kernel) rfl (hs.r r_91_4) ?_
      refine g_iload_n (i := 1) (by decide +kernel) rfl ?_
      refine x_iald hf (hs.k k_93) (by decide +kernel) (fun x3 hf => ?_)
      refine x_icmp_eq (off := 24) (tgt := 49) hf (by decide +kernel) (by decide) (fun c4 hf => ?_) (fun c4 hf => ?_)
      · refine g_iinc (i := 1) (z := 1) (v := (v1 + (1 : Int32))) (by decide +kernel) rfl rfl rfl (by decide) (ls1 := [(0, .ref 91), (1, .int (v1 + (1 : Int32)))]) rfl ?_
        refine g_goto (off := (-50)) (tgt := 2) (by decide +kernel) (by decide) ?_
        exact am_G.forget (am_subp [0, 1] rfl) (ih _ _ _ hs hf)
      · refine g_aload_n (i := 0) (by decide +kernel) rfl ?_
        refine x_getr (hs.k k_91) F_Weeks_9 (by decide +kernel) rfl (hs.r r_91_3) ?_
        refine g_iload_n (i := 1) (by decide +kernel) rfl ?_
        refine x_iald hf (hs.k k_92) (by decide +kernel) (fun x5 hf => ?_)
        refine g_aload_n (i := 0) (by decide +kernel) rfl ?_
        refine x_getr (hs.k k_91) F_Weeks_15 (by decide +kernel) rfl (hs.r r_91_4) ?_
        refine g_iload_n (i := 1) (by decide +kernel) rfl ?_
        refine x_iald hf (hs.k k_93) (by decide +kernel) (fun x6 hf => ?_)
        refine x_icmp_ge (off := 7) (tgt := 47) hf (by decide +kernel) (by decide) (fun c7 hf => ?_) (fun c7 hf => ?_)
        · refine g_iconst (z := 0) (v := 0) (by decide +kernel) rfl ?_
          exact x_zretp rfl hf (by decide +kernel) rfl (Nat.le_refl _) (Nat.le_refl _)
        · refine g_iconst (z := 1) (v := 1) (by decide +kernel) rfl ?_
          refine g_goto (off := 4) (tgt := 48) (by decide +kernel) (by decide) ?_
          exact x_zretp rfl hf (by decide +kernel) rfl (Nat.le_refl _) (Nat.le_refl _)
def f_Weeks_trialIsFirst  (h : am_H) : Option (Bool) :=
  f_Weeks_trialIsFirst_L2  am_fu (0 : Int32) h
set_option maxRecDepth 100000 in
set_option maxHeartbeats 4000000 in
theorem t_Weeks_trialIsFirst  {h : am_H} (hs : am_Sh h)  {r : Bool} (hf : f_Weeks_trialIsFirst  h = some r) : am_Ct 0 M_Weeks_trialIsFirst [.ref 91] h 0 0 (am_pB h r) := by
  unfold f_Weeks_trialIsFirst at hf
  refine am_Ct.of (by decide) rfl (Nat.le_of_ble_eq_true rfl) (ls := [(0, .ref 91)]) rfl ?_
  refine g_iconst (z := 0) (v := 0) (by decide +kernel) rfl ?_
  refine g_istore_n (i := 1) (by decide +kernel) rfl (by decide) (ls1 := [(0, .ref 91), (1, .int (0 : Int32))]) rfl ?_
  exact am_G.forget (am_subp [0, 1] rfl) (t_Weeks_trialIsFirst_L2  am_fu _ _ _ hs hf)
def f_Weeks_keepBetter (p1 : Int32) (p2 : Int32) (h : am_H) : Option (am_H) :=
  (if (h.2.1 91 5) < p1 then
    am_let (am_sI h 91 5 p1) fun h2 =>
    am_let (am_sI h2 91 6 p2) fun h3 =>
    (am_cp h3 92 6 (0 : Int32) 93 6 (0 : Int32) (6 : Int32)).bind fun h4 =>
    some h4
  else
    (if p2 < (h.2.1 91 6) then
      am_let (am_sI h 91 5 p1) fun h6 =>
      am_let (am_sI h6 91 6 p2) fun h7 =>
      (am_cp h7 92 6 (0 : Int32) 93 6 (0 : Int32) (6 : Int32)).bind fun h8 =>
      some h8
    else
      (if p2 = (h.2.1 91 6) then
        (f_Weeks_trialIsFirst  h).bind fun q10 =>
        (if q10 = true then
          am_let (am_sI h 91 5 p1) fun h12 =>
          am_let (am_sI h12 91 6 p2) fun h13 =>
          (am_cp h13 92 6 (0 : Int32) 93 6 (0 : Int32) (6 : Int32)).bind fun h14 =>
          some h14
        else
          some h)
      else
        some h)))
set_option maxRecDepth 100000 in
set_option maxHeartbeats 4000000 in
theorem t_Weeks_keepBetter {p1 : Int32} {p2 : Int32} {h : am_H} (hs : am_Sh h)  {r : am_H} (hf : f_Weeks_keepBetter p1 p2 h = some r) : am_Ct 1 M_Weeks_keepBetter [.ref 91, .int p1, .int p2] h 0 0 (am_qV r) := by
  unfold f_Weeks_keepBetter at hf
  refine am_Ct.of (by decide) rfl (Nat.le_of_ble_eq_true rfl) (ls := [(0, .ref 91), (1, .int p1), (2, .int p2)]) rfl ?_
  refine g_iload_n (i := 1) (by decide +kernel) rfl ?_
  refine g_aload_n (i := 0) (by decide +kernel) rfl ?_
  refine x_geti (hs.k k_91) F_Weeks_18 (by decide +kernel) rfl ?_
  refine x_icmp_gt (off := 26) (tgt := 31) hf (by decide +kernel) (by decide) (fun c1 hf => ?_) (fun c1 hf => ?_)
  · refine g_aload_n (i := 0) (by decide +kernel) rfl ?_
    refine g_iload_n (i := 1) (by decide +kernel) rfl ?_
    refine x_puti hf hs (hs.k k_91) F_Weeks_18 (by decide +kernel) rfl rfl rfl rfl (fun h2 hf hs => ?_)
    refine g_aload_n (i := 0) (by decide +kernel) rfl ?_
    refine g_iload_n (i := 2) (by decide +kernel) rfl ?_
    refine x_puti hf hs (hs.k k_91) F_Weeks_22 (by decide +kernel) rfl rfl rfl rfl (fun h3 hf hs => ?_)
    refine g_aload_n (i := 0) (by decide +kernel) rfl ?_
    refine x_getr (hs.k k_91) F_Weeks_9 (by decide +kernel) rfl (hs.r r_91_3) ?_
    refine g_iconst (z := 0) (v := 0) (by decide +kernel) rfl ?_
    refine g_aload_n (i := 0) (by decide +kernel) rfl ?_
    refine x_getr (hs.k k_91) F_Weeks_15 (by decide +kernel) rfl (hs.r r_91_4) ?_
    refine g_iconst (z := 0) (v := 0) (by decide +kernel) rfl ?_
    refine g_bipush (z := 6) (v := 6) (by decide +kernel) rfl ?_
    refine x_copy hf hs (hs.k k_92) (hs.k k_93) L_Weeks_124 (by decide) (Nat.le_of_ble_eq_true rfl) (by decide +kernel) (fun h4 hf hs => ?_)
    exact x_vret hf hs (by decide +kernel) rfl (Nat.le_refl _) (Nat.le_refl _)
  · refine g_iload_n (i := 2) (by decide +kernel) rfl ?_
    refine g_aload_n (i := 0) (by decide +kernel) rfl ?_
    refine x_geti (hs.k k_91) F_Weeks_22 (by decide +kernel) rfl ?_
    refine x_icmp_lt (off := 18) (tgt := 31) hf (by decide +kernel) (by decide) (fun c5 hf => ?_) (fun c5 hf => ?_)
    · refine g_aload_n (i := 0) (by decide +kernel) rfl ?_
      refine g_iload_n (i := 1) (by decide +kernel) rfl ?_
      refine x_puti hf hs (hs.k k_91) F_Weeks_18 (by decide +kernel) rfl rfl rfl rfl (fun h6 hf hs => ?_)
      refine g_aload_n (i := 0) (by decide +kernel) rfl ?_
      refine g_iload_n (i := 2) (by decide +kernel) rfl ?_
      refine x_puti hf hs (hs.k k_91) F_Weeks_22 (by decide +kernel) rfl rfl rfl rfl (fun h7 hf hs => ?_)
      refine g_aload_n (i := 0) (by decide +kernel) rfl ?_
      refine x_getr (hs.k k_91) F_Weeks_9 (by decide +kernel) rfl (hs.r r_91_3) ?_
      refine g_iconst (z := 0) (v := 0) (by decide +kernel) rfl ?_
      refine g_aload_n (i := 0) (by decide +kernel) rfl ?_
      refine x_getr (hs.k k_91) F_Weeks_15 (by decide +kernel) rfl (hs.r r_91_4) ?_
      refine g_iconst (z := 0) (v := 0) (by decide +kernel) rfl ?_
      refine g_bipush (z := 6) (v := 6) (by decide +kernel) rfl ?_
      refine x_copy hf hs (hs.k k_92) (hs.k k_93) L_Weeks_124 (by decide) (Nat.le_of_ble_eq_true rfl) (by decide +kernel) (fun h8 hf hs => ?_)
      exact x_vret hf hs (by decide +kernel) rfl (Nat.le_refl _) (Nat.le_refl _)
    · refine g_iload_n (i := 2) (by decide +kernel) rfl ?_
      refine g_aload_n (i := 0) (by decide +kernel) rfl ?_
      refine x_geti (hs.k k_91) F_Weeks_22 (by decide +kernel) rfl ?_
      refine x_icmp_ne (off := 35) (tgt := 56) hf (by decide +kernel) (by decide) (fun c9 hf => ?_) (fun c9 hf => ?_)
      · exact x_vret hf hs (by decide +kernel) rfl (Nat.le_refl _) (Nat.le_refl _)
      · refine g_aload_n (i := 0) (by decide +kernel) rfl ?_
        refine x_callVBp (as := []) Vi_Weeks_trialIsFirst Vs_Weeks_trialIsFirst (hs.k k_91) rfl hf (fun q hq => t_Weeks_trialIsFirst hs  hq) Y_Weeks_trialIsFirst L_Weeks_206 (by decide +kernel) rfl rfl (Nat.le_of_ble_eq_true rfl) (by decide) (Nat.le_refl _) (Nat.le_refl _) (fun q10 hf => ?_)
        refine x_ifb_eq (off := 28) (tgt := 56) hf (by decide +kernel) (by decide) (fun c11 hf => ?_) (fun c11 hf => ?_)
        · exact x_vret hf hs (by decide +kernel) rfl (Nat.le_refl _) (Nat.le_refl _)
        · refine g_aload_n (i := 0) (by decide +kernel) rfl ?_
          refine g_iload_n (i := 1) (by decide +kernel) rfl ?_
          refine x_puti hf hs (hs.k k_91) F_Weeks_18 (by decide +kernel) rfl rfl rfl rfl (fun h12 hf hs => ?_)
          refine g_aload_n (i := 0) (by decide +kernel) rfl ?_
          refine g_iload_n (i := 2) (by decide +kernel) rfl ?_
          refine x_puti hf hs (hs.k k_91) F_Weeks_22 (by decide +kernel) rfl rfl rfl rfl (fun h13 hf hs => ?_)
          refine g_aload_n (i := 0) (by decide +kernel) rfl ?_
          refine x_getr (hs.k k_91) F_Weeks_9 (by decide +kernel) rfl (hs.r r_91_3) ?_
          refine g_iconst (z := 0) (v := 0) (by decide +kernel) rfl ?_
          refine g_aload_n (i := 0) (by decide +kernel) rfl ?_
          refine x_getr (hs.k k_91) F_Weeks_15 (by decide +kernel) rfl (hs.r r_91_4) ?_
          refine g_iconst (z := 0) (v := 0) (by decide +kernel) rfl ?_
          refine g_bipush (z := 6) (v := 6) (by decide +kernel) rfl ?_
          refine x_copy hf hs (hs.k k_92) (hs.k k_93) L_Weeks_124 (by decide) (Nat.le_of_ble_eq_true rfl) (by decide +kernel) (fun h14 hf hs => ?_)
          exact x_vret hf hs (by decide +kernel) rfl (Nat.le_refl _) (Nat.le_refl _)
def f_Weeks_weigh_L7 (p1 : Int32) : Nat → Int32 → Int32 → am_H → Option (Int32 × Int32)
  | 0, _, _, _ => none
  | n + 1, v2, v3, h =>
    (if (h.2.1 91 11) ≤ v3 then
      some (v2, v3)
    else
      (f_Weeks_openComes v3 p1 h).bind fun q2 =>
      (if q2 = true then
        f_Weeks_weigh_L7 p1 n (v2 + (1 : Int32)) (v3 + (1 : Int32)) h
      else
        f_Weeks_weigh_L7 p1 n v2 (v3 + (1 : Int32)) h))
set_option maxRecDepth 100000 in
set_option maxHeartbeats 4000000 in
theorem t_Weeks_weigh_L7 {p1 : Int32}  {Q : Option Value → am_H → Prop} : ∀ (n : Nat) (v2 : Int32) (v3 : Int32) (h : am_H) (q : Int32 × Int32), am_Sh h → f_Weeks_weigh_L7 p1 n v2 v3 h = some q → (am_G 4 M_Weeks_weigh 0 0 Q 33 [(0, .ref 91), (1, .int p1), (2, .int q.1), (3, .int q.2)] [] h 0 0) → am_G 4 M_Weeks_weigh 0 0 Q 7 [(0, .ref 91), (1, .int p1), (2, .int v2), (3, .int v3)] [] h 0 0 := by
  intro n
  induction n with
  | zero =>
    intro v2 v3 h q hs hf kont
    rw [f_Weeks_weigh_L7] at hf
    cases hf
  | succ n ih =>
    intro v2 v3 h q hs hf kont
    rw [f_Weeks_weigh_L7] at hf
    refine g_iload_n (i := 3) (by decide +kernel) rfl ?_
    refine g_aload_n (i := 0) (by decide +kernel) rfl ?_
    refine x_geti (hs.k k_91) F_Weeks_38 (by decide +kernel) rfl ?_
    refine x_icmp_ge (off := 21) (tgt := 33) hf (by decide +kernel) (by decide) (fun c1 hf => ?_) (fun c1 hf => ?_)
    · cases hf
      exact am_G.forget (am_subp [0, 1, 2, 3] rfl) kont
    · refine g_aload_n (i := 0) (by decide +kernel) rfl ?_
      refine g_iload_n (i := 3) (by decide +kernel) rfl ?_
      refine g_iload_n (i := 1) (by decide +kernel) rfl ?_
      refine x_callVBp (as := [.int v3, .int p1]) Vi_Weeks_openComes Vs_Weeks_openComes (hs.k k_91) rfl hf (fun q hq => t_Weeks_openComes hs  hq) Y_Weeks_openComes L_Weeks_190 (by decide +kernel) rfl rfl (Nat.le_of_ble_eq_true rfl) (by decide) (Nat.le_refl _) (Nat.le_refl _) (fun q2 hf => ?_)
      refine x_ifb_eq (off := 6) (tgt := 27) hf (by decide +kernel) (by decide) (fun c3 hf => ?_) (fun c3 hf => ?_)
      · refine g_iinc (i := 3) (z := 1) (v := (v3 + (1 : Int32))) (by decide +kernel) rfl rfl rfl (by decide) (ls1 := [(0, .ref 91), (1, .int p1), (2, .int v2), (3, .int (v3 + (1 : Int32)))]) rfl ?_
        refine g_goto (off := (-23)) (tgt := 7) (by decide +kernel) (by decide) ?_
        exact am_G.forget (am_subp [0, 1, 2, 3] rfl) (ih _ _ _ _ hs hf kont)
      · refine g_iinc (i := 2) (z := 1) (v := (v2 + (1 : Int32))) (by decide +kernel) rfl rfl rfl (by decide) (ls1 := [(0, .ref 91), (1, .int p1), (2, .int (v2 + (1 : Int32))), (3, .int v3)]) rfl ?_
        refine g_iinc (i := 3) (z := 1) (v := (v3 + (1 : Int32))) (by decide +kernel) rfl rfl rfl (by decide) (ls1 := [(0, .ref 91), (1, .int p1), (2, .int (v2 + (1 : Int32))), (3, .int (v3 + (1 : Int32)))]) rfl ?_
        refine g_goto (off := (-23)) (tgt := 7) (by decide +kernel) (by decide) ?_
        exact am_G.forget (am_subp [0, 1, 2, 3] rfl) (ih _ _ _ _ hs hf kont)
def f_Weeks_weigh (p1 : Int32) (h : am_H) : Option (am_H) :=
  (f_Weeks_weigh_L7 p1 am_fu (h.2.1 91 12) (0 : Int32) h).bind fun q4 =>
  (if q4.1 < (h.2.1 91 5) then
    some h
  else
    (f_Weeks_movesOf 92 6 h).bind fun q6 =>
    (f_Weeks_keepBetter q4.1 q6 h).bind fun q7 =>
    some q7)
set_option maxRecDepth 100000 in
set_option maxHeartbeats 4000000 in
theorem t_Weeks_weigh {p1 : Int32} {h : am_H} (hs : am_Sh h)  {r : am_H} (hf : f_Weeks_weigh p1 h = some r) : am_Ct 4 M_Weeks_weigh [.ref 91, .int p1] h 0 0 (am_qV r) := by
  unfold f_Weeks_weigh at hf
  refine am_Ct.of (by decide) rfl (Nat.le_of_ble_eq_true rfl) (ls := [(0, .ref 91), (1, .int p1)]) rfl ?_
  refine g_aload_n (i := 0) (by decide +kernel) rfl ?_
  refine x_geti (hs.k k_91) F_Weeks_41 (by decide +kernel) rfl ?_
  refine g_istore_n (i := 2) (by decide +kernel) rfl (by decide) (ls1 := [(0, .ref 91), (1, .int p1), (2, .int (h.2.1 91 12))]) rfl ?_
  refine g_iconst (z := 0) (v := 0) (by decide +kernel) rfl ?_
  refine g_istore_n (i := 3) (by decide +kernel) rfl (by decide) (ls1 := [(0, .ref 91), (1, .int p1), (2, .int (h.2.1 91 12)), (3, .int (0 : Int32))]) rfl ?_
  obtain ⟨q4, hqq4, hf⟩ := Option.bind_eq_some_iff.mp hf
  refine am_G.forget (am_subp [0, 1, 2, 3] rfl) (t_Weeks_weigh_L7  am_fu _ _ _ q4 hs hqq4 ?_)
  refine g_iload_n (i := 2) (by decide +kernel) rfl ?_
  refine g_aload_n (i := 0) (by decide +kernel) rfl ?_
  refine x_geti (hs.k k_91) F_Weeks_18 (by decide +kernel) rfl ?_
  refine x_icmp_lt (off := 16) (tgt := 54) hf (by decide +kernel) (by decide) (fun c5 hf => ?_) (fun c5 hf => ?_)
  · exact x_vret hf hs (by decide +kernel) rfl (Nat.le_refl _) (Nat.le_refl _)
  · refine g_aload_n (i := 0) (by decide +kernel) rfl ?_
    refine g_iload_n (i := 2) (by decide +kernel) rfl ?_
    refine g_aload_n (i := 0) (by decide +kernel) rfl ?_
    refine g_aload_n (i := 0) (by decide +kernel) rfl ?_
    refine x_getr (hs.k k_91) F_Weeks_9 (by decide +kernel) rfl (hs.r r_91_3) ?_
    refine x_callVIp (as := [.ref 92]) Vi_Weeks_movesOf Vs_Weeks_movesOf (hs.k k_91) rfl hf (fun q hq => t_Weeks_movesOf hs k_92 hq) Y_Weeks_movesOf L_Weeks_200 (by decide +kernel) rfl rfl (Nat.le_of_ble_eq_true rfl) (by decide) (Nat.le_refl _) (Nat.le_refl _) (fun q6 hf => ?_)
    refine x_callVV (as := [.int q4.1, .int q6]) Vi_Weeks_keepBetter Vs_Weeks_keepBetter (hs.k k_91) rfl hf (fun q hq => t_Weeks_keepBetter hs  hq) Y_Weeks_keepBetter L_Weeks_203 (by decide +kernel) rfl rfl (Nat.le_of_ble_eq_true rfl) (by decide) (Nat.le_refl _) (Nat.le_refl _) (fun q7 hf hs => ?_)
    exact x_vret hf hs (by decide +kernel) rfl (Nat.le_refl _) (Nat.le_refl _)
def f_Weeks_lost_L4 (p1 : Int32) : Nat → Int32 → Int32 → am_H → Option (Int32 × Int32)
  | 0, _, _, _ => none
  | n + 1, v2, v3, h =>
    (if (h.2.1 91 11) ≤ v3 then
      some (v2, v3)
    else
      (am_rd (h.2.1 94) 5 v3).bind fun x2 =>
      (f_Weeks_hoursLeft x2 h).bind fun q3 =>
      (if p1 < q3 then
        f_Weeks_lost_L4 p1 n v2 (v3 + (1 : Int32)) h
      else
        (am_rd (h.2.1 95) 35 ((p1 * (5 : Int32)) + v3)).bind fun x5 =>
        (am_rd (h.2.1 5) 5 x2).bind fun x6 =>
        (f_Top_hasBit x5 x6 h).bind fun q7 =>
        (if q7 = true then
          f_Weeks_lost_L4 p1 n v2 (v3 + (1 : Int32)) h
        else
          f_Weeks_lost_L4 p1 n (v2 + (1 : Int32)) (v3 + (1 : Int32)) h)))
set_option maxRecDepth 100000 in
set_option maxHeartbeats 4000000 in
theorem t_Weeks_lost_L4 {p1 : Int32}  {Q : Option Value → am_H → Prop} : ∀ (n : Nat) (v2 : Int32) (v3 : Int32) (h : am_H) (q : Int32 × Int32), am_Sh h → f_Weeks_lost_L4 p1 n v2 v3 h = some q → (am_G 2 M_Weeks_lost 0 0 Q 65 [(0, .ref 91), (1, .int p1), (2, .int q.1), (3, .int q.2)] [] h 0 0) → am_G 2 M_Weeks_lost 0 0 Q 4 [(0, .ref 91), (1, .int p1), (2, .int v2), (3, .int v3)] [] h 0 0 := by
  intro n
  induction n with
  | zero =>
    intro v2 v3 h q hs hf kont
    rw [f_Weeks_lost_L4] at hf
    cases hf
  | succ n ih =>
    intro v2 v3 h q hs hf kont
    rw [f_Weeks_lost_L4] at hf
    refine g_iload_n (i := 3) (by decide +kernel) rfl ?_
    refine g_aload_n (i := 0) (by decide +kernel) rfl ?_
    refine x_geti (hs.k k_91) F_Weeks_38 (by decide +kernel) rfl ?_
    refine x_icmp_ge (off := 56) (tgt := 65) hf (by decide +kernel) (by decide) (fun c1 hf => ?_) (fun c1 hf => ?_)
    · cases hf
      exact am_G.forget (am_subp [0, 1, 2, 3] rfl) kont
    · refine g_aload_n (i := 0) (by decide +kernel) rfl ?_
      refine x_getr (hs.k k_91) F_Weeks_35 (by decide +kernel) rfl (hs.r r_91_10) ?_
      refine g_iload_n (i := 3) (by decide +kernel) rfl ?_
      refine x_iald hf (hs.k k_94) (by decide +kernel) (fun x2 hf => ?_)
      refine g_istore (i := 4) (by decide +kernel) rfl (by decide) (ls1 := [(0, .ref 91), (1, .int p1), (2, .int v2), (3, .int v3), (4, .int x2)]) rfl ?_
      refine g_iload_n (i := 1) (by decide +kernel) rfl ?_
      refine g_aload_n (i := 0) (by decide +kernel) rfl ?_
      refine g_iload (i := 4) (by decide +kernel) rfl ?_
      refine x_callVIp (as := [.int x2]) Vi_Weeks_hoursLeft Vs_Weeks_hoursLeft (hs.k k_91) rfl hf (fun q hq => t_Weeks_hoursLeft hs  hq) Y_Weeks_hoursLeft L_Weeks_91 (by decide +kernel) rfl rfl (Nat.le_of_ble_eq_true rfl) (by decide) (Nat.le_refl _) (Nat.le_refl _) (fun q3 hf => ?_)
      refine x_icmp_lt (off := 32) (tgt := 59) hf (by decide +kernel) (by decide) (fun c4 hf => ?_) (fun c4 hf => ?_)
      · refine g_iinc (i := 3) (z := 1) (v := (v3 + (1 : Int32))) (by decide +kernel) rfl rfl rfl (by decide) (ls1 := [(0, .ref 91), (1, .int p1), (2, .int v2), (3, .int (v3 + (1 : Int32))), (4, .int x2)]) rfl ?_
        refine g_goto (off := (-58)) (tgt := 4) (by decide +kernel) (by decide) ?_
        exact am_G.forget (am_subp [0, 1, 2, 3] rfl) (ih _ _ _ _ hs hf kont)
      · refine g_aload_n (i := 0) (by decide +kernel) rfl ?_
        refine x_getr (hs.k k_91) F_Weeks_47 (by decide +kernel) rfl (hs.r r_91_14) ?_
        refine g_iload_n (i := 1) (by decide +kernel) rfl ?_
        refine g_iconst (z := 5) (v := 5) (by decide +kernel) rfl ?_
        refine g_imul (by decide +kernel) ?_
        refine g_iload_n (i := 3) (by decide +kernel) rfl ?_
        refine g_iadd (by decide +kernel) ?_
        refine x_iald hf (hs.k k_95) (by decide +kernel) (fun x5 hf => ?_)
        refine g_aload_n (i := 0) (by decide +kernel) rfl ?_
        refine x_getr (hs.k k_91) F_Weeks_50 (by decide +kernel) rfl (hs.r r_91_0) ?_
        refine x_getr (hs.k k_1) F_Weeks_62 (by decide +kernel) rfl (hs.r r_1_9) ?_
        refine g_iload (i := 4) (by decide +kernel) rfl ?_
        refine x_iald hf (hs.k k_5) (by decide +kernel) (fun x6 hf => ?_)
        refine x_callSNBp (as := [.int x5, .int x6]) St_Top_hasBit hf (fun q hq => t_Top_hasBit hs  hq) Y_Top_hasBit L_Weeks_72 (by decide +kernel) rfl rfl (Nat.le_of_ble_eq_true rfl) (by decide) (Nat.le_refl _) (Nat.le_refl _) (fun q7 hf => ?_)
        refine x_ifb_ne (off := 6) (tgt := 59) hf (by decide +kernel) (by decide) (fun c8 hf => ?_) (fun c8 hf => ?_)
        · refine g_iinc (i := 3) (z := 1) (v := (v3 + (1 : Int32))) (by decide +kernel) rfl rfl rfl (by decide) (ls1 := [(0, .ref 91), (1, .int p1), (2, .int v2), (3, .int (v3 + (1 : Int32))), (4, .int x2)]) rfl ?_
          refine g_goto (off := (-58)) (tgt := 4) (by decide +kernel) (by decide) ?_
          exact am_G.forget (am_subp [0, 1, 2, 3] rfl) (ih _ _ _ _ hs hf kont)
        · refine g_iinc (i := 2) (z := 1) (v := (v2 + (1 : Int32))) (by decide +kernel) rfl rfl rfl (by decide) (ls1 := [(0, .ref 91), (1, .int p1), (2, .int (v2 + (1 : Int32))), (3, .int v3), (4, .int x2)]) rfl ?_
          refine g_iinc (i := 3) (z := 1) (v := (v3 + (1 : Int32))) (by decide +kernel) rfl rfl rfl (by decide) (ls1 := [(0, .ref 91), (1, .int p1), (2, .int (v2 + (1 : Int32))), (3, .int (v3 + (1 : Int32))), (4, .int x2)]) rfl ?_
          refine g_goto (off := (-58)) (tgt := 4) (by decide +kernel) (by decide) ?_
          exact am_G.forget (am_subp [0, 1, 2, 3] rfl) (ih _ _ _ _ hs hf kont)
def f_Weeks_lost (p1 : Int32) (h : am_H) : Option (Int32) :=
  (f_Weeks_lost_L4 p1 am_fu (0 : Int32) (0 : Int32) h).bind fun q9 =>
  some q9.1
set_option maxRecDepth 100000 in
set_option maxHeartbeats 4000000 in
theorem t_Weeks_lost {p1 : Int32} {h : am_H} (hs : am_Sh h)  {r : Int32} (hf : f_Weeks_lost p1 h = some r) : am_Ct 2 M_Weeks_lost [.ref 91, .int p1] h 0 0 (am_pI h r) := by
  unfold f_Weeks_lost at hf
  refine am_Ct.of (by decide) rfl (Nat.le_of_ble_eq_true rfl) (ls := [(0, .ref 91), (1, .int p1)]) rfl ?_
  refine g_iconst (z := 0) (v := 0) (by decide +kernel) rfl ?_
  refine g_istore_n (i := 2) (by decide +kernel) rfl (by decide) (ls1 := [(0, .ref 91), (1, .int p1), (2, .int (0 : Int32))]) rfl ?_
  refine g_iconst (z := 0) (v := 0) (by decide +kernel) rfl ?_
  refine g_istore_n (i := 3) (by decide +kernel) rfl (by decide) (ls1 := [(0, .ref 91), (1, .int p1), (2, .int (0 : Int32)), (3, .int (0 : Int32))]) rfl ?_
  obtain ⟨q9, hqq9, hf⟩ := Option.bind_eq_some_iff.mp hf
  refine am_G.forget (am_subp [0, 1, 2, 3] rfl) (t_Weeks_lost_L4  am_fu _ _ _ q9 hs hqq9 ?_)
  refine g_iload_n (i := 2) (by decide +kernel) rfl ?_
  exact x_iretp hf (by decide +kernel) rfl (Nat.le_refl _) (Nat.le_refl _)
def f_Weeks_stepOpen_L20 (p1 : Int32) (p2 : Int32) : Nat → Int32 → Int32 → am_H → Option (Int32 × am_H)
  | 0, _, _, _ => none
  | n + 1, v3, v4, h =>
    (if (h.2.1 91 11) ≤ v4 then
      some (v4, h)
    else
      (am_rd (h.2.1 94) 5 v4).bind fun x4 =>
      (am_rd (h.2.1 95) 35 ((p1 * (5 : Int32)) + v4)).bind fun x5 =>
      (f_Weeks_hoursLeft x4 h).bind fun q6 =>
      ((if q6 ≤ p1 then
          some x5
        else
          (am_rd (h.2.1 5) 5 x4).bind fun x8 =>
          (f_Top_hasBit x5 x8 h).bind fun q9 =>
          (if q9 = true then
            some x5
          else
            (f_River_row x4 p2 v3 h).bind fun q11 =>
            (am_rd (h.2.1 92) 6 p2).bind fun x12 =>
            (f_River_spread 1 q11 x5 x12 h).bind fun q13 =>
            some q13)) : Option (Int32)).bind fun m14 =>
      (am_wr h 95 35 (((p1 + (1 : Int32)) * (5 : Int32)) + v4) m14).bind fun h15 =>
      f_Weeks_stepOpen_L20 p1 p2 n v3 (v4 + (1 : Int32)) h15)
set_option maxRecDepth 100000 in
set_option maxHeartbeats 4000000 in
theorem t_Weeks_stepOpen_L20 {p1 : Int32} {p2 : Int32}  {Q : Option Value → am_H → Prop} : ∀ (n : Nat) (v3 : Int32) (v4 : Int32) (h : am_H) (q : Int32 × am_H), am_Sh h → f_Weeks_stepOpen_L20 p1 p2 n v3 v4 h = some q → (am_Sh q.2 → am_G 2 M_Weeks_stepOpen 0 0 Q 124 [(0, .ref 91), (1, .int p1), (2, .int p2), (3, .int v3), (4, .int q.1)] [] q.2 0 0) → am_G 2 M_Weeks_stepOpen 0 0 Q 20 [(0, .ref 91), (1, .int p1), (2, .int p2), (3, .int v3), (4, .int v4)] [] h 0 0 := by
  intro n
  induction n with
  | zero =>
    intro v3 v4 h q hs hf kont
    rw [f_Weeks_stepOpen_L20] at hf
    cases hf
  | succ n ih =>
    intro v3 v4 h q hs hf kont
    rw [f_Weeks_stepOpen_L20] at hf
    refine g_iload (i := 4) (by decide +kernel) rfl ?_
    refine g_aload_n (i := 0) (by decide +kernel) rfl ?_
    refine x_geti (hs.k k_91) F_Weeks_38 (by decide +kernel) rfl ?_
    refine x_icmp_ge (off := 98) (tgt := 124) hf (by decide +kernel) (by decide) (fun c3 hf => ?_) (fun c3 hf => ?_)
    · cases hf
      exact am_G.forget (am_subp [0, 1, 2, 3, 4] rfl) (kont hs)
    · refine g_aload_n (i := 0) (by decide +kernel) rfl ?_
      refine x_getr (hs.k k_91) F_Weeks_35 (by decide +kernel) rfl (hs.r r_91_10) ?_
      refine g_iload (i := 4) (by decide +kernel) rfl ?_
      refine x_iald hf (hs.k k_94) (by decide +kernel) (fun x4 hf => ?_)
      refine g_istore (i := 5) (by decide +kernel) rfl (by decide) (ls1 := [(0, .ref 91), (1, .int p1), (2, .int p2), (3, .int v3), (4, .int v4), (5, .int x4)]) rfl ?_
      refine g_aload_n (i := 0) (by decide +kernel) rfl ?_
      refine x_getr (hs.k k_91) F_Weeks_47 (by decide +kernel) rfl (hs.r r_91_14) ?_
      refine g_iload_n (i := 1) (by decide +kernel) rfl ?_
      refine g_iconst (z := 5) (v := 5) (by decide +kernel) rfl ?_
      refine g_imul (by decide +kernel) ?_
      refine g_iload (i := 4) (by decide +kernel) rfl ?_
      refine g_iadd (by decide +kernel) ?_
      refine x_iald hf (hs.k k_95) (by decide +kernel) (fun x5 hf => ?_)
      refine g_istore (i := 6) (by decide +kernel) rfl (by decide) (ls1 := [(0, .ref 91), (1, .int p1), (2, .int p2), (3, .int v3), (4, .int v4), (5, .int x4), (6, .int x5)]) rfl ?_
      refine g_iload_n (i := 1) (by decide +kernel) rfl ?_
      refine g_aload_n (i := 0) (by decide +kernel) rfl ?_
      refine g_iload (i := 5) (by decide +kernel) rfl ?_
      refine x_callVIp (as := [.int x4]) Vi_Weeks_hoursLeft Vs_Weeks_hoursLeft (hs.k k_91) rfl hf (fun q hq => t_Weeks_hoursLeft hs  hq) Y_Weeks_hoursLeft L_Weeks_91 (by decide +kernel) rfl rfl (Nat.le_of_ble_eq_true rfl) (by decide) (Nat.le_refl _) (Nat.le_refl _) (fun q6 hf => ?_)
      obtain ⟨m14, hm103, hf⟩ := Option.bind_eq_some_iff.mp hf
      refine am_cut (J := 103) (ls' := [(0, .ref 91), (1, .int p1), (2, .int p2), (3, .int v3), (4, .int v4), (5, .int x4), (6, .int m14)]) (st' := []) ?_ (fun K103 => ?_)
      · refine g_aload_n (i := 0) (by decide +kernel) rfl ?_
        refine x_getr (hs.k k_91) F_Weeks_47 (by decide +kernel) rfl (hs.r r_91_14) ?_
        refine g_iload_n (i := 1) (by decide +kernel) rfl ?_
        refine g_iconst (z := 1) (v := 1) (by decide +kernel) rfl ?_
        refine g_iadd (by decide +kernel) ?_
        refine g_iconst (z := 5) (v := 5) (by decide +kernel) rfl ?_
        refine g_imul (by decide +kernel) ?_
        refine g_iload (i := 4) (by decide +kernel) rfl ?_
        refine g_iadd (by decide +kernel) ?_
        refine g_iload (i := 6) (by decide +kernel) rfl ?_
        refine x_iast hf hs (hs.k k_95) (by decide +kernel) (fun h15 hf hs => ?_)
        refine g_iinc (i := 4) (z := 1) (v := (v4 + (1 : Int32))) (by decide +kernel) rfl rfl rfl (by decide) (ls1 := [(0, .ref 91), (1, .int p1), (2, .int p2), (3, .int v3), (4, .int (v4 + (1 : Int32))), (5, .int x4), (6, .int m14)]) rfl ?_
        refine g_goto (off := (-101)) (tgt := 20) (by decide +kernel) (by decide) ?_
        exact am_G.forget (am_subp [0, 1, 2, 3, 4] rfl) (ih _ _ _ _ hs hf kont)
      refine x_icmp_ge (off := 45) (tgt := 103) hm103 (by decide +kernel) (by decide) (fun c7 hm103 => ?_) (fun c7 hm103 => ?_)
      · cases hm103
        exact am_G.forget (am_subp [0, 1, 2, 3, 4, 5, 6] rfl) K103
      · refine g_iload (i := 6) (by decide +kernel) rfl ?_
        refine g_aload_n (i := 0) (by decide +kernel) rfl ?_
        refine x_getr (hs.k k_91) F_Weeks_50 (by decide +kernel) rfl (hs.r r_91_0) ?_
        refine x_getr (hs.k k_1) F_Weeks_62 (by decide +kernel) rfl (hs.r r_1_9) ?_
        refine g_iload (i := 5) (by decide +kernel) rfl ?_
        refine x_iald hm103 (hs.k k_5) (by decide +kernel) (fun x8 hm103 => ?_)
        refine x_callSNBp (as := [.int x5, .int x8]) St_Top_hasBit hm103 (fun q hq => t_Top_hasBit hs  hq) Y_Top_hasBit L_Weeks_72 (by decide +kernel) rfl rfl (Nat.le_of_ble_eq_true rfl) (by decide) (Nat.le_refl _) (Nat.le_refl _) (fun q9 hm103 => ?_)
        refine x_ifb_ne (off := 27) (tgt := 103) hm103 (by decide +kernel) (by decide) (fun c10 hm103 => ?_) (fun c10 hm103 => ?_)
        · cases hm103
          exact am_G.forget (am_subp [0, 1, 2, 3, 4, 5, 6] rfl) K103
        · refine g_aload_n (i := 0) (by decide +kernel) rfl ?_
          refine x_getr (hs.k k_91) F_Weeks_50 (by decide +kernel) rfl (hs.r r_91_0) ?_
          refine g_iload (i := 5) (by decide +kernel) rfl ?_
          refine g_iload_n (i := 2) (by decide +kernel) rfl ?_
          refine g_iload_n (i := 3) (by decide +kernel) rfl ?_
          refine x_callSIp (as := [.int x4, .int p2, .int v3]) St_River_row hm103 (fun q hq => t_River_row hs  hq) Y_River_row L_Weeks_196 (by decide +kernel) rfl rfl (Nat.le_of_ble_eq_true rfl) (by decide) (Nat.le_refl _) (Nat.le_refl _) (fun q11 hm103 => ?_)
          refine g_iload (i := 6) (by decide +kernel) rfl ?_
          refine g_aload_n (i := 0) (by decide +kernel) rfl ?_
          refine x_getr (hs.k k_91) F_Weeks_9 (by decide +kernel) rfl (hs.r r_91_3) ?_
          refine g_iload_n (i := 2) (by decide +kernel) rfl ?_
          refine x_iald hm103 (hs.k k_92) (by decide +kernel) (fun x12 hm103 => ?_)
          refine x_callVIp (as := [.int q11, .int x5, .int x12]) Vi_River_spread Vs_River_spread (hs.k k_1) rfl hm103 (fun q hq => t_River_spread hs (by decide) hq) Y_River_spread L_Weeks_173 (by decide +kernel) rfl rfl (Nat.le_of_ble_eq_true rfl) (by decide) (Nat.le_refl _) (Nat.le_refl _) (fun q13 hm103 => ?_)
          refine g_istore (i := 6) (by decide +kernel) rfl (by decide) (ls1 := [(0, .ref 91), (1, .int p1), (2, .int p2), (3, .int v3), (4, .int v4), (5, .int x4), (6, .int q13)]) rfl ?_
          cases hm103
          exact am_G.forget (am_subp [0, 1, 2, 3, 4, 5, 6] rfl) K103
def f_Weeks_stepOpen (p1 : Int32) (p2 : Int32) (h : am_H) : Option (am_H) :=
  am_let (if (h.2.1 10 1) ≤ p1 then (0 : Int32) else (1 : Int32)) fun y2 =>
  (f_Weeks_stepOpen_L20 p1 p2 am_fu y2 (0 : Int32) h).bind fun q16 =>
  some q16.2
set_option maxRecDepth 100000 in
set_option maxHeartbeats 4000000 in
theorem t_Weeks_stepOpen {p1 : Int32} {p2 : Int32} {h : am_H} (hs : am_Sh h)  {r : am_H} (hf : f_Weeks_stepOpen p1 p2 h = some r) : am_Ct 2 M_Weeks_stepOpen [.ref 91, .int p1, .int p2] h 0 0 (am_qV r) := by
  unfold f_Weeks_stepOpen at hf
  refine am_Ct.of (by decide) rfl (Nat.le_of_ble_eq_true rfl) (ls := [(0, .ref 91), (1, .int p1), (2, .int p2)]) rfl ?_
  refine g_iload_n (i := 1) (by decide +kernel) rfl ?_
  refine g_aload_n (i := 0) (by decide +kernel) rfl ?_
  refine x_getr (hs.k k_91) F_Weeks_54 (by decide +kernel) rfl (hs.r r_91_1) ?_
  refine x_geti (hs.k k_10) F_Weeks_193 (by decide +kernel) rfl ?_
  refine am_cut (J := 16) (ls' := [(0, .ref 91), (1, .int p1), (2, .int p2)]) (st' := [.int (if (h.2.1 10 1) ≤ p1 then (0 : Int32) else (1 : Int32))]) ?_ (fun K16 => ?_)
  · refine x_nmI hf (fun y2 hf => ?_)
    refine g_istore_n (i := 3) (by decide +kernel) rfl (by decide) (ls1 := [(0, .ref 91), (1, .int p1), (2, .int p2), (3, .int y2)]) rfl ?_
    refine g_iconst (z := 0) (v := 0) (by decide +kernel) rfl ?_
    refine g_istore (i := 4) (by decide +kernel) rfl (by decide) (ls1 := [(0, .ref 91), (1, .int p1), (2, .int p2), (3, .int y2), (4, .int (0 : Int32))]) rfl ?_
    obtain ⟨q16, hqq16, hf⟩ := Option.bind_eq_some_iff.mp hf
    refine am_G.forget (am_subp [0, 1, 2, 3, 4] rfl) (t_Weeks_stepOpen_L20  am_fu _ _ _ q16 hs hqq16 (fun hs => ?_))
    exact x_vret hf hs (by decide +kernel) rfl (Nat.le_refl _) (Nat.le_refl _)
  refine p_icmp_ge (off := 7) (tgt := 15) (by decide +kernel) (by decide) (fun c1 => ?_) (fun c1 => ?_)
  · refine g_iconst (z := 0) (v := 0) (by decide +kernel) rfl ?_
    have K1 := K16
    simp only [if_pos c1] at K1
    exact am_G.forget (am_subp [0, 1, 2] rfl) K1
  · refine g_iconst (z := 1) (v := 1) (by decide +kernel) rfl ?_
    refine g_goto (off := 4) (tgt := 16) (by decide +kernel) (by decide) ?_
    have K1 := K16
    simp only [if_neg c1] at K1
    exact am_G.forget (am_subp [0, 1, 2] rfl) K1
def am_M_Tb (t : Nat) : am_M := match t with
  | _ => M_Weeks_tryBest
def f_Weeks_tryBest_L59 (rec : Nat → Int32 → am_H → Option (am_H)) (p1 : Int32) : Nat → Int32 → Int32 → am_H → Option (Int32 × am_H)
  | 0, _, _, _ => none
  | n + 1, v2, v3, h =>
    (if (h.2.1 1 0) ≤ v3 then
      some (v3, h)
    else
      (am_wr h 92 6 v2 v3).bind fun h6 =>
      (f_Weeks_stepOpen p1 v2 h6).bind fun q7 =>
      (rec 0 (p1 + (1 : Int32)) q7).bind fun q8 =>
      f_Weeks_tryBest_L59 rec p1 n v2 (v3 + (1 : Int32)) q8)
set_option maxRecDepth 100000 in
set_option maxHeartbeats 4000000 in
theorem t_Weeks_tryBest_L59 {rec : Nat → Int32 → am_H → Option (am_H)} {e : Nat} (hrec : ∀ (t : Nat) (a0 : Int32) (h : am_H), am_Sh h → ∀ q, rec t a0 h = some q → am_Ct e (am_M_Tb t) [.ref 91, .int a0] h 0 0 (am_qV q)) (he : 5 ≤ e) {p1 : Int32}  {Q : Option Value → am_H → Prop} : ∀ (n : Nat) (v2 : Int32) (v3 : Int32) (h : am_H) (q : Int32 × am_H), am_Sh h → f_Weeks_tryBest_L59 rec p1 n v2 v3 h = some q → (am_Sh q.2 → am_G (e + 1) M_Weeks_tryBest 0 0 Q 96 [(0, .ref 91), (1, .int p1), (2, .int v2), (3, .int q.1)] [] q.2 0 0) → am_G (e + 1) M_Weeks_tryBest 0 0 Q 59 [(0, .ref 91), (1, .int p1), (2, .int v2), (3, .int v3)] [] h 0 0 := by
  intro n
  induction n with
  | zero =>
    intro v2 v3 h q hs hf kont
    rw [f_Weeks_tryBest_L59] at hf
    cases hf
  | succ n ih =>
    intro v2 v3 h q hs hf kont
    rw [f_Weeks_tryBest_L59] at hf
    refine g_iload_n (i := 3) (by decide +kernel) rfl ?_
    refine g_aload_n (i := 0) (by decide +kernel) rfl ?_
    refine x_getr (hs.k k_91) F_Weeks_50 (by decide +kernel) rfl (hs.r r_91_0) ?_
    refine x_geti (hs.k k_1) F_Weeks_130 (by decide +kernel) rfl ?_
    refine x_icmp_ge (off := 29) (tgt := 96) hf (by decide +kernel) (by decide) (fun c5 hf => ?_) (fun c5 hf => ?_)
    · cases hf
      exact am_G.forget (am_subp [0, 1, 2, 3] rfl) (kont hs)
    · refine g_aload_n (i := 0) (by decide +kernel) rfl ?_
      refine x_getr (hs.k k_91) F_Weeks_9 (by decide +kernel) rfl (hs.r r_91_3) ?_
      refine g_iload_n (i := 2) (by decide +kernel) rfl ?_
      refine g_iload_n (i := 3) (by decide +kernel) rfl ?_
      refine x_iast hf hs (hs.k k_92) (by decide +kernel) (fun h6 hf hs => ?_)
      refine g_aload_n (i := 0) (by decide +kernel) rfl ?_
      refine g_iload_n (i := 1) (by decide +kernel) rfl ?_
      refine g_iload_n (i := 2) (by decide +kernel) rfl ?_
      refine x_callVV (as := [.int p1, .int v2]) Vi_Weeks_stepOpen Vs_Weeks_stepOpen (hs.k k_91) rfl hf (fun q hq => t_Weeks_stepOpen hs  hq) Y_Weeks_stepOpen L_Weeks_180 (by decide +kernel) rfl rfl (Nat.le_of_ble_eq_true rfl) (by omega) (Nat.le_refl _) (Nat.le_refl _) (fun q7 hf hs => ?_)
      refine g_aload_n (i := 0) (by decide +kernel) rfl ?_
      refine g_iload_n (i := 1) (by decide +kernel) rfl ?_
      refine g_iconst (z := 1) (v := 1) (by decide +kernel) rfl ?_
      refine g_iadd (by decide +kernel) ?_
      refine x_callVV (as := [.int (p1 + (1 : Int32))]) Vi_Weeks_tryBest Vs_Weeks_tryBest (hs.k k_91) rfl hf (fun q hq => hrec 0 _ _ hs q hq) Y_Weeks_tryBest L_Weeks_161 (by decide +kernel) rfl rfl (Nat.le_of_ble_eq_true rfl) (by omega) (Nat.le_refl _) (Nat.le_refl _) (fun q8 hf hs => ?_)
      refine g_iinc (i := 3) (z := 1) (v := (v3 + (1 : Int32))) (by decide +kernel) rfl rfl rfl (by decide) (ls1 := [(0, .ref 91), (1, .int p1), (2, .int v2), (3, .int (v3 + (1 : Int32)))]) rfl ?_
      refine g_goto (off := (-34)) (tgt := 59) (by decide +kernel) (by decide) ?_
      exact am_G.forget (am_subp [0, 1, 2, 3] rfl) (ih _ _ _ _ hs hf kont)
def b_Weeks_tryBest (rec : Nat → Int32 → am_H → Option (am_H)) (p1 : Int32) (h : am_H) : Option (am_H) :=
  (f_Weeks_lost p1 h).bind fun q1 =>
  (if (h.2.1 91 5) ≤ (((h.2.1 91 12) + (h.2.1 91 11)) - q1) then
    (if p1 < (h.2.1 1 1) then
      (f_River_hourOfWeek 1 ((h.2.1 10 0) + p1) h).bind fun q4 =>
      (f_Weeks_tryBest_L59 rec p1 am_fu q4 (0 : Int32) h).bind fun q9 =>
      some q9.2
    else
      (f_Weeks_weigh p1 h).bind fun q10 =>
      some q10)
  else
    some h)
set_option maxRecDepth 100000 in
set_option maxHeartbeats 4000000 in
theorem tb_Weeks_tryBest {rec : Nat → Int32 → am_H → Option (am_H)} {e : Nat} (hrec : ∀ (t : Nat) (a0 : Int32) (h : am_H), am_Sh h → ∀ q, rec t a0 h = some q → am_Ct e (am_M_Tb t) [.ref 91, .int a0] h 0 0 (am_qV q)) (he : 5 ≤ e) {p1 : Int32} {h : am_H} (hs : am_Sh h)  {r : am_H} (hf : b_Weeks_tryBest rec p1 h = some r) : am_Ct (e + 1) M_Weeks_tryBest [.ref 91, .int p1] h 0 0 (am_qV r) := by
  unfold b_Weeks_tryBest at hf
  refine am_Ct.of (by decide) rfl (Nat.le_of_ble_eq_true rfl) (ls := [(0, .ref 91), (1, .int p1)]) rfl ?_
  refine g_aload_n (i := 0) (by decide +kernel) rfl ?_
  refine x_geti (hs.k k_91) F_Weeks_41 (by decide +kernel) rfl ?_
  refine g_aload_n (i := 0) (by decide +kernel) rfl ?_
  refine x_geti (hs.k k_91) F_Weeks_38 (by decide +kernel) rfl ?_
  refine g_iadd (by decide +kernel) ?_
  refine g_aload_n (i := 0) (by decide +kernel) rfl ?_
  refine g_iload_n (i := 1) (by decide +kernel) rfl ?_
  refine x_callVIp (as := [.int p1]) Vi_Weeks_lost Vs_Weeks_lost (hs.k k_91) rfl hf (fun q hq => t_Weeks_lost hs  hq) Y_Weeks_lost L_Weeks_177 (by decide +kernel) rfl rfl (Nat.le_of_ble_eq_true rfl) (by omega) (Nat.le_refl _) (Nat.le_refl _) (fun q1 hf => ?_)
  refine g_isub (by decide +kernel) ?_
  refine g_aload_n (i := 0) (by decide +kernel) rfl ?_
  refine x_geti (hs.k k_91) F_Weeks_18 (by decide +kernel) rfl ?_
  refine x_icmp_ge (off := 4) (tgt := 23) hf (by decide +kernel) (by decide) (fun c2 hf => ?_) (fun c2 hf => ?_)
  · refine g_iload_n (i := 1) (by decide +kernel) rfl ?_
    refine g_aload_n (i := 0) (by decide +kernel) rfl ?_
    refine x_getr (hs.k k_91) F_Weeks_50 (by decide +kernel) rfl (hs.r r_91_0) ?_
    refine x_geti (hs.k k_1) F_Weeks_121 (by decide +kernel) rfl ?_
    refine x_icmp_lt (off := 9) (tgt := 40) hf (by decide +kernel) (by decide) (fun c3 hf => ?_) (fun c3 hf => ?_)
    · refine g_aload_n (i := 0) (by decide +kernel) rfl ?_
      refine x_getr (hs.k k_91) F_Weeks_50 (by decide +kernel) rfl (hs.r r_91_0) ?_
      refine g_aload_n (i := 0) (by decide +kernel) rfl ?_
      refine x_getr (hs.k k_91) F_Weeks_54 (by decide +kernel) rfl (hs.r r_91_1) ?_
      refine x_geti (hs.k k_10) F_Weeks_79 (by decide +kernel) rfl ?_
      refine g_iload_n (i := 1) (by decide +kernel) rfl ?_
      refine g_iadd (by decide +kernel) ?_
      refine x_callVIp (as := [.int ((h.2.1 10 0) + p1)]) Vi_River_hourOfWeek Vs_River_hourOfWeek (hs.k k_1) rfl hf (fun q hq => t_River_hourOfWeek hs (by decide) hq) Y_River_hourOfWeek L_Weeks_145 (by decide +kernel) rfl rfl (Nat.le_of_ble_eq_true rfl) (by omega) (Nat.le_refl _) (Nat.le_refl _) (fun q4 hf => ?_)
      refine g_istore_n (i := 2) (by decide +kernel) rfl (by decide) (ls1 := [(0, .ref 91), (1, .int p1), (2, .int q4)]) rfl ?_
      refine g_iconst (z := 0) (v := 0) (by decide +kernel) rfl ?_
      refine g_istore_n (i := 3) (by decide +kernel) rfl (by decide) (ls1 := [(0, .ref 91), (1, .int p1), (2, .int q4), (3, .int (0 : Int32))]) rfl ?_
      obtain ⟨q9, hqq9, hf⟩ := Option.bind_eq_some_iff.mp hf
      refine am_G.forget (am_subp [0, 1, 2, 3] rfl) (t_Weeks_tryBest_L59 hrec he  am_fu _ _ _ q9 hs hqq9 (fun hs => ?_))
      exact x_vret hf hs (by decide +kernel) rfl (Nat.le_refl _) (Nat.le_refl _)
    · refine g_aload_n (i := 0) (by decide +kernel) rfl ?_
      refine g_iload_n (i := 1) (by decide +kernel) rfl ?_
      refine x_callVV (as := [.int p1]) Vi_Weeks_weigh Vs_Weeks_weigh (hs.k k_91) rfl hf (fun q hq => t_Weeks_weigh hs  hq) Y_Weeks_weigh L_Weeks_157 (by decide +kernel) rfl rfl (Nat.le_of_ble_eq_true rfl) (by omega) (Nat.le_refl _) (Nat.le_refl _) (fun q10 hf hs => ?_)
      exact x_vret hf hs (by decide +kernel) rfl (Nat.le_refl _) (Nat.le_refl _)
  · exact x_vret hf hs (by decide +kernel) rfl (Nat.le_refl _) (Nat.le_refl _)
def f_Tb : Nat → Nat → Int32 → am_H → Option (am_H)
  | 0, _, _, _ => none
  | n + 1, t, a0, h => match t with
    | _ => b_Weeks_tryBest (f_Tb n) a0 h
theorem t_Tb : ∀ (n t : Nat) (a0 : Int32) (h : am_H), am_Sh h → ∀ q, f_Tb n t a0 h = some q → am_Ct (5 + n) (am_M_Tb t) [.ref 91, .int a0] h 0 0 (am_qV q)
  | 0, t, a0, h, hs, q, hq => by
    rw [f_Tb] at hq
    cases hq
  | n + 1, t, a0, h, hs, q, hq => by
    have hrec := t_Tb n
    match t, hq with
    | _ + 0, hq => exact tb_Weeks_tryBest hrec (by omega) hs hq
def f_Weeks_tryBest (a0 : Int32) (h : am_H) : Option (am_H) := f_Tb 60 0 a0 h
theorem t_Weeks_tryBest {a0 : Int32} {h : am_H} (hs : am_Sh h) {r : am_H} (hf : f_Weeks_tryBest a0 h = some r) : am_Ct 65 M_Weeks_tryBest [.ref 91, .int a0] h 0 0 (am_qV r) := t_Tb 60 0 a0 h hs r hf
def f_Weeks_findBest_L19  : Nat → Int32 → am_H → Option (Int32 × am_H)
  | 0, _, _ => none
  | n + 1, v1, h =>
    (if (h.2.1 1 0) ≤ v1 then
      some (v1, h)
    else
      (f_Arrays_fill 92 6 v1 h).bind fun q5 =>
      (f_Weeks_weigh (0 : Int32) q5).bind fun q6 =>
      f_Weeks_findBest_L19  n (v1 + (1 : Int32)) q6)
set_option maxRecDepth 100000 in
set_option maxHeartbeats 4000000 in
theorem t_Weeks_findBest_L19   {Q : Option Value → am_H → Prop} : ∀ (n : Nat) (v1 : Int32) (h : am_H) (q : Int32 × am_H), am_Sh h → f_Weeks_findBest_L19  n v1 h = some q → (am_Sh q.2 → am_G 66 M_Weeks_findBest 0 0 Q 49 [(0, .ref 91), (1, .int q.1)] [] q.2 0 0) → am_G 66 M_Weeks_findBest 0 0 Q 19 [(0, .ref 91), (1, .int v1)] [] h 0 0 := by
  intro n
  induction n with
  | zero =>
    intro v1 h q hs hf kont
    rw [f_Weeks_findBest_L19] at hf
    cases hf
  | succ n ih =>
    intro v1 h q hs hf kont
    rw [f_Weeks_findBest_L19] at hf
    refine g_iload_n (i := 1) (by decide +kernel) rfl ?_
    refine g_aload_n (i := 0) (by decide +kernel) rfl ?_
    refine x_getr (hs.k k_91) F_Weeks_50 (by decide +kernel) rfl (hs.r r_91_0) ?_
    refine x_geti (hs.k k_1) F_Weeks_130 (by decide +kernel) rfl ?_
    refine x_icmp_ge (off := 22) (tgt := 49) hf (by decide +kernel) (by decide) (fun c4 hf => ?_) (fun c4 hf => ?_)
    · cases hf
      exact am_G.forget (am_subp [0, 1] rfl) (kont hs)
    · refine g_aload_n (i := 0) (by decide +kernel) rfl ?_
      refine x_getr (hs.k k_91) F_Weeks_9 (by decide +kernel) rfl (hs.r r_91_3) ?_
      refine g_iload_n (i := 1) (by decide +kernel) rfl ?_
      refine x_callSV (as := [.ref 92, .int v1]) St_Arrays_fill hf (fun q hq => t_Arrays_fill hs k_92 hq) Y_Arrays_fill L_Weeks_151 (by decide +kernel) rfl rfl (Nat.le_of_ble_eq_true rfl) (by decide) (Nat.le_refl _) (Nat.le_refl _) (fun q5 hf hs => ?_)
      refine g_aload_n (i := 0) (by decide +kernel) rfl ?_
      refine g_iconst (z := 0) (v := 0) (by decide +kernel) rfl ?_
      refine x_callVV (as := [.int (0 : Int32)]) Vi_Weeks_weigh Vs_Weeks_weigh (hs.k k_91) rfl hf (fun q hq => t_Weeks_weigh hs  hq) Y_Weeks_weigh L_Weeks_157 (by decide +kernel) rfl rfl (Nat.le_of_ble_eq_true rfl) (by decide) (Nat.le_refl _) (Nat.le_refl _) (fun q6 hf hs => ?_)
      refine g_iinc (i := 1) (z := 1) (v := (v1 + (1 : Int32))) (by decide +kernel) rfl rfl rfl (by decide) (ls1 := [(0, .ref 91), (1, .int (v1 + (1 : Int32)))]) rfl ?_
      refine g_goto (off := (-27)) (tgt := 19) (by decide +kernel) (by decide) ?_
      exact am_G.forget (am_subp [0, 1] rfl) (ih _ _ _ hs hf kont)
def f_Weeks_findBest  (h : am_H) : Option (am_H) :=
  (if (h.2.1 91 8) = 0 then
    (f_Weeks_sortPeople  h).bind fun q2 =>
    am_let (am_sI q2 91 5 (-1 : Int32)) fun h3 =>
    (f_Weeks_findBest_L19  am_fu (0 : Int32) h3).bind fun q7 =>
    ((if ((q7.2.2.1 91 12) + (q7.2.2.1 91 11)) ≤ (q7.2.2.1 91 5) then
        some q7.2
      else
        (f_Weeks_tryBest (0 : Int32) q7.2).bind fun q9 =>
        some q9) : Option (am_H)).bind fun m10 =>
    am_let (am_sI m10 91 8 (1 : Int32)) fun h11 =>
    some h11
  else
    some h)
set_option maxRecDepth 100000 in
set_option maxHeartbeats 4000000 in
theorem t_Weeks_findBest  {h : am_H} (hs : am_Sh h)  {r : am_H} (hf : f_Weeks_findBest  h = some r) : am_Ct 66 M_Weeks_findBest [.ref 91] h 0 0 (am_qV r) := by
  unfold f_Weeks_findBest at hf
  refine am_Ct.of (by decide) rfl (Nat.le_of_ble_eq_true rfl) (ls := [(0, .ref 91)]) rfl ?_
  refine g_aload_n (i := 0) (by decide +kernel) rfl ?_
  refine x_geti (hs.k k_91) F_Weeks_28 (by decide +kernel) rfl ?_
  refine x_if_eq (off := 4) (tgt := 8) hf (by decide +kernel) (by decide) (fun c1 hf => ?_) (fun c1 hf => ?_)
  · refine g_aload_n (i := 0) (by decide +kernel) rfl ?_
    refine x_callVV (as := []) Vi_Weeks_sortPeople Vs_Weeks_sortPeople (hs.k k_91) rfl hf (fun q hq => t_Weeks_sortPeople hs  hq) Y_Weeks_sortPeople L_Weeks_148 (by decide +kernel) rfl rfl (Nat.le_of_ble_eq_true rfl) (by decide) (Nat.le_refl _) (Nat.le_refl _) (fun q2 hf hs => ?_)
    refine g_aload_n (i := 0) (by decide +kernel) rfl ?_
    refine g_iconst (z := (-1)) (v := (-1)) (by decide +kernel) rfl ?_
    refine x_puti hf hs (hs.k k_91) F_Weeks_18 (by decide +kernel) rfl rfl rfl rfl (fun h3 hf hs => ?_)
    refine g_iconst (z := 0) (v := 0) (by decide +kernel) rfl ?_
    refine g_istore_n (i := 1) (by decide +kernel) rfl (by decide) (ls1 := [(0, .ref 91), (1, .int (0 : Int32))]) rfl ?_
    obtain ⟨q7, hqq7, hf⟩ := Option.bind_eq_some_iff.mp hf
    refine am_G.forget (am_subp [0, 1] rfl) (t_Weeks_findBest_L19  am_fu _ _ q7 hs hqq7 (fun hs => ?_))
    refine g_aload_n (i := 0) (by decide +kernel) rfl ?_
    refine x_geti (hs.k k_91) F_Weeks_18 (by decide +kernel) rfl ?_
    refine g_aload_n (i := 0) (by decide +kernel) rfl ?_
    refine x_geti (hs.k k_91) F_Weeks_41 (by decide +kernel) rfl ?_
    refine g_aload_n (i := 0) (by decide +kernel) rfl ?_
    refine x_geti (hs.k k_91) F_Weeks_38 (by decide +kernel) rfl ?_
    refine g_iadd (by decide +kernel) ?_
    obtain ⟨m10, hm70, hf⟩ := Option.bind_eq_some_iff.mp hf
    refine am_cutS (J := 70) (ls' := [(0, .ref 91), (1, .int q7.1)]) (st' := []) (h' := m10) (fun hs => ?_) (fun K70 => ?_)
    · refine g_aload_n (i := 0) (by decide +kernel) rfl ?_
      refine g_iconst (z := 1) (v := 1) (by decide +kernel) rfl ?_
      refine x_puti hf hs (hs.k k_91) F_Weeks_28 (by decide +kernel) rfl rfl rfl rfl (fun h11 hf hs => ?_)
      exact x_vret hf hs (by decide +kernel) rfl (Nat.le_refl _) (Nat.le_refl _)
    refine x_icmp_ge (off := 8) (tgt := 70) hm70 (by decide +kernel) (by decide) (fun c8 hm70 => ?_) (fun c8 hm70 => ?_)
    · cases hm70
      exact am_G.forget (am_subp [0, 1] rfl) (K70 hs)
    · refine g_aload_n (i := 0) (by decide +kernel) rfl ?_
      refine g_iconst (z := 0) (v := 0) (by decide +kernel) rfl ?_
      refine x_callVV (as := [.int (0 : Int32)]) Vi_Weeks_tryBest Vs_Weeks_tryBest (hs.k k_91) rfl hm70 (fun q hq => t_Weeks_tryBest hs  hq) Y_Weeks_tryBest L_Weeks_161 (by decide +kernel) rfl rfl (Nat.le_of_ble_eq_true rfl) (by decide) (Nat.le_refl _) (Nat.le_refl _) (fun q9 hm70 hs => ?_)
      cases hm70
      exact am_G.forget (am_subp [0, 1] rfl) (K70 hs)
  · exact x_vret hf hs (by decide +kernel) rfl (Nat.le_refl _) (Nat.le_refl _)
def f_Top_best (p1 : Int32) (h : am_H) : Option (Int32 × am_H) :=
  ((if p1 < (10 : Int32) then
      some (0 : Int32)
    else
      (f_River_hasHour 1 (p1 - (10 : Int32)) h).bind fun q2 =>
      (if q2 = true then
        some (1 : Int32)
      else
        some (0 : Int32))) : Option (Int32)).bind fun m4 =>
  (if p1 = 0 then
    (f_Weeks_findBest  h).bind fun q6 =>
    (if m4 = 0 then
      (if p1 = 0 then
        some ((q6.2.1 91 5), q6)
      else
        some ((q6.2.1 91 6), q6))
    else
      (am_rd (q6.2.1 93) 6 (p1 - (10 : Int32))).bind fun x9 =>
      some (x9, q6))
  else
    (if p1 = (1 : Int32) then
      (f_Weeks_findBest  h).bind fun q11 =>
      (if m4 = 0 then
        (if p1 = 0 then
          some ((q11.2.1 91 5), q11)
        else
          some ((q11.2.1 91 6), q11))
      else
        (am_rd (q11.2.1 93) 6 (p1 - (10 : Int32))).bind fun x14 =>
        some (x14, q11))
    else
      (if m4 = 0 then
        some ((-2 : Int32), h)
      else
        (f_Weeks_findBest  h).bind fun q16 =>
        (if m4 = 0 then
          (if p1 = 0 then
            some ((q16.2.1 91 5), q16)
          else
            some ((q16.2.1 91 6), q16))
        else
          (am_rd (q16.2.1 93) 6 (p1 - (10 : Int32))).bind fun x19 =>
          some (x19, q16)))))
set_option maxRecDepth 100000 in
set_option maxHeartbeats 4000000 in
theorem t_Top_best {p1 : Int32} {h : am_H} (hs : am_Sh h)  {r : Int32 × am_H} (hf : f_Top_best p1 h = some r) : am_Ct 67 M_Top_best [.ref 0, .int p1] h 0 0 (am_qI r) := by
  unfold f_Top_best at hf
  refine am_Ct.of (by decide) rfl (Nat.le_of_ble_eq_true rfl) (ls := [(0, .ref 0), (1, .int p1)]) rfl ?_
  refine g_iload_n (i := 1) (by decide +kernel) rfl ?_
  refine g_bipush (z := 10) (v := 10) (by decide +kernel) rfl ?_
  obtain ⟨m4, hm25, hf⟩ := Option.bind_eq_some_iff.mp hf
  refine am_cut (J := 25) (ls' := [(0, .ref 0), (1, .int p1)]) (st' := [.int m4]) ?_ (fun K25 => ?_)
  · refine g_istore_n (i := 2) (by decide +kernel) rfl (by decide) (ls1 := [(0, .ref 0), (1, .int p1), (2, .int m4)]) rfl ?_
    refine g_iload_n (i := 1) (by decide +kernel) rfl ?_
    refine x_if_eq (off := 15) (tgt := 42) hf (by decide +kernel) (by decide) (fun c5 hf => ?_) (fun c5 hf => ?_)
    · refine g_aload_n (i := 0) (by decide +kernel) rfl ?_
      refine x_getr (hs.k k_0) F_Top_72 (by decide +kernel) rfl (hs.r r_0_10) ?_
      refine x_callVV (as := []) Vi_Weeks_findBest Vs_Weeks_findBest (hs.k k_91) rfl hf (fun q hq => t_Weeks_findBest hs  hq) Y_Weeks_findBest L_Top_273 (by decide +kernel) rfl rfl (Nat.le_of_ble_eq_true rfl) (by decide) (Nat.le_refl _) (Nat.le_refl _) (fun q6 hf hs => ?_)
      refine g_iload_n (i := 2) (by decide +kernel) rfl ?_
      refine x_if_eq (off := 16) (tgt := 66) hf (by decide +kernel) (by decide) (fun c7 hf => ?_) (fun c7 hf => ?_)
      · refine g_iload_n (i := 1) (by decide +kernel) rfl ?_
        refine x_if_ne (off := 13) (tgt := 80) hf (by decide +kernel) (by decide) (fun c8 hf => ?_) (fun c8 hf => ?_)
        · refine g_aload_n (i := 0) (by decide +kernel) rfl ?_
          refine x_getr (hs.k k_0) F_Top_72 (by decide +kernel) rfl (hs.r r_0_10) ?_
          refine x_geti (hs.k k_91) F_Top_282 (by decide +kernel) rfl ?_
          exact x_iret hf hs (by decide +kernel) rfl (Nat.le_refl _) (Nat.le_refl _)
        · refine g_aload_n (i := 0) (by decide +kernel) rfl ?_
          refine x_getr (hs.k k_0) F_Top_72 (by decide +kernel) rfl (hs.r r_0_10) ?_
          refine x_geti (hs.k k_91) F_Top_279 (by decide +kernel) rfl ?_
          refine g_goto (off := 10) (tgt := 87) (by decide +kernel) (by decide) ?_
          exact x_iret hf hs (by decide +kernel) rfl (Nat.le_refl _) (Nat.le_refl _)
      · refine g_aload_n (i := 0) (by decide +kernel) rfl ?_
        refine x_getr (hs.k k_0) F_Top_72 (by decide +kernel) rfl (hs.r r_0_10) ?_
        refine x_getr (hs.k k_91) F_Top_276 (by decide +kernel) rfl (hs.r r_91_4) ?_
        refine g_iload_n (i := 1) (by decide +kernel) rfl ?_
        refine g_bipush (z := 10) (v := 10) (by decide +kernel) rfl ?_
        refine g_isub (by decide +kernel) ?_
        refine x_iald hf (hs.k k_93) (by decide +kernel) (fun x9 hf => ?_)
        exact x_iret hf hs (by decide +kernel) rfl (Nat.le_refl _) (Nat.le_refl _)
    · refine g_iload_n (i := 1) (by decide +kernel) rfl ?_
      refine g_iconst (z := 1) (v := 1) (by decide +kernel) rfl ?_
      refine x_icmp_eq (off := 10) (tgt := 42) hf (by decide +kernel) (by decide) (fun c10 hf => ?_) (fun c10 hf => ?_)
      · refine g_aload_n (i := 0) (by decide +kernel) rfl ?_
        refine x_getr (hs.k k_0) F_Top_72 (by decide +kernel) rfl (hs.r r_0_10) ?_
        refine x_callVV (as := []) Vi_Weeks_findBest Vs_Weeks_findBest (hs.k k_91) rfl hf (fun q hq => t_Weeks_findBest hs  hq) Y_Weeks_findBest L_Top_273 (by decide +kernel) rfl rfl (Nat.le_of_ble_eq_true rfl) (by decide) (Nat.le_refl _) (Nat.le_refl _) (fun q11 hf hs => ?_)
        refine g_iload_n (i := 2) (by decide +kernel) rfl ?_
        refine x_if_eq (off := 16) (tgt := 66) hf (by decide +kernel) (by decide) (fun c12 hf => ?_) (fun c12 hf => ?_)
        · refine g_iload_n (i := 1) (by decide +kernel) rfl ?_
          refine x_if_ne (off := 13) (tgt := 80) hf (by decide +kernel) (by decide) (fun c13 hf => ?_) (fun c13 hf => ?_)
          · refine g_aload_n (i := 0) (by decide +kernel) rfl ?_
            refine x_getr (hs.k k_0) F_Top_72 (by decide +kernel) rfl (hs.r r_0_10) ?_
            refine x_geti (hs.k k_91) F_Top_282 (by decide +kernel) rfl ?_
            exact x_iret hf hs (by decide +kernel) rfl (Nat.le_refl _) (Nat.le_refl _)
          · refine g_aload_n (i := 0) (by decide +kernel) rfl ?_
            refine x_getr (hs.k k_0) F_Top_72 (by decide +kernel) rfl (hs.r r_0_10) ?_
            refine x_geti (hs.k k_91) F_Top_279 (by decide +kernel) rfl ?_
            refine g_goto (off := 10) (tgt := 87) (by decide +kernel) (by decide) ?_
            exact x_iret hf hs (by decide +kernel) rfl (Nat.le_refl _) (Nat.le_refl _)
        · refine g_aload_n (i := 0) (by decide +kernel) rfl ?_
          refine x_getr (hs.k k_0) F_Top_72 (by decide +kernel) rfl (hs.r r_0_10) ?_
          refine x_getr (hs.k k_91) F_Top_276 (by decide +kernel) rfl (hs.r r_91_4) ?_
          refine g_iload_n (i := 1) (by decide +kernel) rfl ?_
          refine g_bipush (z := 10) (v := 10) (by decide +kernel) rfl ?_
          refine g_isub (by decide +kernel) ?_
          refine x_iald hf (hs.k k_93) (by decide +kernel) (fun x14 hf => ?_)
          exact x_iret hf hs (by decide +kernel) rfl (Nat.le_refl _) (Nat.le_refl _)
      · refine g_iload_n (i := 2) (by decide +kernel) rfl ?_
        refine x_if_ne (off := 6) (tgt := 42) hf (by decide +kernel) (by decide) (fun c15 hf => ?_) (fun c15 hf => ?_)
        · refine g_aload_n (i := 0) (by decide +kernel) rfl ?_
          refine x_getr (hs.k k_0) F_Top_72 (by decide +kernel) rfl (hs.r r_0_10) ?_
          refine x_callVV (as := []) Vi_Weeks_findBest Vs_Weeks_findBest (hs.k k_91) rfl hf (fun q hq => t_Weeks_findBest hs  hq) Y_Weeks_findBest L_Top_273 (by decide +kernel) rfl rfl (Nat.le_of_ble_eq_true rfl) (by decide) (Nat.le_refl _) (Nat.le_refl _) (fun q16 hf hs => ?_)
          refine g_iload_n (i := 2) (by decide +kernel) rfl ?_
          refine x_if_eq (off := 16) (tgt := 66) hf (by decide +kernel) (by decide) (fun c17 hf => ?_) (fun c17 hf => ?_)
          · refine g_iload_n (i := 1) (by decide +kernel) rfl ?_
            refine x_if_ne (off := 13) (tgt := 80) hf (by decide +kernel) (by decide) (fun c18 hf => ?_) (fun c18 hf => ?_)
            · refine g_aload_n (i := 0) (by decide +kernel) rfl ?_
              refine x_getr (hs.k k_0) F_Top_72 (by decide +kernel) rfl (hs.r r_0_10) ?_
              refine x_geti (hs.k k_91) F_Top_282 (by decide +kernel) rfl ?_
              exact x_iret hf hs (by decide +kernel) rfl (Nat.le_refl _) (Nat.le_refl _)
            · refine g_aload_n (i := 0) (by decide +kernel) rfl ?_
              refine x_getr (hs.k k_0) F_Top_72 (by decide +kernel) rfl (hs.r r_0_10) ?_
              refine x_geti (hs.k k_91) F_Top_279 (by decide +kernel) rfl ?_
              refine g_goto (off := 10) (tgt := 87) (by decide +kernel) (by decide) ?_
              exact x_iret hf hs (by decide +kernel) rfl (Nat.le_refl _) (Nat.le_refl _)
          · refine g_aload_n (i := 0) (by decide +kernel) rfl ?_
            refine x_getr (hs.k k_0) F_Top_72 (by decide +kernel) rfl (hs.r r_0_10) ?_
            refine x_getr (hs.k k_91) F_Top_276 (by decide +kernel) rfl (hs.r r_91_4) ?_
            refine g_iload_n (i := 1) (by decide +kernel) rfl ?_
            refine g_bipush (z := 10) (v := 10) (by decide +kernel) rfl ?_
            refine g_isub (by decide +kernel) ?_
            refine x_iald hf (hs.k k_93) (by decide +kernel) (fun x19 hf => ?_)
            exact x_iret hf hs (by decide +kernel) rfl (Nat.le_refl _) (Nat.le_refl _)
        · refine g_bipush (z := (-2)) (v := (-2)) (by decide +kernel) rfl ?_
          exact x_iret hf hs (by decide +kernel) rfl (Nat.le_refl _) (Nat.le_refl _)
  refine x_icmp_lt (off := 21) (tgt := 24) hm25 (by decide +kernel) (by decide) (fun c1 hm25 => ?_) (fun c1 hm25 => ?_)
  · refine g_iconst (z := 0) (v := 0) (by decide +kernel) rfl ?_
    cases hm25
    exact am_G.forget (am_subp [0, 1] rfl) K25
  · refine g_aload_n (i := 0) (by decide +kernel) rfl ?_
    refine x_getr (hs.k k_0) F_Top_10 (by decide +kernel) rfl (hs.r r_0_0) ?_
    refine g_iload_n (i := 1) (by decide +kernel) rfl ?_
    refine g_bipush (z := 10) (v := 10) (by decide +kernel) rfl ?_
    refine g_isub (by decide +kernel) ?_
    refine x_callVBp (as := [.int (p1 - (10 : Int32))]) Vi_River_hasHour Vs_River_hasHour (hs.k k_1) rfl hm25 (fun q hq => t_River_hasHour hs (by decide) hq) Y_River_hasHour L_Top_177 (by decide +kernel) rfl rfl (Nat.le_of_ble_eq_true rfl) (by decide) (Nat.le_refl _) (Nat.le_refl _) (fun q2 hm25 => ?_)
    refine x_ifb_eq (off := 7) (tgt := 24) hm25 (by decide +kernel) (by decide) (fun c3 hm25 => ?_) (fun c3 hm25 => ?_)
    · refine g_iconst (z := 0) (v := 0) (by decide +kernel) rfl ?_
      cases hm25
      exact am_G.forget (am_subp [0, 1] rfl) K25
    · refine g_iconst (z := 1) (v := 1) (by decide +kernel) rfl ?_
      refine g_goto (off := 4) (tgt := 25) (by decide +kernel) (by decide) ?_
      cases hm25
      exact am_G.forget (am_subp [0, 1] rfl) K25
def f_Weeks_choice (p1 : Int32) (h : am_H) : Option (Int32) :=
  (if (h.2.1 1 0) ≤ p1 then
    some (-1 : Int32)
  else
    some p1)
set_option maxRecDepth 100000 in
set_option maxHeartbeats 4000000 in
theorem t_Weeks_choice {p1 : Int32} {h : am_H} (hs : am_Sh h)  {r : Int32} (hf : f_Weeks_choice p1 h = some r) : am_Ct 0 M_Weeks_choice [.ref 91, .int p1] h 0 0 (am_pI h r) := by
  unfold f_Weeks_choice at hf
  refine am_Ct.of (by decide) rfl (Nat.le_of_ble_eq_true rfl) (ls := [(0, .ref 91), (1, .int p1)]) rfl ?_
  refine g_iload_n (i := 1) (by decide +kernel) rfl ?_
  refine g_aload_n (i := 0) (by decide +kernel) rfl ?_
  refine x_getr (hs.k k_91) F_Weeks_50 (by decide +kernel) rfl (hs.r r_91_0) ?_
  refine x_geti (hs.k k_1) F_Weeks_130 (by decide +kernel) rfl ?_
  refine x_icmp_ge (off := 7) (tgt := 15) hf (by decide +kernel) (by decide) (fun c1 hf => ?_) (fun c1 hf => ?_)
  · refine g_iconst (z := (-1)) (v := (-1)) (by decide +kernel) rfl ?_
    exact x_iretp hf (by decide +kernel) rfl (Nat.le_refl _) (Nat.le_refl _)
  · refine g_iload_n (i := 1) (by decide +kernel) rfl ?_
    refine g_goto (off := 4) (tgt := 16) (by decide +kernel) (by decide) ?_
    exact x_iretp hf (by decide +kernel) rfl (Nat.le_refl _) (Nat.le_refl _)
