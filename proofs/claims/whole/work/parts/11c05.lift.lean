def f_River_hasHour (o : Nat) (p1 : Int32) (h : am_H) : Option (Bool) :=
  (if p1 < 0 then
    some false
  else
    (if (h.2.1 o 1) ≤ p1 then
      some false
    else
      some true))
set_option maxRecDepth 100000 in
set_option maxHeartbeats 4000000 in
theorem t_River_hasHour {o : Nat} {p1 : Int32} {h : am_H} (hs : am_Sh h) (ho : o ∈ am_rvL) {r : Bool} (hf : f_River_hasHour o p1 h = some r) : am_Ct 0 M_River_hasHour [.ref o, .int p1] h 0 0 (am_pB h r) := by
  unfold f_River_hasHour at hf
  refine am_Ct.of (by decide) rfl (Nat.le_of_ble_eq_true rfl) (ls := [(0, .ref o), (1, .int p1)]) rfl ?_
  refine g_iload_n (i := 1) (by decide +kernel) rfl ?_
  refine x_if_lt (off := 15) (tgt := 16) hf (by decide +kernel) (by decide) (fun c1 hf => ?_) (fun c1 hf => ?_)
  · refine g_iconst (z := 0) (v := 0) (by decide +kernel) rfl ?_
    exact x_zretp rfl hf (by decide +kernel) rfl (Nat.le_refl _) (Nat.le_refl _)
  · refine g_iload_n (i := 1) (by decide +kernel) rfl ?_
    refine g_aload_n (i := 0) (by decide +kernel) rfl ?_
    refine x_geti (hs.k (k_Rv ho)) F_River_15 (by decide +kernel) rfl ?_
    refine x_icmp_ge (off := 7) (tgt := 16) hf (by decide +kernel) (by decide) (fun c2 hf => ?_) (fun c2 hf => ?_)
    · refine g_iconst (z := 0) (v := 0) (by decide +kernel) rfl ?_
      exact x_zretp rfl hf (by decide +kernel) rfl (Nat.le_refl _) (Nat.le_refl _)
    · refine g_iconst (z := 1) (v := 1) (by decide +kernel) rfl ?_
      refine g_goto (off := 4) (tgt := 17) (by decide +kernel) (by decide) ?_
      exact x_zretp rfl hf (by decide +kernel) rfl (Nat.le_refl _) (Nat.le_refl _)
def f_River_hasGap (o : Nat) (p1 : Int32) (h : am_H) : Option (Bool) :=
  (if p1 < 0 then
    some false
  else
    (if (h.2.1 o 0) ≤ p1 then
      some false
    else
      some true))
set_option maxRecDepth 100000 in
set_option maxHeartbeats 4000000 in
theorem t_River_hasGap {o : Nat} {p1 : Int32} {h : am_H} (hs : am_Sh h) (ho : o ∈ am_rvL) {r : Bool} (hf : f_River_hasGap o p1 h = some r) : am_Ct 0 M_River_hasGap [.ref o, .int p1] h 0 0 (am_pB h r) := by
  unfold f_River_hasGap at hf
  refine am_Ct.of (by decide) rfl (Nat.le_of_ble_eq_true rfl) (ls := [(0, .ref o), (1, .int p1)]) rfl ?_
  refine g_iload_n (i := 1) (by decide +kernel) rfl ?_
  refine x_if_lt (off := 15) (tgt := 16) hf (by decide +kernel) (by decide) (fun c1 hf => ?_) (fun c1 hf => ?_)
  · refine g_iconst (z := 0) (v := 0) (by decide +kernel) rfl ?_
    exact x_zretp rfl hf (by decide +kernel) rfl (Nat.le_refl _) (Nat.le_refl _)
  · refine g_iload_n (i := 1) (by decide +kernel) rfl ?_
    refine g_aload_n (i := 0) (by decide +kernel) rfl ?_
    refine x_geti (hs.k (k_Rv ho)) F_River_9 (by decide +kernel) rfl ?_
    refine x_icmp_ge (off := 7) (tgt := 16) hf (by decide +kernel) (by decide) (fun c2 hf => ?_) (fun c2 hf => ?_)
    · refine g_iconst (z := 0) (v := 0) (by decide +kernel) rfl ?_
      exact x_zretp rfl hf (by decide +kernel) rfl (Nat.le_refl _) (Nat.le_refl _)
    · refine g_iconst (z := 1) (v := 1) (by decide +kernel) rfl ?_
      refine g_goto (off := 4) (tgt := 17) (by decide +kernel) (by decide) ?_
      exact x_zretp rfl hf (by decide +kernel) rfl (Nat.le_refl _) (Nat.le_refl _)
def f_Top_tell (p1 : Int32) (p2 : Int32) (h : am_H) : Option (Int32 × am_H) :=
  (f_River_hasHour 1 p1 h).bind fun q1 =>
  (if q1 = true then
    (if p2 = (-1 : Int32) then
      (f_Top_willChange  h).bind fun q4 =>
      (am_rd (q4.2.1 11) 6 p1).bind fun x5 =>
      (am_wr q4 11 6 p1 p2).bind fun h6 =>
      some (x5, h6)
    else
      (f_River_hasGap 1 p2 h).bind fun q7 =>
      (if q7 = true then
        (f_Top_willChange  h).bind fun q9 =>
        (am_rd (q9.2.1 11) 6 p1).bind fun x10 =>
        (am_wr q9 11 6 p1 p2).bind fun h11 =>
        some (x10, h11)
      else
        some ((-2 : Int32), h)))
  else
    some ((-2 : Int32), h))
set_option maxRecDepth 100000 in
set_option maxHeartbeats 4000000 in
theorem t_Top_tell {p1 : Int32} {p2 : Int32} {h : am_H} (hs : am_Sh h)  {r : Int32 × am_H} (hf : f_Top_tell p1 p2 h = some r) : am_Ct 4 M_Top_tell [.ref 0, .int p1, .int p2] h 0 0 (am_qI r) := by
  unfold f_Top_tell at hf
  refine am_Ct.of (by decide) rfl (Nat.le_of_ble_eq_true rfl) (ls := [(0, .ref 0), (1, .int p1), (2, .int p2)]) rfl ?_
  refine g_aload_n (i := 0) (by decide +kernel) rfl ?_
  refine x_getr (hs.k k_0) F_Top_10 (by decide +kernel) rfl (hs.r r_0_0) ?_
  refine g_iload_n (i := 1) (by decide +kernel) rfl ?_
  refine x_callVBp (as := [.int p1]) Vi_River_hasHour Vs_River_hasHour (hs.k k_1) rfl hf (fun q hq => t_River_hasHour hs (by decide) hq) Y_River_hasHour L_Top_177 (by decide +kernel) rfl rfl (Nat.le_of_ble_eq_true rfl) (by decide) (Nat.le_refl _) (Nat.le_refl _) (fun q1 hf => ?_)
  refine x_ifb_eq (off := 19) (tgt := 27) hf (by decide +kernel) (by decide) (fun c2 hf => ?_) (fun c2 hf => ?_)
  · refine g_bipush (z := (-2)) (v := (-2)) (by decide +kernel) rfl ?_
    exact x_iret hf hs (by decide +kernel) rfl (Nat.le_refl _) (Nat.le_refl _)
  · refine g_iload_n (i := 2) (by decide +kernel) rfl ?_
    refine g_iconst (z := (-1)) (v := (-1)) (by decide +kernel) rfl ?_
    refine x_icmp_eq (off := 17) (tgt := 30) hf (by decide +kernel) (by decide) (fun c3 hf => ?_) (fun c3 hf => ?_)
    · refine g_aload_n (i := 0) (by decide +kernel) rfl ?_
      refine x_callVV (as := []) Vi_Top_willChange Vs_Top_willChange (hs.k k_0) rfl hf (fun q hq => t_Top_willChange hs  hq) Y_Top_willChange L_Top_166 (by decide +kernel) rfl rfl (Nat.le_of_ble_eq_true rfl) (by decide) (Nat.le_refl _) (Nat.le_refl _) (fun q4 hf hs => ?_)
      refine g_aload_n (i := 0) (by decide +kernel) rfl ?_
      refine x_getr (hs.k k_0) F_Top_19 (by decide +kernel) rfl (hs.r r_0_1) ?_
      refine x_getr (hs.k k_10) F_Top_129 (by decide +kernel) rfl (hs.r r_10_3) ?_
      refine g_iload_n (i := 1) (by decide +kernel) rfl ?_
      refine x_iald hf (hs.k k_11) (by decide +kernel) (fun x5 hf => ?_)
      refine g_istore_n (i := 3) (by decide +kernel) rfl (by decide) (ls1 := [(0, .ref 0), (1, .int p1), (2, .int p2), (3, .int x5)]) rfl ?_
      refine g_aload_n (i := 0) (by decide +kernel) rfl ?_
      refine x_getr (hs.k k_0) F_Top_19 (by decide +kernel) rfl (hs.r r_0_1) ?_
      refine x_getr (hs.k k_10) F_Top_129 (by decide +kernel) rfl (hs.r r_10_3) ?_
      refine g_iload_n (i := 1) (by decide +kernel) rfl ?_
      refine g_iload_n (i := 2) (by decide +kernel) rfl ?_
      refine x_iast hf hs (hs.k k_11) (by decide +kernel) (fun h6 hf hs => ?_)
      refine g_iload_n (i := 3) (by decide +kernel) rfl ?_
      exact x_iret hf hs (by decide +kernel) rfl (Nat.le_refl _) (Nat.le_refl _)
    · refine g_aload_n (i := 0) (by decide +kernel) rfl ?_
      refine x_getr (hs.k k_0) F_Top_10 (by decide +kernel) rfl (hs.r r_0_0) ?_
      refine g_iload_n (i := 2) (by decide +kernel) rfl ?_
      refine x_callVBp (as := [.int p2]) Vi_River_hasGap Vs_River_hasGap (hs.k k_1) rfl hf (fun q hq => t_River_hasGap hs (by decide) hq) Y_River_hasGap L_Top_180 (by decide +kernel) rfl rfl (Nat.le_of_ble_eq_true rfl) (by decide) (Nat.le_refl _) (Nat.le_refl _) (fun q7 hf => ?_)
      refine x_ifb_ne (off := 6) (tgt := 30) hf (by decide +kernel) (by decide) (fun c8 hf => ?_) (fun c8 hf => ?_)
      · refine g_aload_n (i := 0) (by decide +kernel) rfl ?_
        refine x_callVV (as := []) Vi_Top_willChange Vs_Top_willChange (hs.k k_0) rfl hf (fun q hq => t_Top_willChange hs  hq) Y_Top_willChange L_Top_166 (by decide +kernel) rfl rfl (Nat.le_of_ble_eq_true rfl) (by decide) (Nat.le_refl _) (Nat.le_refl _) (fun q9 hf hs => ?_)
        refine g_aload_n (i := 0) (by decide +kernel) rfl ?_
        refine x_getr (hs.k k_0) F_Top_19 (by decide +kernel) rfl (hs.r r_0_1) ?_
        refine x_getr (hs.k k_10) F_Top_129 (by decide +kernel) rfl (hs.r r_10_3) ?_
        refine g_iload_n (i := 1) (by decide +kernel) rfl ?_
        refine x_iald hf (hs.k k_11) (by decide +kernel) (fun x10 hf => ?_)
        refine g_istore_n (i := 3) (by decide +kernel) rfl (by decide) (ls1 := [(0, .ref 0), (1, .int p1), (2, .int p2), (3, .int x10)]) rfl ?_
        refine g_aload_n (i := 0) (by decide +kernel) rfl ?_
        refine x_getr (hs.k k_0) F_Top_19 (by decide +kernel) rfl (hs.r r_0_1) ?_
        refine x_getr (hs.k k_10) F_Top_129 (by decide +kernel) rfl (hs.r r_10_3) ?_
        refine g_iload_n (i := 1) (by decide +kernel) rfl ?_
        refine g_iload_n (i := 2) (by decide +kernel) rfl ?_
        refine x_iast hf hs (hs.k k_11) (by decide +kernel) (fun h11 hf hs => ?_)
        refine g_iload_n (i := 3) (by decide +kernel) rfl ?_
        exact x_iret hf hs (by decide +kernel) rfl (Nat.le_refl _) (Nat.le_refl _)
      · refine g_bipush (z := (-2)) (v := (-2)) (by decide +kernel) rfl ?_
        exact x_iret hf hs (by decide +kernel) rfl (Nat.le_refl _) (Nat.le_refl _)
def f_Top_fog (p1 : Int32) (h : am_H) : Option (Int32 × am_H) :=
  (if p1 < 0 then
    some ((-3 : Int32), h)
  else
    (if p1 ≤ (99 : Int32) then
      (f_Top_willChange  h).bind fun q3 =>
      am_let (am_sI q3 10 1 p1) fun h4 =>
      some ((q3.2.1 10 1), h4)
    else
      some ((-3 : Int32), h)))
set_option maxRecDepth 100000 in
set_option maxHeartbeats 4000000 in
theorem t_Top_fog {p1 : Int32} {h : am_H} (hs : am_Sh h)  {r : Int32 × am_H} (hf : f_Top_fog p1 h = some r) : am_Ct 4 M_Top_fog [.ref 0, .int p1] h 0 0 (am_qI r) := by
  unfold f_Top_fog at hf
  refine am_Ct.of (by decide) rfl (Nat.le_of_ble_eq_true rfl) (ls := [(0, .ref 0), (1, .int p1)]) rfl ?_
  refine g_iload_n (i := 1) (by decide +kernel) rfl ?_
  refine x_if_lt (off := 9) (tgt := 10) hf (by decide +kernel) (by decide) (fun c1 hf => ?_) (fun c1 hf => ?_)
  · refine g_bipush (z := (-3)) (v := (-3)) (by decide +kernel) rfl ?_
    exact x_iret hf hs (by decide +kernel) rfl (Nat.le_refl _) (Nat.le_refl _)
  · refine g_iload_n (i := 1) (by decide +kernel) rfl ?_
    refine g_bipush (z := 99) (v := 99) (by decide +kernel) rfl ?_
    refine x_icmp_le (off := 6) (tgt := 13) hf (by decide +kernel) (by decide) (fun c2 hf => ?_) (fun c2 hf => ?_)
    · refine g_aload_n (i := 0) (by decide +kernel) rfl ?_
      refine x_callVV (as := []) Vi_Top_willChange Vs_Top_willChange (hs.k k_0) rfl hf (fun q hq => t_Top_willChange hs  hq) Y_Top_willChange L_Top_166 (by decide +kernel) rfl rfl (Nat.le_of_ble_eq_true rfl) (by decide) (Nat.le_refl _) (Nat.le_refl _) (fun q3 hf hs => ?_)
      refine g_aload_n (i := 0) (by decide +kernel) rfl ?_
      refine x_getr (hs.k k_0) F_Top_19 (by decide +kernel) rfl (hs.r r_0_1) ?_
      refine x_geti (hs.k k_10) F_Top_183 (by decide +kernel) rfl ?_
      refine g_istore_n (i := 2) (by decide +kernel) rfl (by decide) (ls1 := [(0, .ref 0), (1, .int p1), (2, .int (q3.2.1 10 1))]) rfl ?_
      refine g_aload_n (i := 0) (by decide +kernel) rfl ?_
      refine x_getr (hs.k k_0) F_Top_19 (by decide +kernel) rfl (hs.r r_0_1) ?_
      refine g_iload_n (i := 1) (by decide +kernel) rfl ?_
      refine x_puti hf hs (hs.k k_10) F_Top_183 (by decide +kernel) rfl rfl rfl rfl (fun h4 hf hs => ?_)
      refine g_iload_n (i := 2) (by decide +kernel) rfl ?_
      exact x_iret hf hs (by decide +kernel) rfl (Nat.le_refl _) (Nat.le_refl _)
    · refine g_bipush (z := (-3)) (v := (-3)) (by decide +kernel) rfl ?_
      exact x_iret hf hs (by decide +kernel) rfl (Nat.le_refl _) (Nat.le_refl _)
def f_State_passHour_L8 (o : Nat) (p1 : Nat) : Nat → Int32 → Int32 → am_H → Option (Int32 × am_H)
  | 0, _, _, _ => none
  | n + 1, v2, v3, h =>
    (if (h.2.1 p1 2) ≤ v3 then
      some (v3, h)
    else
      (am_rd (h.2.1 (o + 3)) 5 v3).bind fun x3 =>
      (f_State_hindrance o p1 v3 x3 h).bind fun q4 =>
      ((if q4 = 0 then
          (am_rd (h.2.1 (o + 2)) 5 v3).bind fun x6 =>
          (am_rd (h.2.1 (o + 3)) 5 v3).bind fun x7 =>
          (f_River_moved x6 x7 v2 h).bind fun q8 =>
          (am_wr h (o + 2) 5 v3 q8).bind fun h9 =>
          some h9
        else
          some h) : Option (am_H)).bind fun m10 =>
      (am_wr m10 (o + 3) 5 v3 (0 : Int32)).bind fun h11 =>
      f_State_passHour_L8 o p1 n v2 (v3 + (1 : Int32)) h11)
set_option maxRecDepth 100000 in
set_option maxHeartbeats 4000000 in
theorem t_State_passHour_L8 {o : Nat} {p1 : Nat} (ho : o ∈ am_stL) (hp1 : p1 ∈ am_rvL) {Q : Option Value → am_H → Prop} : ∀ (n : Nat) (v2 : Int32) (v3 : Int32) (h : am_H) (q : Int32 × am_H), am_Sh h → f_State_passHour_L8 o p1 n v2 v3 h = some q → (am_Sh q.2 → am_G 3 M_State_passHour 0 0 Q 66 [(0, .ref o), (1, .ref p1), (2, .int v2), (3, .int q.1)] [] q.2 0 0) → am_G 3 M_State_passHour 0 0 Q 8 [(0, .ref o), (1, .ref p1), (2, .int v2), (3, .int v3)] [] h 0 0 := by
  intro n
  induction n with
  | zero =>
    intro v2 v3 h q hs hf kont
    rw [f_State_passHour_L8] at hf
    cases hf
  | succ n ih =>
    intro v2 v3 h q hs hf kont
    rw [f_State_passHour_L8] at hf
    refine g_iload_n (i := 3) (by decide +kernel) rfl ?_
    refine g_aload_n (i := 1) (by decide +kernel) rfl ?_
    refine x_geti (hs.k (k_Rv hp1)) F_State_58 (by decide +kernel) rfl ?_
    refine x_icmp_ge (off := 53) (tgt := 66) hf (by decide +kernel) (by decide) (fun c2 hf => ?_) (fun c2 hf => ?_)
    · cases hf
      exact am_G.forget (am_subp [0, 1, 2, 3] rfl) (kont hs)
    · refine g_aload_n (i := 0) (by decide +kernel) rfl ?_
      refine g_aload_n (i := 1) (by decide +kernel) rfl ?_
      refine g_iload_n (i := 3) (by decide +kernel) rfl ?_
      refine g_aload_n (i := 0) (by decide +kernel) rfl ?_
      refine x_getr (hs.k (k_St ho)) F_State_28 (by decide +kernel) rfl (hs.r (r_St_5 ho)) ?_
      refine g_iload_n (i := 3) (by decide +kernel) rfl ?_
      refine x_iald hf (hs.k (k_St_5 ho)) (by decide +kernel) (fun x3 hf => ?_)
      refine x_callVIp (as := [.ref p1, .int v3, .int x3]) Vi_State_hindrance Vs_State_hindrance (hs.k (k_St ho)) rfl hf (fun q hq => t_State_hindrance hs ho hp1 hq) Y_State_hindrance L_State_87 (by decide +kernel) rfl rfl (Nat.le_of_ble_eq_true rfl) (by decide) (Nat.le_refl _) (Nat.le_refl _) (fun q4 hf => ?_)
      obtain ⟨m10, hm53, hf⟩ := Option.bind_eq_some_iff.mp hf
      refine am_cutS (J := 53) (ls' := [(0, .ref o), (1, .ref p1), (2, .int v2), (3, .int v3)]) (st' := []) (h' := m10) (fun hs => ?_) (fun K53 => ?_)
      · refine g_aload_n (i := 0) (by decide +kernel) rfl ?_
        refine x_getr (hs.k (k_St ho)) F_State_28 (by decide +kernel) rfl (hs.r (r_St_5 ho)) ?_
        refine g_iload_n (i := 3) (by decide +kernel) rfl ?_
        refine g_iconst (z := 0) (v := 0) (by decide +kernel) rfl ?_
        refine x_iast hf hs (hs.k (k_St_5 ho)) (by decide +kernel) (fun h11 hf hs => ?_)
        refine g_iinc (i := 3) (z := 1) (v := (v3 + (1 : Int32))) (by decide +kernel) rfl rfl rfl (by decide) (ls1 := [(0, .ref o), (1, .ref p1), (2, .int v2), (3, .int (v3 + (1 : Int32)))]) rfl ?_
        refine g_goto (off := (-55)) (tgt := 8) (by decide +kernel) (by decide) ?_
        exact am_G.forget (am_subp [0, 1, 2, 3] rfl) (ih _ _ _ _ hs hf kont)
      refine x_if_ne (off := 25) (tgt := 53) hm53 (by decide +kernel) (by decide) (fun c5 hm53 => ?_) (fun c5 hm53 => ?_)
      · cases hm53
        exact am_G.forget (am_subp [0, 1, 2, 3] rfl) (K53 hs)
      · refine g_aload_n (i := 0) (by decide +kernel) rfl ?_
        refine x_getr (hs.k (k_St ho)) F_State_25 (by decide +kernel) rfl (hs.r (r_St_4 ho)) ?_
        refine g_iload_n (i := 3) (by decide +kernel) rfl ?_
        refine g_aload_n (i := 0) (by decide +kernel) rfl ?_
        refine x_getr (hs.k (k_St ho)) F_State_25 (by decide +kernel) rfl (hs.r (r_St_4 ho)) ?_
        refine g_iload_n (i := 3) (by decide +kernel) rfl ?_
        refine x_iald hm53 (hs.k (k_St_4 ho)) (by decide +kernel) (fun x6 hm53 => ?_)
        refine g_aload_n (i := 0) (by decide +kernel) rfl ?_
        refine x_getr (hs.k (k_St ho)) F_State_28 (by decide +kernel) rfl (hs.r (r_St_5 ho)) ?_
        refine g_iload_n (i := 3) (by decide +kernel) rfl ?_
        refine x_iald hm53 (hs.k (k_St_5 ho)) (by decide +kernel) (fun x7 hm53 => ?_)
        refine g_iload_n (i := 2) (by decide +kernel) rfl ?_
        refine x_callSIp (as := [.int x6, .int x7, .int v2]) St_River_moved hm53 (fun q hq => t_River_moved hs  hq) Y_River_moved L_State_90 (by decide +kernel) rfl rfl (Nat.le_of_ble_eq_true rfl) (by decide) (Nat.le_refl _) (Nat.le_refl _) (fun q8 hm53 => ?_)
        refine x_iast hm53 hs (hs.k (k_St_4 ho)) (by decide +kernel) (fun h9 hm53 hs => ?_)
        cases hm53
        exact am_G.forget (am_subp [0, 1, 2, 3] rfl) (K53 hs)
def f_State_passHour (o : Nat) (p1 : Nat) (h : am_H) : Option (am_H) :=
  (f_State_lies o p1 h).bind fun q1 =>
  (f_State_passHour_L8 o p1 am_fu q1 (0 : Int32) h).bind fun q12 =>
  am_let (am_sI q12.2 o 0 ((q12.2.2.1 o 0) + (1 : Int32))) fun h13 =>
  am_let (am_sI h13 o 1 (if (0 : Int32) < ((h13.2.1 o 1) - (1 : Int32)) then ((h13.2.1 o 1) - (1 : Int32)) else (0 : Int32))) fun h14 =>
  (f_State_markDone o p1 h14).bind fun q15 =>
  some q15
set_option maxRecDepth 100000 in
set_option maxHeartbeats 4000000 in
theorem t_State_passHour {o : Nat} {p1 : Nat} {h : am_H} (hs : am_Sh h) (ho : o ∈ am_stL) (hp1 : p1 ∈ am_rvL) {r : am_H} (hf : f_State_passHour o p1 h = some r) : am_Ct 3 M_State_passHour [.ref o, .ref p1] h 0 0 (am_qV r) := by
  unfold f_State_passHour at hf
  refine am_Ct.of (by decide) rfl (Nat.le_of_ble_eq_true rfl) (ls := [(0, .ref o), (1, .ref p1)]) rfl ?_
  refine g_aload_n (i := 0) (by decide +kernel) rfl ?_
  refine g_aload_n (i := 1) (by decide +kernel) rfl ?_
  refine x_callVIp (as := [.ref p1]) Vi_State_lies Vs_State_lies (hs.k (k_St ho)) rfl hf (fun q hq => t_State_lies hs ho hp1 hq) Y_State_lies L_State_79 (by decide +kernel) rfl rfl (Nat.le_of_ble_eq_true rfl) (by decide) (Nat.le_refl _) (Nat.le_refl _) (fun q1 hf => ?_)
  refine g_istore_n (i := 2) (by decide +kernel) rfl (by decide) (ls1 := [(0, .ref o), (1, .ref p1), (2, .int q1)]) rfl ?_
  refine g_iconst (z := 0) (v := 0) (by decide +kernel) rfl ?_
  refine g_istore_n (i := 3) (by decide +kernel) rfl (by decide) (ls1 := [(0, .ref o), (1, .ref p1), (2, .int q1), (3, .int (0 : Int32))]) rfl ?_
  obtain ⟨q12, hqq12, hf⟩ := Option.bind_eq_some_iff.mp hf
  refine am_G.forget (am_subp [0, 1, 2, 3] rfl) (t_State_passHour_L8 ho hp1 am_fu _ _ _ q12 hs hqq12 (fun hs => ?_))
  refine g_aload_n (i := 0) (by decide +kernel) rfl ?_
  refine g_dup (by decide +kernel) rfl ?_
  refine x_geti (hs.k (k_St ho)) F_State_9 (by decide +kernel) rfl ?_
  refine g_iconst (z := 1) (v := 1) (by decide +kernel) rfl ?_
  refine g_iadd (by decide +kernel) ?_
  refine x_puti hf hs (hs.k (k_St ho)) F_State_9 (by decide +kernel) rfl rfl rfl rfl (fun h13 hf hs => ?_)
  refine g_aload_n (i := 0) (by decide +kernel) rfl ?_
  refine g_iconst (z := 0) (v := 0) (by decide +kernel) rfl ?_
  refine g_aload_n (i := 0) (by decide +kernel) rfl ?_
  refine x_geti (hs.k (k_St ho)) F_State_15 (by decide +kernel) rfl ?_
  refine g_iconst (z := 1) (v := 1) (by decide +kernel) rfl ?_
  refine g_isub (by decide +kernel) ?_
  refine g_mmax L_State_94 (by decide +kernel) (by decide) (Nat.le_refl _) (Nat.le_refl _) (Nat.le_of_ble_eq_true rfl) ?_
  refine x_puti hf hs (hs.k (k_St ho)) F_State_15 (by decide +kernel) rfl rfl rfl rfl (fun h14 hf hs => ?_)
  refine g_aload_n (i := 0) (by decide +kernel) rfl ?_
  refine g_aload_n (i := 1) (by decide +kernel) rfl ?_
  refine x_callVV (as := [.ref p1]) Vi_State_markDone Vs_State_markDone (hs.k (k_St ho)) rfl hf (fun q hq => t_State_markDone hs ho hp1 hq) Y_State_markDone L_State_54 (by decide +kernel) rfl rfl (Nat.le_of_ble_eq_true rfl) (by decide) (Nat.le_refl _) (Nat.le_refl _) (fun q15 hf hs => ?_)
  exact x_vret hf hs (by decide +kernel) rfl (Nat.le_refl _) (Nat.le_refl _)
def f_Top_hours_L31 (p1 : Int32) : Nat → Int32 → Int32 → am_H → Option (Int32 × am_H)
  | 0, _, _, _ => none
  | n + 1, v2, v3, h =>
    (if p1 ≤ v3 then
      some (v3, h)
    else
      (f_State_passHour 10 1 h).bind fun q6 =>
      f_Top_hours_L31 p1 n v2 (v3 + (1 : Int32)) q6)
set_option maxRecDepth 100000 in
set_option maxHeartbeats 4000000 in
theorem t_Top_hours_L31 {p1 : Int32}  {Q : Option Value → am_H → Prop} : ∀ (n : Nat) (v2 : Int32) (v3 : Int32) (h : am_H) (q : Int32 × am_H), am_Sh h → f_Top_hours_L31 p1 n v2 v3 h = some q → (am_Sh q.2 → am_G 4 M_Top_hours 0 0 Q 53 [(0, .ref 0), (1, .int p1), (2, .int v2), (3, .int q.1)] [] q.2 0 0) → am_G 4 M_Top_hours 0 0 Q 31 [(0, .ref 0), (1, .int p1), (2, .int v2), (3, .int v3)] [] h 0 0 := by
  intro n
  induction n with
  | zero =>
    intro v2 v3 h q hs hf kont
    rw [f_Top_hours_L31] at hf
    cases hf
  | succ n ih =>
    intro v2 v3 h q hs hf kont
    rw [f_Top_hours_L31] at hf
    refine g_iload_n (i := 3) (by decide +kernel) rfl ?_
    refine g_iload_n (i := 1) (by decide +kernel) rfl ?_
    refine x_icmp_ge (off := 20) (tgt := 53) hf (by decide +kernel) (by decide) (fun c5 hf => ?_) (fun c5 hf => ?_)
    · cases hf
      exact am_G.forget (am_subp [0, 1, 2, 3] rfl) (kont hs)
    · refine g_aload_n (i := 0) (by decide +kernel) rfl ?_
      refine x_getr (hs.k k_0) F_Top_19 (by decide +kernel) rfl (hs.r r_0_1) ?_
      refine g_aload_n (i := 0) (by decide +kernel) rfl ?_
      refine x_getr (hs.k k_0) F_Top_10 (by decide +kernel) rfl (hs.r r_0_0) ?_
      refine x_callVV (as := [.ref 1]) Vi_State_passHour Vs_State_passHour (hs.k k_10) rfl hf (fun q hq => t_State_passHour hs (by decide) (by decide) hq) Y_State_passHour L_Top_191 (by decide +kernel) rfl rfl (Nat.le_of_ble_eq_true rfl) (by decide) (Nat.le_refl _) (Nat.le_refl _) (fun q6 hf hs => ?_)
      refine g_iinc (i := 3) (z := 1) (v := (v3 + (1 : Int32))) (by decide +kernel) rfl rfl rfl (by decide) (ls1 := [(0, .ref 0), (1, .int p1), (2, .int v2), (3, .int (v3 + (1 : Int32)))]) rfl ?_
      refine g_goto (off := (-19)) (tgt := 31) (by decide +kernel) (by decide) ?_
      exact am_G.forget (am_subp [0, 1, 2, 3] rfl) (ih _ _ _ _ hs hf kont)
def f_Top_hours (p1 : Int32) (h : am_H) : Option (Int32 × am_H) :=
  (if p1 < (1 : Int32) then
    some ((-3 : Int32), h)
  else
    (if p1 ≤ (48 : Int32) then
      (f_Top_willChange  h).bind fun q3 =>
      (f_Integer_bitCount (q3.2.1 10 2) q3).bind fun q4 =>
      (f_Top_hours_L31 p1 am_fu q4 (0 : Int32) q3).bind fun q7 =>
      (f_Integer_bitCount (q7.2.2.1 10 2) q7.2).bind fun q8 =>
      some ((q8 - q4), q7.2)
    else
      some ((-3 : Int32), h)))
set_option maxRecDepth 100000 in
set_option maxHeartbeats 4000000 in
theorem t_Top_hours {p1 : Int32} {h : am_H} (hs : am_Sh h)  {r : Int32 × am_H} (hf : f_Top_hours p1 h = some r) : am_Ct 4 M_Top_hours [.ref 0, .int p1] h 0 0 (am_qI r) := by
  unfold f_Top_hours at hf
  refine am_Ct.of (by decide) rfl (Nat.le_of_ble_eq_true rfl) (ls := [(0, .ref 0), (1, .int p1)]) rfl ?_
  refine g_iload_n (i := 1) (by decide +kernel) rfl ?_
  refine g_iconst (z := 1) (v := 1) (by decide +kernel) rfl ?_
  refine x_icmp_lt (off := 9) (tgt := 11) hf (by decide +kernel) (by decide) (fun c1 hf => ?_) (fun c1 hf => ?_)
  · refine g_bipush (z := (-3)) (v := (-3)) (by decide +kernel) rfl ?_
    exact x_iret hf hs (by decide +kernel) rfl (Nat.le_refl _) (Nat.le_refl _)
  · refine g_iload_n (i := 1) (by decide +kernel) rfl ?_
    refine g_bipush (z := 48) (v := 48) (by decide +kernel) rfl ?_
    refine x_icmp_le (off := 6) (tgt := 14) hf (by decide +kernel) (by decide) (fun c2 hf => ?_) (fun c2 hf => ?_)
    · refine g_aload_n (i := 0) (by decide +kernel) rfl ?_
      refine x_callVV (as := []) Vi_Top_willChange Vs_Top_willChange (hs.k k_0) rfl hf (fun q hq => t_Top_willChange hs  hq) Y_Top_willChange L_Top_166 (by decide +kernel) rfl rfl (Nat.le_of_ble_eq_true rfl) (by decide) (Nat.le_refl _) (Nat.le_refl _) (fun q3 hf hs => ?_)
      refine g_aload_n (i := 0) (by decide +kernel) rfl ?_
      refine x_getr (hs.k k_0) F_Top_19 (by decide +kernel) rfl (hs.r r_0_1) ?_
      refine x_geti (hs.k k_10) F_Top_156 (by decide +kernel) rfl ?_
      refine x_callSIp (as := [.int (q3.2.1 10 2)]) St_Integer_bitCount hf (fun q hq => t_Integer_bitCount hs  hq) Y_Integer_bitCount L_Top_186 (by decide +kernel) rfl rfl (Nat.le_of_ble_eq_true rfl) (by decide) (Nat.le_refl _) (Nat.le_refl _) (fun q4 hf => ?_)
      refine g_istore_n (i := 2) (by decide +kernel) rfl (by decide) (ls1 := [(0, .ref 0), (1, .int p1), (2, .int q4)]) rfl ?_
      refine g_iconst (z := 0) (v := 0) (by decide +kernel) rfl ?_
      refine g_istore_n (i := 3) (by decide +kernel) rfl (by decide) (ls1 := [(0, .ref 0), (1, .int p1), (2, .int q4), (3, .int (0 : Int32))]) rfl ?_
      obtain ⟨q7, hqq7, hf⟩ := Option.bind_eq_some_iff.mp hf
      refine am_G.forget (am_subp [0, 1, 2, 3] rfl) (t_Top_hours_L31  am_fu _ _ _ q7 hs hqq7 (fun hs => ?_))
      refine g_aload_n (i := 0) (by decide +kernel) rfl ?_
      refine x_getr (hs.k k_0) F_Top_19 (by decide +kernel) rfl (hs.r r_0_1) ?_
      refine x_geti (hs.k k_10) F_Top_156 (by decide +kernel) rfl ?_
      refine x_callSIp (as := [.int (q7.2.2.1 10 2)]) St_Integer_bitCount hf (fun q hq => t_Integer_bitCount hs  hq) Y_Integer_bitCount L_Top_186 (by decide +kernel) rfl rfl (Nat.le_of_ble_eq_true rfl) (by decide) (Nat.le_refl _) (Nat.le_refl _) (fun q8 hf => ?_)
      refine g_iload_n (i := 2) (by decide +kernel) rfl ?_
      refine g_isub (by decide +kernel) ?_
      exact x_iret hf hs (by decide +kernel) rfl (Nat.le_refl _) (Nat.le_refl _)
    · refine g_bipush (z := (-3)) (v := (-3)) (by decide +kernel) rfl ?_
      exact x_iret hf hs (by decide +kernel) rfl (Nat.le_refl _) (Nat.le_refl _)
def f_Past_back (p1 : Int32) (h : am_H) : Option (Nat × am_H) :=
  am_let (am_sI h 18 2 (if (0 : Int32) < ((h.2.1 18 2) - p1) then ((h.2.1 18 2) - p1) else (0 : Int32))) fun h1 =>
  (am_el 20 4 10 (((h1.2.1 18 1) + (h1.2.1 18 2)) - ((h1.2.1 18 1) + (h1.2.1 18 2)) / (10 : Int32) * (10 : Int32))).bind fun e2 =>
  some (e2, h1)
set_option maxRecDepth 100000 in
set_option maxHeartbeats 4000000 in
theorem t_Past_back {p1 : Int32} {h : am_H} (hs : am_Sh h)  {r : Nat × am_H} (hf : f_Past_back p1 h = some r) : am_Ct 1 M_Past_back [.ref 18, .int p1] h 0 0 (am_qR r) := by
  unfold f_Past_back at hf
  refine am_Ct.of (by decide) rfl (Nat.le_of_ble_eq_true rfl) (ls := [(0, .ref 18), (1, .int p1)]) rfl ?_
  refine g_aload_n (i := 0) (by decide +kernel) rfl ?_
  refine g_iconst (z := 0) (v := 0) (by decide +kernel) rfl ?_
  refine g_aload_n (i := 0) (by decide +kernel) rfl ?_
  refine x_geti (hs.k k_18) F_Past_21 (by decide +kernel) rfl ?_
  refine g_iload_n (i := 1) (by decide +kernel) rfl ?_
  refine g_isub (by decide +kernel) ?_
  refine g_mmax L_Past_29 (by decide +kernel) (by decide) (Nat.le_refl _) (Nat.le_refl _) (Nat.le_of_ble_eq_true rfl) ?_
  refine x_puti hf hs (hs.k k_18) F_Past_21 (by decide +kernel) rfl rfl rfl rfl (fun h1 hf hs => ?_)
  refine g_aload_n (i := 0) (by decide +kernel) rfl ?_
  refine x_getr (hs.k k_18) F_Past_11 (by decide +kernel) rfl (hs.r r_18_0) ?_
  refine g_aload_n (i := 0) (by decide +kernel) rfl ?_
  refine x_geti (hs.k k_18) F_Past_17 (by decide +kernel) rfl ?_
  refine g_aload_n (i := 0) (by decide +kernel) rfl ?_
  refine x_geti (hs.k k_18) F_Past_21 (by decide +kernel) rfl ?_
  refine g_iadd (by decide +kernel) ?_
  refine g_bipush (z := 10) (v := 10) (by decide +kernel) rfl ?_
  refine g_irem (by decide +kernel) (by decide) ?_
  refine x_aald (a := 20) (s := 4) (t0 := 6) hf (hs.k k_19) rfl (by decide +kernel) (fun j hj => hs.r (e_19 hj).1) (fun j2 hj2 hf => ?_)
  exact x_aret hf hs (by decide +kernel) rfl (Or.inl ⟨_, rfl⟩) (Nat.le_refl _) (Nat.le_refl _)
theorem t_Past_back_mem {p1 : Int32} {h : am_H} {r : Nat × am_H} (hf : f_Past_back p1 h = some r) : r.1 ∈ am_stL := by
  unfold f_Past_back am_let at hf
  obtain ⟨z, hz, hf⟩ := Option.bind_eq_some_iff.mp hf
  cases hf
  obtain ⟨j, hj, rfl⟩ : ∃ j, j < 10 ∧ z = 20 + 4 * j := by
    unfold am_el at hz
    exact (fun {i : Int32} (hz : (if i < 0 ∨ 10 ≤ i.toNatClampNeg then none else some (20 + 4 * i.toNatClampNeg)) = some z) => by
      by_cases c : i < 0 ∨ 10 ≤ i.toNatClampNeg
      · rw [if_pos c] at hz; cases hz
      · rw [if_neg c] at hz
        exact ⟨_, Nat.not_le.mp fun q => c (Or.inr q), (Option.some.inj hz).symm⟩) hz
  exact (e_19 hj).2
def f_Top_undo (p1 : Int32) (h : am_H) : Option (Int32 × am_H) :=
  (if p1 < (1 : Int32) then
    some ((-3 : Int32), h)
  else
    (if (10 : Int32) < p1 then
      some ((-3 : Int32), h)
    else
      (if p1 ≤ (h.2.1 18 2) then
        (f_Past_back p1 h).bind fun q4 =>
        (f_State_copyFrom 10 q4.1 q4.2).bind fun q5 =>
        (f_Weeks_forget  q5).bind fun q6 =>
        some ((q6.2.1 18 2), q6)
      else
        some ((-3 : Int32), h))))
set_option maxRecDepth 100000 in
set_option maxHeartbeats 4000000 in
theorem t_Top_undo {p1 : Int32} {h : am_H} (hs : am_Sh h)  {r : Int32 × am_H} (hf : f_Top_undo p1 h = some r) : am_Ct 2 M_Top_undo [.ref 0, .int p1] h 0 0 (am_qI r) := by
  unfold f_Top_undo at hf
  refine am_Ct.of (by decide) rfl (Nat.le_of_ble_eq_true rfl) (ls := [(0, .ref 0), (1, .int p1)]) rfl ?_
  refine g_iload_n (i := 1) (by decide +kernel) rfl ?_
  refine g_iconst (z := 1) (v := 1) (by decide +kernel) rfl ?_
  refine x_icmp_lt (off := 20) (tgt := 22) hf (by decide +kernel) (by decide) (fun c1 hf => ?_) (fun c1 hf => ?_)
  · refine g_bipush (z := (-3)) (v := (-3)) (by decide +kernel) rfl ?_
    exact x_iret hf hs (by decide +kernel) rfl (Nat.le_refl _) (Nat.le_refl _)
  · refine g_iload_n (i := 1) (by decide +kernel) rfl ?_
    refine g_bipush (z := 10) (v := 10) (by decide +kernel) rfl ?_
    refine x_icmp_gt (off := 14) (tgt := 22) hf (by decide +kernel) (by decide) (fun c2 hf => ?_) (fun c2 hf => ?_)
    · refine g_bipush (z := (-3)) (v := (-3)) (by decide +kernel) rfl ?_
      exact x_iret hf hs (by decide +kernel) rfl (Nat.le_refl _) (Nat.le_refl _)
    · refine g_iload_n (i := 1) (by decide +kernel) rfl ?_
      refine g_aload_n (i := 0) (by decide +kernel) rfl ?_
      refine x_getr (hs.k k_0) F_Top_29 (by decide +kernel) rfl (hs.r r_0_3) ?_
      refine x_geti (hs.k k_18) F_Top_194 (by decide +kernel) rfl ?_
      refine x_icmp_le (off := 6) (tgt := 25) hf (by decide +kernel) (by decide) (fun c3 hf => ?_) (fun c3 hf => ?_)
      · refine g_aload_n (i := 0) (by decide +kernel) rfl ?_
        refine x_getr (hs.k k_0) F_Top_19 (by decide +kernel) rfl (hs.r r_0_1) ?_
        refine g_aload_n (i := 0) (by decide +kernel) rfl ?_
        refine x_getr (hs.k k_0) F_Top_29 (by decide +kernel) rfl (hs.r r_0_3) ?_
        refine g_iload_n (i := 1) (by decide +kernel) rfl ?_
        refine x_callVR (as := [.int p1]) Vi_Past_back Vs_Past_back (hs.k k_18) rfl hf (fun q hq => t_Past_back hs  hq) Y_Past_back L_Top_197 (by decide +kernel) rfl rfl (Nat.le_of_ble_eq_true rfl) (by decide) (Nat.le_refl _) (Nat.le_refl _) (fun q4 hqq4 hf hs => ?_)
        refine x_callVV (as := [.ref q4.1]) Vi_State_copyFrom Vs_State_copyFrom (hs.k k_10) rfl hf (fun q hq => t_State_copyFrom hs (by decide) (t_Past_back_mem hqq4) hq) Y_State_copyFrom L_Top_201 (by decide +kernel) rfl rfl (Nat.le_of_ble_eq_true rfl) (by decide) (Nat.le_refl _) (Nat.le_refl _) (fun q5 hf hs => ?_)
        refine g_aload_n (i := 0) (by decide +kernel) rfl ?_
        refine x_getr (hs.k k_0) F_Top_72 (by decide +kernel) rfl (hs.r r_0_10) ?_
        refine x_callVV (as := []) Vi_Weeks_forget Vs_Weeks_forget (hs.k k_91) rfl hf (fun q hq => t_Weeks_forget hs  hq) Y_Weeks_forget L_Top_119 (by decide +kernel) rfl rfl (Nat.le_of_ble_eq_true rfl) (by decide) (Nat.le_refl _) (Nat.le_refl _) (fun q6 hf hs => ?_)
        refine g_aload_n (i := 0) (by decide +kernel) rfl ?_
        refine x_getr (hs.k k_0) F_Top_29 (by decide +kernel) rfl (hs.r r_0_3) ?_
        refine x_geti (hs.k k_18) F_Top_194 (by decide +kernel) rfl ?_
        exact x_iret hf hs (by decide +kernel) rfl (Nat.le_refl _) (Nat.le_refl _)
      · refine g_bipush (z := (-3)) (v := (-3)) (by decide +kernel) rfl ?_
        exact x_iret hf hs (by decide +kernel) rfl (Nat.le_refl _) (Nat.le_refl _)
def f_Top_isTray (p0 : Int32) (h : am_H) : Option (Bool) :=
  (if p0 < 0 then
    some false
  else
    (if (4 : Int32) ≤ p0 then
      some false
    else
      some true))
set_option maxRecDepth 100000 in
set_option maxHeartbeats 4000000 in
theorem t_Top_isTray {p0 : Int32} {h : am_H} (hs : am_Sh h)  {r : Bool} (hf : f_Top_isTray p0 h = some r) : am_Ct 0 M_Top_isTray [.int p0] h 0 0 (am_pB h r) := by
  unfold f_Top_isTray at hf
  refine am_Ct.of (by decide) rfl (Nat.le_of_ble_eq_true rfl) (ls := [(0, .int p0)]) rfl ?_
  refine g_iload_n (i := 0) (by decide +kernel) rfl ?_
  refine x_if_lt (off := 12) (tgt := 13) hf (by decide +kernel) (by decide) (fun c1 hf => ?_) (fun c1 hf => ?_)
  · refine g_iconst (z := 0) (v := 0) (by decide +kernel) rfl ?_
    exact x_zretp rfl hf (by decide +kernel) rfl (Nat.le_refl _) (Nat.le_refl _)
  · refine g_iload_n (i := 0) (by decide +kernel) rfl ?_
    refine g_iconst (z := 4) (v := 4) (by decide +kernel) rfl ?_
    refine x_icmp_ge (off := 7) (tgt := 13) hf (by decide +kernel) (by decide) (fun c2 hf => ?_) (fun c2 hf => ?_)
    · refine g_iconst (z := 0) (v := 0) (by decide +kernel) rfl ?_
      exact x_zretp rfl hf (by decide +kernel) rfl (Nat.le_refl _) (Nat.le_refl _)
    · refine g_iconst (z := 1) (v := 1) (by decide +kernel) rfl ?_
      refine g_goto (off := 4) (tgt := 14) (by decide +kernel) (by decide) ?_
      exact x_zretp rfl hf (by decide +kernel) rfl (Nat.le_refl _) (Nat.le_refl _)
def f_Tray_at (o : Nat) (p1 : Int32) (h : am_H) : Option (Int64) :=
  (if p1 < 0 then
    some (0 : Int64)
  else
    (if (Int32.ofNat 40) ≤ p1 then
      some (0 : Int64)
    else
      (am_rd (h.2.2.1 (o + 1)) 40 p1).bind fun x3 =>
      some x3))
set_option maxRecDepth 100000 in
set_option maxHeartbeats 4000000 in
theorem t_Tray_at {o : Nat} {p1 : Int32} {h : am_H} (hs : am_Sh h) (ho : o ∈ am_trL) {r : Int64} (hf : f_Tray_at o p1 h = some r) : am_Ct 0 M_Tray_at [.ref o, .int p1] h 0 0 (am_pJ h r) := by
  unfold f_Tray_at at hf
  refine am_Ct.of (by decide) rfl (Nat.le_of_ble_eq_true rfl) (ls := [(0, .ref o), (1, .int p1)]) rfl ?_
  refine g_iload_n (i := 1) (by decide +kernel) rfl ?_
  refine x_if_lt (off := 21) (tgt := 22) hf (by decide +kernel) (by decide) (fun c1 hf => ?_) (fun c1 hf => ?_)
  · refine g_lconst (z := 0) (v := 0) (by decide +kernel) rfl ?_
    exact x_lretp hf (by decide +kernel) rfl (Nat.le_refl _) (Nat.le_refl _)
  · refine g_iload_n (i := 1) (by decide +kernel) rfl ?_
    refine g_aload_n (i := 0) (by decide +kernel) rfl ?_
    refine x_getr (hs.k (k_Tr ho)) F_Tray_22 (by decide +kernel) rfl (hs.r (r_Tr_3 ho)) ?_
    refine g_alen (t0 := 1) (hs.k (k_Tr_3 ho)) rfl rfl (by decide +kernel) ?_
    refine x_icmp_ge (off := 12) (tgt := 22) hf (by decide +kernel) (by decide) (fun c2 hf => ?_) (fun c2 hf => ?_)
    · refine g_lconst (z := 0) (v := 0) (by decide +kernel) rfl ?_
      exact x_lretp hf (by decide +kernel) rfl (Nat.le_refl _) (Nat.le_refl _)
    · refine g_aload_n (i := 0) (by decide +kernel) rfl ?_
      refine x_getr (hs.k (k_Tr ho)) F_Tray_22 (by decide +kernel) rfl (hs.r (r_Tr_3 ho)) ?_
      refine g_iload_n (i := 1) (by decide +kernel) rfl ?_
      refine x_lald hf (hs.k (k_Tr_3 ho)) (by decide +kernel) (fun x3 hf => ?_)
      refine g_goto (off := 4) (tgt := 23) (by decide +kernel) (by decide) ?_
      exact x_lretp hf (by decide +kernel) rfl (Nat.le_refl _) (Nat.le_refl _)
def f_State_tellAct (o : Nat) (p1 : Nat) (p2 : Int32) (p3 : Int32) (h : am_H) : Option (Int32 × am_H) :=
  (f_State_hindrance o p1 p2 p3 h).bind fun q1 =>
  (if q1 = 0 then
    (am_wr h (o + 3) 5 p2 p3).bind fun h3 =>
    some (q1, h3)
  else
    some (q1, h))
set_option maxRecDepth 100000 in
set_option maxHeartbeats 4000000 in
theorem t_State_tellAct {o : Nat} {p1 : Nat} {p2 : Int32} {p3 : Int32} {h : am_H} (hs : am_Sh h) (ho : o ∈ am_stL) (hp1 : p1 ∈ am_rvL) {r : Int32 × am_H} (hf : f_State_tellAct o p1 p2 p3 h = some r) : am_Ct 3 M_State_tellAct [.ref o, .ref p1, .int p2, .int p3] h 0 0 (am_qI r) := by
  unfold f_State_tellAct at hf
  refine am_Ct.of (by decide) rfl (Nat.le_of_ble_eq_true rfl) (ls := [(0, .ref o), (1, .ref p1), (2, .int p2), (3, .int p3)]) rfl ?_
  refine g_aload_n (i := 0) (by decide +kernel) rfl ?_
  refine g_aload_n (i := 1) (by decide +kernel) rfl ?_
  refine g_iload_n (i := 2) (by decide +kernel) rfl ?_
  refine g_iload_n (i := 3) (by decide +kernel) rfl ?_
  refine x_callVIp (as := [.ref p1, .int p2, .int p3]) Vi_State_hindrance Vs_State_hindrance (hs.k (k_St ho)) rfl hf (fun q hq => t_State_hindrance hs ho hp1 hq) Y_State_hindrance L_State_87 (by decide +kernel) rfl rfl (Nat.le_of_ble_eq_true rfl) (by decide) (Nat.le_refl _) (Nat.le_refl _) (fun q1 hf => ?_)
  refine g_istore (i := 4) (by decide +kernel) rfl (by decide) (ls1 := [(0, .ref o), (1, .ref p1), (2, .int p2), (3, .int p3), (4, .int q1)]) rfl ?_
  refine g_iload (i := 4) (by decide +kernel) rfl ?_
  refine x_if_ne (off := 10) (tgt := 21) hf (by decide +kernel) (by decide) (fun c2 hf => ?_) (fun c2 hf => ?_)
  · refine g_iload (i := 4) (by decide +kernel) rfl ?_
    exact x_iret hf hs (by decide +kernel) rfl (Nat.le_refl _) (Nat.le_refl _)
  · refine g_aload_n (i := 0) (by decide +kernel) rfl ?_
    refine x_getr (hs.k (k_St ho)) F_State_28 (by decide +kernel) rfl (hs.r (r_St_5 ho)) ?_
    refine g_iload_n (i := 2) (by decide +kernel) rfl ?_
    refine g_iload_n (i := 3) (by decide +kernel) rfl ?_
    refine x_iast hf hs (hs.k (k_St_5 ho)) (by decide +kernel) (fun h3 hf hs => ?_)
    refine g_iload (i := 4) (by decide +kernel) rfl ?_
    exact x_iret hf hs (by decide +kernel) rfl (Nat.le_refl _) (Nat.le_refl _)
def f_State_tellWeek (o : Nat) (p1 : Nat) (p2 : Int32) (p3 : Int32) (h : am_H) : Option (Int32 × am_H) :=
  (f_River_hasHour p1 p2 h).bind fun q1 =>
  (if q1 = true then
    (if p3 = (9 : Int32) then
      (am_wr h (o + 1) 6 p2 (if p3 = (9 : Int32) then (-1 : Int32) else p3)).bind fun h5 =>
      some ((0 : Int32), h5)
    else
      (f_River_hasGap p1 p3 h).bind fun q6 =>
      (if q6 = true then
        (am_wr h (o + 1) 6 p2 (if p3 = (9 : Int32) then (-1 : Int32) else p3)).bind fun h9 =>
        some ((0 : Int32), h9)
      else
        some ((1 : Int32), h)))
  else
    some ((1 : Int32), h))
set_option maxRecDepth 100000 in
set_option maxHeartbeats 4000000 in
theorem t_State_tellWeek {o : Nat} {p1 : Nat} {p2 : Int32} {p3 : Int32} {h : am_H} (hs : am_Sh h) (ho : o ∈ am_stL) (hp1 : p1 ∈ am_rvL) {r : Int32 × am_H} (hf : f_State_tellWeek o p1 p2 p3 h = some r) : am_Ct 1 M_State_tellWeek [.ref o, .ref p1, .int p2, .int p3] h 0 0 (am_qI r) := by
  unfold f_State_tellWeek at hf
  refine am_Ct.of (by decide) rfl (Nat.le_of_ble_eq_true rfl) (ls := [(0, .ref o), (1, .ref p1), (2, .int p2), (3, .int p3)]) rfl ?_
  refine g_aload_n (i := 1) (by decide +kernel) rfl ?_
  refine g_iload_n (i := 2) (by decide +kernel) rfl ?_
  refine x_callVBp (as := [.int p2]) Vi_River_hasHour Vs_River_hasHour (hs.k (k_Rv hp1)) rfl hf (fun q hq => t_River_hasHour hs hp1 hq) Y_River_hasHour L_State_121 (by decide +kernel) rfl rfl (Nat.le_of_ble_eq_true rfl) (by decide) (Nat.le_refl _) (Nat.le_refl _) (fun q1 hf => ?_)
  refine x_ifb_eq (off := 17) (tgt := 22) hf (by decide +kernel) (by decide) (fun c2 hf => ?_) (fun c2 hf => ?_)
  · refine g_iconst (z := 1) (v := 1) (by decide +kernel) rfl ?_
    exact x_iret hf hs (by decide +kernel) rfl (Nat.le_refl _) (Nat.le_refl _)
  · refine g_iload_n (i := 3) (by decide +kernel) rfl ?_
    refine g_bipush (z := 9) (v := 9) (by decide +kernel) rfl ?_
    refine x_icmp_eq (off := 13) (tgt := 24) hf (by decide +kernel) (by decide) (fun c3 hf => ?_) (fun c3 hf => ?_)
    · refine g_aload_n (i := 0) (by decide +kernel) rfl ?_
      refine x_getr (hs.k (k_St ho)) F_State_21 (by decide +kernel) rfl (hs.r (r_St_3 ho)) ?_
      refine g_iload_n (i := 2) (by decide +kernel) rfl ?_
      refine g_iload_n (i := 3) (by decide +kernel) rfl ?_
      refine g_bipush (z := 9) (v := 9) (by decide +kernel) rfl ?_
      refine am_cut (J := 40) (ls' := [(0, .ref o), (1, .ref p1), (2, .int p2), (3, .int p3)]) (st' := [.int (if p3 = (9 : Int32) then (-1 : Int32) else p3), .int p2, .ref (o + 1)]) ?_ (fun K40 => ?_)
      · refine x_iast hf hs (hs.k (k_St_3 ho)) (by decide +kernel) (fun h5 hf hs => ?_)
        refine g_iconst (z := 0) (v := 0) (by decide +kernel) rfl ?_
        exact x_iret hf hs (by decide +kernel) rfl (Nat.le_refl _) (Nat.le_refl _)
      refine p_icmp_ne (off := 7) (tgt := 39) (by decide +kernel) (by decide) (fun c4 => ?_) (fun c4 => ?_)
      · refine g_iload_n (i := 3) (by decide +kernel) rfl ?_
        have K1 := K40
        simp only [if_neg c4] at K1
        exact am_G.forget (am_subp [0, 1, 2, 3] rfl) K1
      · refine g_iconst (z := (-1)) (v := (-1)) (by decide +kernel) rfl ?_
        refine g_goto (off := 4) (tgt := 40) (by decide +kernel) (by decide) ?_
        have K1 := K40
        simp only [if_pos c4] at K1
        exact am_G.forget (am_subp [0, 1, 2, 3] rfl) K1
    · refine g_aload_n (i := 1) (by decide +kernel) rfl ?_
      refine g_iload_n (i := 3) (by decide +kernel) rfl ?_
      refine x_callVBp (as := [.int p3]) Vi_River_hasGap Vs_River_hasGap (hs.k (k_Rv hp1)) rfl hf (fun q hq => t_River_hasGap hs hp1 hq) Y_River_hasGap L_State_124 (by decide +kernel) rfl rfl (Nat.le_of_ble_eq_true rfl) (by decide) (Nat.le_refl _) (Nat.le_refl _) (fun q6 hf => ?_)
      refine x_ifb_ne (off := 5) (tgt := 24) hf (by decide +kernel) (by decide) (fun c7 hf => ?_) (fun c7 hf => ?_)
      · refine g_aload_n (i := 0) (by decide +kernel) rfl ?_
        refine x_getr (hs.k (k_St ho)) F_State_21 (by decide +kernel) rfl (hs.r (r_St_3 ho)) ?_
        refine g_iload_n (i := 2) (by decide +kernel) rfl ?_
        refine g_iload_n (i := 3) (by decide +kernel) rfl ?_
        refine g_bipush (z := 9) (v := 9) (by decide +kernel) rfl ?_
        refine am_cut (J := 40) (ls' := [(0, .ref o), (1, .ref p1), (2, .int p2), (3, .int p3)]) (st' := [.int (if p3 = (9 : Int32) then (-1 : Int32) else p3), .int p2, .ref (o + 1)]) ?_ (fun K40 => ?_)
        · refine x_iast hf hs (hs.k (k_St_3 ho)) (by decide +kernel) (fun h9 hf hs => ?_)
          refine g_iconst (z := 0) (v := 0) (by decide +kernel) rfl ?_
          exact x_iret hf hs (by decide +kernel) rfl (Nat.le_refl _) (Nat.le_refl _)
        refine p_icmp_ne (off := 7) (tgt := 39) (by decide +kernel) (by decide) (fun c8 => ?_) (fun c8 => ?_)
        · refine g_iload_n (i := 3) (by decide +kernel) rfl ?_
          have K1 := K40
          simp only [if_neg c8] at K1
          exact am_G.forget (am_subp [0, 1, 2, 3] rfl) K1
        · refine g_iconst (z := (-1)) (v := (-1)) (by decide +kernel) rfl ?_
          refine g_goto (off := 4) (tgt := 40) (by decide +kernel) (by decide) ?_
          have K1 := K40
          simp only [if_pos c8] at K1
          exact am_G.forget (am_subp [0, 1, 2, 3] rfl) K1
      · refine g_iconst (z := 1) (v := 1) (by decide +kernel) rfl ?_
        exact x_iret hf hs (by decide +kernel) rfl (Nat.le_refl _) (Nat.le_refl _)
def f_State_doDeed (o : Nat) (p1 : Nat) (p2 : Int64) (h : am_H) : Option (Int32 × am_H) :=
  (if (lg_cmp p2 (-1 : Int64)) = 0 then
    (f_State_passHour o p1 h).bind fun q23 =>
    some ((0 : Int32), q23)
  else
    (if (lg_cmp p2 (0 : Int64)) < 0 then
      (if (lg_cmp p2 (100 : Int64)) < 0 then
        (if (lg_cmp p2 (200 : Int64)) < 0 then
          some ((1 : Int32), h)
        else
          (if 0 < (lg_cmp p2 (209 : Int64)) then
            some ((1 : Int32), h)
          else
            am_let (am_sI h o 1 (((p2).toInt32) - (200 : Int32))) fun h6 =>
            some ((0 : Int32), h6)))
      else
        (if 0 < (lg_cmp p2 (159 : Int64)) then
          (if (lg_cmp p2 (200 : Int64)) < 0 then
            some ((1 : Int32), h)
          else
            (if 0 < (lg_cmp p2 (209 : Int64)) then
              some ((1 : Int32), h)
            else
              am_let (am_sI h o 1 (((p2).toInt32) - (200 : Int32))) fun h10 =>
              some ((0 : Int32), h10)))
        else
          (f_State_tellWeek o p1 ((((p2).toInt32) - (100 : Int32)) / (10 : Int32)) (((p2).toInt32) - ((p2).toInt32) / (10 : Int32) * (10 : Int32)) h).bind fun q11 =>
          some (q11.1, q11.2)))
    else
      (if 0 < (lg_cmp p2 (49 : Int64)) then
        (if (lg_cmp p2 (100 : Int64)) < 0 then
          (if (lg_cmp p2 (200 : Int64)) < 0 then
            some ((1 : Int32), h)
          else
            (if 0 < (lg_cmp p2 (209 : Int64)) then
              some ((1 : Int32), h)
            else
              am_let (am_sI h o 1 (((p2).toInt32) - (200 : Int32))) fun h16 =>
              some ((0 : Int32), h16)))
        else
          (if 0 < (lg_cmp p2 (159 : Int64)) then
            (if (lg_cmp p2 (200 : Int64)) < 0 then
              some ((1 : Int32), h)
            else
              (if 0 < (lg_cmp p2 (209 : Int64)) then
                some ((1 : Int32), h)
              else
                am_let (am_sI h o 1 (((p2).toInt32) - (200 : Int32))) fun h20 =>
                some ((0 : Int32), h20)))
          else
            (f_State_tellWeek o p1 ((((p2).toInt32) - (100 : Int32)) / (10 : Int32)) (((p2).toInt32) - ((p2).toInt32) / (10 : Int32) * (10 : Int32)) h).bind fun q21 =>
            some (q21.1, q21.2)))
      else
        (f_State_tellAct o p1 (((p2).toInt32) / (10 : Int32)) (((p2).toInt32) - ((p2).toInt32) / (10 : Int32) * (10 : Int32)) h).bind fun q22 =>
        some (q22.1, q22.2))))
set_option maxRecDepth 100000 in
set_option maxHeartbeats 4000000 in
theorem t_State_doDeed {o : Nat} {p1 : Nat} {p2 : Int64} {h : am_H} (hs : am_Sh h) (ho : o ∈ am_stL) (hp1 : p1 ∈ am_rvL) {r : Int32 × am_H} (hf : f_State_doDeed o p1 p2 h = some r) : am_Ct 4 M_State_doDeed [.ref o, .ref p1, .long p2] h 0 0 (am_qI r) := by
  unfold f_State_doDeed at hf
  refine am_Ct.of (by decide) rfl (Nat.le_of_ble_eq_true rfl) (ls := [(0, .ref o), (1, .ref p1), (2, .long p2)]) rfl ?_
  refine g_lload_n (i := 2) (by decide +kernel) rfl ?_
  refine g_ldc2 (by decide +kernel) C_State_100 ?_
  refine g_lcmp (by decide +kernel) ?_
  refine x_if_ne (off := 10) (tgt := 15) hf (by decide +kernel) (by decide) (fun c1 hf => ?_) (fun c1 hf => ?_)
  · refine g_lload_n (i := 2) (by decide +kernel) rfl ?_
    refine g_lconst (z := 0) (v := 0) (by decide +kernel) rfl ?_
    refine g_lcmp (by decide +kernel) ?_
    refine x_if_lt (off := 27) (tgt := 45) hf (by decide +kernel) (by decide) (fun c2 hf => ?_) (fun c2 hf => ?_)
    · refine g_lload_n (i := 2) (by decide +kernel) rfl ?_
      refine g_ldc2 (by decide +kernel) C_State_110 ?_
      refine g_lcmp (by decide +kernel) ?_
      refine x_if_lt (off := 30) (tgt := 80) hf (by decide +kernel) (by decide) (fun c3 hf => ?_) (fun c3 hf => ?_)
      · refine g_lload_n (i := 2) (by decide +kernel) rfl ?_
        refine g_ldc2 (by decide +kernel) C_State_117 ?_
        refine g_lcmp (by decide +kernel) ?_
        refine x_if_lt (off := 23) (tgt := 108) hf (by decide +kernel) (by decide) (fun c4 hf => ?_) (fun c4 hf => ?_)
        · refine g_iconst (z := 1) (v := 1) (by decide +kernel) rfl ?_
          exact x_iret hf hs (by decide +kernel) rfl (Nat.le_refl _) (Nat.le_refl _)
        · refine g_lload_n (i := 2) (by decide +kernel) rfl ?_
          refine g_ldc2 (by decide +kernel) C_State_119 ?_
          refine g_lcmp (by decide +kernel) ?_
          refine x_if_gt (off := 15) (tgt := 108) hf (by decide +kernel) (by decide) (fun c5 hf => ?_) (fun c5 hf => ?_)
          · refine g_iconst (z := 1) (v := 1) (by decide +kernel) rfl ?_
            exact x_iret hf hs (by decide +kernel) rfl (Nat.le_refl _) (Nat.le_refl _)
          · refine g_aload_n (i := 0) (by decide +kernel) rfl ?_
            refine g_lload_n (i := 2) (by decide +kernel) rfl ?_
            refine g_l2i (by decide +kernel) ?_
            refine g_sipush (z := 200) (v := 200) (by decide +kernel) rfl ?_
            refine g_isub (by decide +kernel) ?_
            refine x_puti hf hs (hs.k (k_St ho)) F_State_15 (by decide +kernel) rfl rfl rfl rfl (fun h6 hf hs => ?_)
            refine g_iconst (z := 0) (v := 0) (by decide +kernel) rfl ?_
            exact x_iret hf hs (by decide +kernel) rfl (Nat.le_refl _) (Nat.le_refl _)
      · refine g_lload_n (i := 2) (by decide +kernel) rfl ?_
        refine g_ldc2 (by decide +kernel) C_State_112 ?_
        refine g_lcmp (by decide +kernel) ?_
        refine x_if_gt (off := 22) (tgt := 80) hf (by decide +kernel) (by decide) (fun c7 hf => ?_) (fun c7 hf => ?_)
        · refine g_lload_n (i := 2) (by decide +kernel) rfl ?_
          refine g_ldc2 (by decide +kernel) C_State_117 ?_
          refine g_lcmp (by decide +kernel) ?_
          refine x_if_lt (off := 23) (tgt := 108) hf (by decide +kernel) (by decide) (fun c8 hf => ?_) (fun c8 hf => ?_)
          · refine g_iconst (z := 1) (v := 1) (by decide +kernel) rfl ?_
            exact x_iret hf hs (by decide +kernel) rfl (Nat.le_refl _) (Nat.le_refl _)
          · refine g_lload_n (i := 2) (by decide +kernel) rfl ?_
            refine g_ldc2 (by decide +kernel) C_State_119 ?_
            refine g_lcmp (by decide +kernel) ?_
            refine x_if_gt (off := 15) (tgt := 108) hf (by decide +kernel) (by decide) (fun c9 hf => ?_) (fun c9 hf => ?_)
            · refine g_iconst (z := 1) (v := 1) (by decide +kernel) rfl ?_
              exact x_iret hf hs (by decide +kernel) rfl (Nat.le_refl _) (Nat.le_refl _)
            · refine g_aload_n (i := 0) (by decide +kernel) rfl ?_
              refine g_lload_n (i := 2) (by decide +kernel) rfl ?_
              refine g_l2i (by decide +kernel) ?_
              refine g_sipush (z := 200) (v := 200) (by decide +kernel) rfl ?_
              refine g_isub (by decide +kernel) ?_
              refine x_puti hf hs (hs.k (k_St ho)) F_State_15 (by decide +kernel) rfl rfl rfl rfl (fun h10 hf hs => ?_)
              refine g_iconst (z := 0) (v := 0) (by decide +kernel) rfl ?_
              exact x_iret hf hs (by decide +kernel) rfl (Nat.le_refl _) (Nat.le_refl _)
        · refine g_aload_n (i := 0) (by decide +kernel) rfl ?_
          refine g_aload_n (i := 1) (by decide +kernel) rfl ?_
          refine g_lload_n (i := 2) (by decide +kernel) rfl ?_
          refine g_l2i (by decide +kernel) ?_
          refine g_bipush (z := 100) (v := 100) (by decide +kernel) rfl ?_
          refine g_isub (by decide +kernel) ?_
          refine g_bipush (z := 10) (v := 10) (by decide +kernel) rfl ?_
          refine g_idiv (by decide +kernel) (by decide) ?_
          refine g_lload_n (i := 2) (by decide +kernel) rfl ?_
          refine g_l2i (by decide +kernel) ?_
          refine g_bipush (z := 10) (v := 10) (by decide +kernel) rfl ?_
          refine g_irem (by decide +kernel) (by decide) ?_
          refine x_callVI (as := [.ref p1, .int ((((p2).toInt32) - (100 : Int32)) / (10 : Int32)), .int (((p2).toInt32) - ((p2).toInt32) / (10 : Int32) * (10 : Int32))]) Vi_State_tellWeek Vs_State_tellWeek (hs.k (k_St ho)) rfl hf (fun q hq => t_State_tellWeek hs ho hp1 hq) Y_State_tellWeek L_State_114 (by decide +kernel) rfl rfl (Nat.le_of_ble_eq_true rfl) (by decide) (Nat.le_refl _) (Nat.le_refl _) (fun q11 hf hs => ?_)
          exact x_iret hf hs (by decide +kernel) rfl (Nat.le_refl _) (Nat.le_refl _)
    · refine g_lload_n (i := 2) (by decide +kernel) rfl ?_
      refine g_ldc2 (by decide +kernel) C_State_105 ?_
      refine g_lcmp (by decide +kernel) ?_
      refine x_if_gt (off := 19) (tgt := 45) hf (by decide +kernel) (by decide) (fun c12 hf => ?_) (fun c12 hf => ?_)
      · refine g_lload_n (i := 2) (by decide +kernel) rfl ?_
        refine g_ldc2 (by decide +kernel) C_State_110 ?_
        refine g_lcmp (by decide +kernel) ?_
        refine x_if_lt (off := 30) (tgt := 80) hf (by decide +kernel) (by decide) (fun c13 hf => ?_) (fun c13 hf => ?_)
        · refine g_lload_n (i := 2) (by decide +kernel) rfl ?_
          refine g_ldc2 (by decide +kernel) C_State_117 ?_
          refine g_lcmp (by decide +kernel) ?_
          refine x_if_lt (off := 23) (tgt := 108) hf (by decide +kernel) (by decide) (fun c14 hf => ?_) (fun c14 hf => ?_)
          · refine g_iconst (z := 1) (v := 1) (by decide +kernel) rfl ?_
            exact x_iret hf hs (by decide +kernel) rfl (Nat.le_refl _) (Nat.le_refl _)
          · refine g_lload_n (i := 2) (by decide +kernel) rfl ?_
            refine g_ldc2 (by decide +kernel) C_State_119 ?_
            refine g_lcmp (by decide +kernel) ?_
            refine x_if_gt (off := 15) (tgt := 108) hf (by decide +kernel) (by decide) (fun c15 hf => ?_) (fun c15 hf => ?_)
            · refine g_iconst (z := 1) (v := 1) (by decide +kernel) rfl ?_
              exact x_iret hf hs (by decide +kernel) rfl (Nat.le_refl _) (Nat.le_refl _)
            · refine g_aload_n (i := 0) (by decide +kernel) rfl ?_
              refine g_lload_n (i := 2) (by decide +kernel) rfl ?_
              refine g_l2i (by decide +kernel) ?_
              refine g_sipush (z := 200) (v := 200) (by decide +kernel) rfl ?_
              refine g_isub (by decide +kernel) ?_
              refine x_puti hf hs (hs.k (k_St ho)) F_State_15 (by decide +kernel) rfl rfl rfl rfl (fun h16 hf hs => ?_)
              refine g_iconst (z := 0) (v := 0) (by decide +kernel) rfl ?_
              exact x_iret hf hs (by decide +kernel) rfl (Nat.le_refl _) (Nat.le_refl _)
        · refine g_lload_n (i := 2) (by decide +kernel) rfl ?_
          refine g_ldc2 (by decide +kernel) C_State_112 ?_
          refine g_lcmp (by decide +kernel) ?_
          refine x_if_gt (off := 22) (tgt := 80) hf (by decide +kernel) (by decide) (fun c17 hf => ?_) (fun c17 hf => ?_)
          · refine g_lload_n (i := 2) (by decide +kernel) rfl ?_
            refine g_ldc2 (by decide +kernel) C_State_117 ?_
            refine g_lcmp (by decide +kernel) ?_
            refine x_if_lt (off := 23) (tgt := 108) hf (by decide +kernel) (by decide) (fun c18 hf => ?_) (fun c18 hf => ?_)
            · refine g_iconst (z := 1) (v := 1) (by decide +kernel) rfl ?_
              exact x_iret hf hs (by decide +kernel) rfl (Nat.le_refl _) (Nat.le_refl _)
            · refine g_lload_n (i := 2) (by decide +kernel) rfl ?_
              refine g_ldc2 (by decide +kernel) C_State_119 ?_
              refine g_lcmp (by decide +kernel) ?_
              refine x_if_gt (off := 15) (tgt := 108) hf (by decide +kernel) (by decide) (fun c19 hf => ?_) (fun c19 hf => ?_)
              · refine g_iconst (z := 1) (v := 1) (by decide +kernel) rfl ?_
                exact x_iret hf hs (by decide +kernel) rfl (Nat.le_refl _) (Nat.le_refl _)
              · refine g_aload_n (i := 0) (by decide +kernel) rfl ?_
                refine g_lload_n (i := 2) (by decide +kernel) rfl ?_
                refine g_l2i (by decide +kernel) ?_
                refine g_sipush (z := 200) (v := 200) (by decide +kernel) rfl ?_
                refine g_isub (by decide +kernel) ?_
                refine x_puti hf hs (hs.k (k_St ho)) F_State_15 (by decide +kernel) rfl rfl rfl rfl (fun h20 hf hs => ?_)
                refine g_iconst (z := 0) (v := 0) (by decide +kernel) rfl ?_
                exact x_iret hf hs (by decide +kernel) rfl (Nat.le_refl _) (Nat.le_refl _)
          · refine g_aload_n (i := 0) (by decide +kernel) rfl ?_
            refine g_aload_n (i := 1) (by decide +kernel) rfl ?_
            refine g_lload_n (i := 2) (by decide +kernel) rfl ?_
            refine g_l2i (by decide +kernel) ?_
            refine g_bipush (z := 100) (v := 100) (by decide +kernel) rfl ?_
            refine g_isub (by decide +kernel) ?_
            refine g_bipush (z := 10) (v := 10) (by decide +kernel) rfl ?_
            refine g_idiv (by decide +kernel) (by decide) ?_
            refine g_lload_n (i := 2) (by decide +kernel) rfl ?_
            refine g_l2i (by decide +kernel) ?_
            refine g_bipush (z := 10) (v := 10) (by decide +kernel) rfl ?_
            refine g_irem (by decide +kernel) (by decide) ?_
            refine x_callVI (as := [.ref p1, .int ((((p2).toInt32) - (100 : Int32)) / (10 : Int32)), .int (((p2).toInt32) - ((p2).toInt32) / (10 : Int32) * (10 : Int32))]) Vi_State_tellWeek Vs_State_tellWeek (hs.k (k_St ho)) rfl hf (fun q hq => t_State_tellWeek hs ho hp1 hq) Y_State_tellWeek L_State_114 (by decide +kernel) rfl rfl (Nat.le_of_ble_eq_true rfl) (by decide) (Nat.le_refl _) (Nat.le_refl _) (fun q21 hf hs => ?_)
            exact x_iret hf hs (by decide +kernel) rfl (Nat.le_refl _) (Nat.le_refl _)
      · refine g_aload_n (i := 0) (by decide +kernel) rfl ?_
        refine g_aload_n (i := 1) (by decide +kernel) rfl ?_
        refine g_lload_n (i := 2) (by decide +kernel) rfl ?_
        refine g_l2i (by decide +kernel) ?_
        refine g_bipush (z := 10) (v := 10) (by decide +kernel) rfl ?_
        refine g_idiv (by decide +kernel) (by decide) ?_
        refine g_lload_n (i := 2) (by decide +kernel) rfl ?_
        refine g_l2i (by decide +kernel) ?_
        refine g_bipush (z := 10) (v := 10) (by decide +kernel) rfl ?_
        refine g_irem (by decide +kernel) (by decide) ?_
        refine x_callVI (as := [.ref p1, .int (((p2).toInt32) / (10 : Int32)), .int (((p2).toInt32) - ((p2).toInt32) / (10 : Int32) * (10 : Int32))]) Vi_State_tellAct Vs_State_tellAct (hs.k (k_St ho)) rfl hf (fun q hq => t_State_tellAct hs ho hp1 hq) Y_State_tellAct L_State_107 (by decide +kernel) rfl rfl (Nat.le_of_ble_eq_true rfl) (by decide) (Nat.le_refl _) (Nat.le_refl _) (fun q22 hf hs => ?_)
        exact x_iret hf hs (by decide +kernel) rfl (Nat.le_refl _) (Nat.le_refl _)
  · refine g_aload_n (i := 0) (by decide +kernel) rfl ?_
    refine g_aload_n (i := 1) (by decide +kernel) rfl ?_
    refine x_callVV (as := [.ref p1]) Vi_State_passHour Vs_State_passHour (hs.k (k_St ho)) rfl hf (fun q hq => t_State_passHour hs ho hp1 hq) Y_State_passHour L_State_102 (by decide +kernel) rfl rfl (Nat.le_of_ble_eq_true rfl) (by decide) (Nat.le_refl _) (Nat.le_refl _) (fun q23 hf hs => ?_)
    refine g_iconst (z := 0) (v := 0) (by decide +kernel) rfl ?_
    exact x_iret hf hs (by decide +kernel) rfl (Nat.le_refl _) (Nat.le_refl _)
def f_State_doAll_L2 (o : Nat) (p1 : Nat) (p2 : Nat) : Nat → Int32 → am_H → Option (Int32 × am_H)
  | 0, _, _ => none
  | n + 1, v3, h =>
    (if (h.2.1 p2 1) ≤ v3 then
      some ((h.2.1 p2 1), h)
    else
      (f_Tray_at p2 v3 h).bind fun q2 =>
      (f_State_doDeed o p1 q2 h).bind fun q3 =>
      (if q3.1 = 0 then
        f_State_doAll_L2 o p1 p2 n (v3 + (1 : Int32)) q3.2
      else
        some (v3, q3.2)))
set_option maxRecDepth 100000 in
set_option maxHeartbeats 4000000 in
theorem t_State_doAll_L2 {o : Nat} {p1 : Nat} {p2 : Nat} (ho : o ∈ am_stL) (hp1 : p1 ∈ am_rvL) (hp2 : p2 ∈ am_trL) : ∀ (n : Nat) (v3 : Int32) (h : am_H) (r : Int32 × am_H), am_Sh h → f_State_doAll_L2 o p1 p2 n v3 h = some r → am_G 5 M_State_doAll 0 0 (am_qI r) 2 [(0, .ref o), (1, .ref p1), (2, .ref p2), (3, .int v3)] [] h 0 0 := by
  intro n
  induction n with
  | zero =>
    intro v3 h r hs hf
    rw [f_State_doAll_L2] at hf
    cases hf
  | succ n ih =>
    intro v3 h r hs hf
    rw [f_State_doAll_L2] at hf
    refine g_iload_n (i := 3) (by decide +kernel) rfl ?_
    refine g_aload_n (i := 2) (by decide +kernel) rfl ?_
    refine x_geti (hs.k (k_Tr hp2)) F_State_127 (by decide +kernel) rfl ?_
    refine x_icmp_ge (off := 24) (tgt := 31) hf (by decide +kernel) (by decide) (fun c1 hf => ?_) (fun c1 hf => ?_)
    · refine g_aload_n (i := 2) (by decide +kernel) rfl ?_
      refine x_geti (hs.k (k_Tr hp2)) F_State_127 (by decide +kernel) rfl ?_
      exact x_iret hf hs (by decide +kernel) rfl (Nat.le_refl _) (Nat.le_refl _)
    · refine g_aload_n (i := 0) (by decide +kernel) rfl ?_
      refine g_aload_n (i := 1) (by decide +kernel) rfl ?_
      refine g_aload_n (i := 2) (by decide +kernel) rfl ?_
      refine g_iload_n (i := 3) (by decide +kernel) rfl ?_
      refine x_callVJp (as := [.int v3]) Vi_Tray_at Vs_Tray_at (hs.k (k_Tr hp2)) rfl hf (fun q hq => t_Tray_at hs hp2 hq) Y_Tray_at L_State_132 (by decide +kernel) rfl rfl (Nat.le_of_ble_eq_true rfl) (by decide) (Nat.le_refl _) (Nat.le_refl _) (fun q2 hf => ?_)
      refine x_callVI (as := [.ref p1, .long q2]) Vi_State_doDeed Vs_State_doDeed (hs.k (k_St ho)) rfl hf (fun q hq => t_State_doDeed hs ho hp1 hq) Y_State_doDeed L_State_136 (by decide +kernel) rfl rfl (Nat.le_of_ble_eq_true rfl) (by decide) (Nat.le_refl _) (Nat.le_refl _) (fun q3 hf hs => ?_)
      refine x_if_eq (off := 5) (tgt := 25) hf (by decide +kernel) (by decide) (fun c4 hf => ?_) (fun c4 hf => ?_)
      · refine g_iinc (i := 3) (z := 1) (v := (v3 + (1 : Int32))) (by decide +kernel) rfl rfl rfl (by decide) (ls1 := [(0, .ref o), (1, .ref p1), (2, .ref p2), (3, .int (v3 + (1 : Int32)))]) rfl ?_
        refine g_goto (off := (-26)) (tgt := 2) (by decide +kernel) (by decide) ?_
        exact am_G.forget (am_subp [0, 1, 2, 3] rfl) (ih _ _ _ hs hf)
      · refine g_iload_n (i := 3) (by decide +kernel) rfl ?_
        exact x_iret hf hs (by decide +kernel) rfl (Nat.le_refl _) (Nat.le_refl _)
def f_State_doAll (o : Nat) (p1 : Nat) (p2 : Nat) (h : am_H) : Option (Int32 × am_H) :=
  f_State_doAll_L2 o p1 p2 am_fu (0 : Int32) h
set_option maxRecDepth 100000 in
set_option maxHeartbeats 4000000 in
theorem t_State_doAll {o : Nat} {p1 : Nat} {p2 : Nat} {h : am_H} (hs : am_Sh h) (ho : o ∈ am_stL) (hp1 : p1 ∈ am_rvL) (hp2 : p2 ∈ am_trL) {r : Int32 × am_H} (hf : f_State_doAll o p1 p2 h = some r) : am_Ct 5 M_State_doAll [.ref o, .ref p1, .ref p2] h 0 0 (am_qI r) := by
  unfold f_State_doAll at hf
  refine am_Ct.of (by decide) rfl (Nat.le_of_ble_eq_true rfl) (ls := [(0, .ref o), (1, .ref p1), (2, .ref p2)]) rfl ?_
  refine g_iconst (z := 0) (v := 0) (by decide +kernel) rfl ?_
  refine g_istore_n (i := 3) (by decide +kernel) rfl (by decide) (ls1 := [(0, .ref o), (1, .ref p1), (2, .ref p2), (3, .int (0 : Int32))]) rfl ?_
  exact am_G.forget (am_subp [0, 1, 2, 3] rfl) (t_State_doAll_L2 ho hp1 hp2 am_fu _ _ _ hs hf)
def f_Top_judge (p1 : Int32) (p2 : Int32) (h : am_H) : Option (Int32 × am_H) :=
  (f_Top_isTray p1 h).bind fun q1 =>
  (if q1 = true then
    (if p2 < 0 then
      some ((-2 : Int32), h)
    else
      (if p2 ≤ (3 : Int32) then
        (am_el 102 2 4 p1).bind fun e5 =>
        (if (h.2.1 e5 0) = 0 then
          some ((-6 : Int32), h)
        else
          (f_State_copyFrom 14 10 h).bind fun q7 =>
          (am_el 102 2 4 p1).bind fun e8 =>
          (f_State_doAll 14 1 e8 q7).bind fun q9 =>
          (am_el 102 2 4 p1).bind fun e10 =>
          am_let (if q9.1 < (q9.2.2.1 e10 1) then (0 : Int32) else (1 : Int32)) fun y12 =>
          (if p2 = (0 : Int32) then
            (if y12 = 0 then
              some (q9.1, q9.2)
            else
              some ((-1 : Int32), q9.2))
          else if p2 = (1 : Int32) then
            (if y12 = 0 then
              (am_el 102 2 4 p1).bind fun e15 =>
              (f_Tray_at e15 q9.1 q9.2).bind fun q16 =>
              (f_State_doDeed 14 1 q16 q9.2).bind fun q17 =>
              some (q17.1, q17.2)
            else
              some ((0 : Int32), q9.2))
          else if p2 = (2 : Int32) then
            some ((q9.2.2.1 14 2), q9.2)
          else 
            some ((q9.2.2.1 14 0), q9.2)))
      else
        some ((-2 : Int32), h)))
  else
    some ((-2 : Int32), h))
set_option maxRecDepth 100000 in
set_option maxHeartbeats 4000000 in
theorem t_Top_judge {p1 : Int32} {p2 : Int32} {h : am_H} (hs : am_Sh h)  {r : Int32 × am_H} (hf : f_Top_judge p1 p2 h = some r) : am_Ct 6 M_Top_judge [.ref 0, .int p1, .int p2] h 0 0 (am_qI r) := by
  unfold f_Top_judge at hf
  refine am_Ct.of (by decide) rfl (Nat.le_of_ble_eq_true rfl) (ls := [(0, .ref 0), (1, .int p1), (2, .int p2)]) rfl ?_
  refine g_iload_n (i := 1) (by decide +kernel) rfl ?_
  refine x_callSBp (as := [.int p1]) St_Top_isTray hf (fun q hq => t_Top_isTray hs  hq) Y_Top_isTray L_Top_204 (by decide +kernel) rfl rfl (Nat.le_of_ble_eq_true rfl) (by decide) (Nat.le_refl _) (Nat.le_refl _) (fun q1 hf => ?_)
  refine x_ifb_eq (off := 12) (tgt := 16) hf (by decide +kernel) (by decide) (fun c2 hf => ?_) (fun c2 hf => ?_)
  · refine g_bipush (z := (-2)) (v := (-2)) (by decide +kernel) rfl ?_
    exact x_iret hf hs (by decide +kernel) rfl (Nat.le_refl _) (Nat.le_refl _)
  · refine g_iload_n (i := 2) (by decide +kernel) rfl ?_
    refine x_if_lt (off := 8) (tgt := 16) hf (by decide +kernel) (by decide) (fun c3 hf => ?_) (fun c3 hf => ?_)
    · refine g_bipush (z := (-2)) (v := (-2)) (by decide +kernel) rfl ?_
      exact x_iret hf hs (by decide +kernel) rfl (Nat.le_refl _) (Nat.le_refl _)
    · refine g_iload_n (i := 2) (by decide +kernel) rfl ?_
      refine g_iconst (z := 3) (v := 3) (by decide +kernel) rfl ?_
      refine x_icmp_le (off := 6) (tgt := 19) hf (by decide +kernel) (by decide) (fun c4 hf => ?_) (fun c4 hf => ?_)
      · refine g_aload_n (i := 0) (by decide +kernel) rfl ?_
        refine x_getr (hs.k k_0) F_Top_46 (by decide +kernel) rfl (hs.r r_0_6) ?_
        refine g_iload_n (i := 1) (by decide +kernel) rfl ?_
        refine x_aald (a := 102) (s := 2) (t0 := 4) hf (hs.k k_83) rfl (by decide +kernel) (fun j hj => hs.r (e_83 hj).1) (fun j5 hj5 hf => ?_)
        refine x_geti (hs.k (k_Tr (e_83 hj5).2)) F_Top_207 (by decide +kernel) rfl ?_
        refine x_if_ne (off := 6) (tgt := 34) hf (by decide +kernel) (by decide) (fun c6 hf => ?_) (fun c6 hf => ?_)
        · refine g_aload_n (i := 0) (by decide +kernel) rfl ?_
          refine x_getr (hs.k k_0) F_Top_23 (by decide +kernel) rfl (hs.r r_0_2) ?_
          refine g_aload_n (i := 0) (by decide +kernel) rfl ?_
          refine x_getr (hs.k k_0) F_Top_19 (by decide +kernel) rfl (hs.r r_0_1) ?_
          refine x_callVV (as := [.ref 10]) Vi_State_copyFrom Vs_State_copyFrom (hs.k k_14) rfl hf (fun q hq => t_State_copyFrom hs (by decide) (by decide) hq) Y_State_copyFrom L_Top_201 (by decide +kernel) rfl rfl (Nat.le_of_ble_eq_true rfl) (by decide) (Nat.le_refl _) (Nat.le_refl _) (fun q7 hf hs => ?_)
          refine g_aload_n (i := 0) (by decide +kernel) rfl ?_
          refine x_getr (hs.k k_0) F_Top_23 (by decide +kernel) rfl (hs.r r_0_2) ?_
          refine g_aload_n (i := 0) (by decide +kernel) rfl ?_
          refine x_getr (hs.k k_0) F_Top_10 (by decide +kernel) rfl (hs.r r_0_0) ?_
          refine g_aload_n (i := 0) (by decide +kernel) rfl ?_
          refine x_getr (hs.k k_0) F_Top_46 (by decide +kernel) rfl (hs.r r_0_6) ?_
          refine g_iload_n (i := 1) (by decide +kernel) rfl ?_
          refine x_aald (a := 102) (s := 2) (t0 := 4) hf (hs.k k_83) rfl (by decide +kernel) (fun j hj => hs.r (e_83 hj).1) (fun j8 hj8 hf => ?_)
          refine x_callVI (as := [.ref 1, .ref (102 + 2 * j8)]) Vi_State_doAll Vs_State_doAll (hs.k k_14) rfl hf (fun q hq => t_State_doAll hs (by decide) (by decide) (e_83 hj8).2 hq) Y_State_doAll L_Top_211 (by decide +kernel) rfl rfl (Nat.le_of_ble_eq_true rfl) (by decide) (Nat.le_refl _) (Nat.le_refl _) (fun q9 hf hs => ?_)
          refine g_istore_n (i := 3) (by decide +kernel) rfl (by decide) (ls1 := [(0, .ref 0), (1, .int p1), (2, .int p2), (3, .int q9.1)]) rfl ?_
          refine g_iload_n (i := 3) (by decide +kernel) rfl ?_
          refine g_aload_n (i := 0) (by decide +kernel) rfl ?_
          refine x_getr (hs.k k_0) F_Top_46 (by decide +kernel) rfl (hs.r r_0_6) ?_
          refine g_iload_n (i := 1) (by decide +kernel) rfl ?_
          refine x_aald (a := 102) (s := 2) (t0 := 4) hf (hs.k k_83) rfl (by decide +kernel) (fun j hj => hs.r (e_83 hj).1) (fun j10 hj10 hf => ?_)
          refine x_geti (hs.k (k_Tr (e_83 hj10).2)) F_Top_215 (by decide +kernel) rfl ?_
          refine am_cut (J := 81) (ls' := [(0, .ref 0), (1, .int p1), (2, .int p2), (3, .int q9.1)]) (st' := [.int (if q9.1 < (q9.2.2.1 (102 + 2 * j10) 1) then (0 : Int32) else (1 : Int32))]) ?_ (fun K81 => ?_)
          · refine x_nmI hf (fun y12 hf => ?_)
            refine g_istore (i := 4) (by decide +kernel) rfl (by decide) (ls1 := [(0, .ref 0), (1, .int p1), (2, .int p2), (3, .int q9.1), (4, .int y12)]) rfl ?_
            refine g_iload_n (i := 2) (by decide +kernel) rfl ?_
            by_cases e0 : p2 = (0 : Int32)
            · rw [if_pos e0] at hf
              have ex : Int32.toInt p2 = 0 := by rw [e0]; rfl
              refine x_tabIn (dflt := 78) (lo := 0) (hi := 2) (offs := #[28, 39, 70]) (len := 28) (off := 28) (tgt := 112) (by decide +kernel) (by rw [ex]; decide) (by rw [ex]; decide) (by rw [ex]; rfl) (by decide) ?_
              refine g_iload (i := 4) (by decide +kernel) rfl ?_
              refine x_if_eq (off := 7) (tgt := 121) hf (by decide +kernel) (by decide) (fun c13 hf => ?_) (fun c13 hf => ?_)
              · refine g_iload_n (i := 3) (by decide +kernel) rfl ?_
                exact x_iret hf hs (by decide +kernel) rfl (Nat.le_refl _) (Nat.le_refl _)
              · refine g_iconst (z := (-1)) (v := (-1)) (by decide +kernel) rfl ?_
                refine g_goto (off := 4) (tgt := 122) (by decide +kernel) (by decide) ?_
                exact x_iret hf hs (by decide +kernel) rfl (Nat.le_refl _) (Nat.le_refl _)
            · rw [if_neg e0] at hf
              by_cases e1 : p2 = (1 : Int32)
              · rw [if_pos e1] at hf
                have ex : Int32.toInt p2 = 1 := by rw [e1]; rfl
                refine x_tabIn (dflt := 78) (lo := 0) (hi := 2) (offs := #[28, 39, 70]) (len := 28) (off := 39) (tgt := 123) (by decide +kernel) (by rw [ex]; decide) (by rw [ex]; decide) (by rw [ex]; rfl) (by decide) ?_
                refine g_iload (i := 4) (by decide +kernel) rfl ?_
                refine x_if_eq (off := 7) (tgt := 132) hf (by decide +kernel) (by decide) (fun c14 hf => ?_) (fun c14 hf => ?_)
                · refine g_aload_n (i := 0) (by decide +kernel) rfl ?_
                  refine x_getr (hs.k k_0) F_Top_23 (by decide +kernel) rfl (hs.r r_0_2) ?_
                  refine g_aload_n (i := 0) (by decide +kernel) rfl ?_
                  refine x_getr (hs.k k_0) F_Top_10 (by decide +kernel) rfl (hs.r r_0_0) ?_
                  refine g_aload_n (i := 0) (by decide +kernel) rfl ?_
                  refine x_getr (hs.k k_0) F_Top_46 (by decide +kernel) rfl (hs.r r_0_6) ?_
                  refine g_iload_n (i := 1) (by decide +kernel) rfl ?_
                  refine x_aald (a := 102) (s := 2) (t0 := 4) hf (hs.k k_83) rfl (by decide +kernel) (fun j hj => hs.r (e_83 hj).1) (fun j15 hj15 hf => ?_)
                  refine g_iload_n (i := 3) (by decide +kernel) rfl ?_
                  refine x_callVJp (as := [.int q9.1]) Vi_Tray_at Vs_Tray_at (hs.k (k_Tr (e_83 hj15).2)) rfl hf (fun q hq => t_Tray_at hs (e_83 hj15).2 hq) Y_Tray_at L_Top_216 (by decide +kernel) rfl rfl (Nat.le_of_ble_eq_true rfl) (by decide) (Nat.le_refl _) (Nat.le_refl _) (fun q16 hf => ?_)
                  refine x_callVI (as := [.ref 1, .long q16]) Vi_State_doDeed Vs_State_doDeed (hs.k k_14) rfl hf (fun q hq => t_State_doDeed hs (by decide) (by decide) hq) Y_State_doDeed L_Top_220 (by decide +kernel) rfl rfl (Nat.le_of_ble_eq_true rfl) (by decide) (Nat.le_refl _) (Nat.le_refl _) (fun q17 hf hs => ?_)
                  exact x_iret hf hs (by decide +kernel) rfl (Nat.le_refl _) (Nat.le_refl _)
                · refine g_iconst (z := 0) (v := 0) (by decide +kernel) rfl ?_
                  refine g_goto (off := 24) (tgt := 153) (by decide +kernel) (by decide) ?_
                  exact x_iret hf hs (by decide +kernel) rfl (Nat.le_refl _) (Nat.le_refl _)
              · rw [if_neg e1] at hf
                by_cases e2 : p2 = (2 : Int32)
                · rw [if_pos e2] at hf
                  have ex : Int32.toInt p2 = 2 := by rw [e2]; rfl
                  refine x_tabIn (dflt := 78) (lo := 0) (hi := 2) (offs := #[28, 39, 70]) (len := 28) (off := 70) (tgt := 154) (by decide +kernel) (by rw [ex]; decide) (by rw [ex]; decide) (by rw [ex]; rfl) (by decide) ?_
                  refine g_aload_n (i := 0) (by decide +kernel) rfl ?_
                  refine x_getr (hs.k k_0) F_Top_23 (by decide +kernel) rfl (hs.r r_0_2) ?_
                  refine x_geti (hs.k k_14) F_Top_156 (by decide +kernel) rfl ?_
                  exact x_iret hf hs (by decide +kernel) rfl (Nat.le_refl _) (Nat.le_refl _)
                · rw [if_neg e2] at hf
                  refine x_tabOut (dflt := 78) (lo := 0) (hi := 2) (offs := #[28, 39, 70]) (len := 28) (tgt := 162) (by decide +kernel) (am_tabNe ⟨by decide, by decide⟩ (fun z hz => ?_)) (by decide) ?_
                  · have hz : z < 3 := hz
                    have : z = 0 ∨ z = 1 ∨ z = 2 := by omega
                    rcases this with rfl | rfl | rfl
                    · exact e0
                    · exact e1
                    · exact e2
                  · refine g_aload_n (i := 0) (by decide +kernel) rfl ?_
                    refine x_getr (hs.k k_0) F_Top_23 (by decide +kernel) rfl (hs.r r_0_2) ?_
                    refine x_geti (hs.k k_14) F_Top_133 (by decide +kernel) rfl ?_
                    exact x_iret hf hs (by decide +kernel) rfl (Nat.le_refl _) (Nat.le_refl _)
          refine p_icmp_lt (off := 7) (tgt := 80) (by decide +kernel) (by decide) (fun c11 => ?_) (fun c11 => ?_)
          · refine g_iconst (z := 0) (v := 0) (by decide +kernel) rfl ?_
            have K1 := K81
            simp only [if_pos c11] at K1
            exact am_G.forget (am_subp [0, 1, 2, 3] rfl) K1
          · refine g_iconst (z := 1) (v := 1) (by decide +kernel) rfl ?_
            refine g_goto (off := 4) (tgt := 81) (by decide +kernel) (by decide) ?_
            have K1 := K81
            simp only [if_neg c11] at K1
            exact am_G.forget (am_subp [0, 1, 2, 3] rfl) K1
        · refine g_bipush (z := (-6)) (v := (-6)) (by decide +kernel) rfl ?_
          exact x_iret hf hs (by decide +kernel) rfl (Nat.le_refl _) (Nat.le_refl _)
      · refine g_bipush (z := (-2)) (v := (-2)) (by decide +kernel) rfl ?_
        exact x_iret hf hs (by decide +kernel) rfl (Nat.le_refl _) (Nat.le_refl _)
def f_Top_becomeTrial (p1 : Int32) (h : am_H) : Option (am_H) :=
  (if p1 ≤ 0 then
    some h
  else
    (f_Top_willChange  h).bind fun q2 =>
    (f_State_copyFrom 10 14 q2).bind fun q3 =>
    some q3)
set_option maxRecDepth 100000 in
set_option maxHeartbeats 4000000 in
theorem t_Top_becomeTrial {p1 : Int32} {h : am_H} (hs : am_Sh h)  {r : am_H} (hf : f_Top_becomeTrial p1 h = some r) : am_Ct 4 M_Top_becomeTrial [.ref 0, .int p1] h 0 0 (am_qV r) := by
  unfold f_Top_becomeTrial at hf
  refine am_Ct.of (by decide) rfl (Nat.le_of_ble_eq_true rfl) (ls := [(0, .ref 0), (1, .int p1)]) rfl ?_
  refine g_iload_n (i := 1) (by decide +kernel) rfl ?_
  refine x_if_le (off := 18) (tgt := 19) hf (by decide +kernel) (by decide) (fun c1 hf => ?_) (fun c1 hf => ?_)
  · exact x_vret hf hs (by decide +kernel) rfl (Nat.le_refl _) (Nat.le_refl _)
  · refine g_aload_n (i := 0) (by decide +kernel) rfl ?_
    refine x_callVV (as := []) Vi_Top_willChange Vs_Top_willChange (hs.k k_0) rfl hf (fun q hq => t_Top_willChange hs  hq) Y_Top_willChange L_Top_166 (by decide +kernel) rfl rfl (Nat.le_of_ble_eq_true rfl) (by decide) (Nat.le_refl _) (Nat.le_refl _) (fun q2 hf hs => ?_)
    refine g_aload_n (i := 0) (by decide +kernel) rfl ?_
    refine x_getr (hs.k k_0) F_Top_19 (by decide +kernel) rfl (hs.r r_0_1) ?_
    refine g_aload_n (i := 0) (by decide +kernel) rfl ?_
    refine x_getr (hs.k k_0) F_Top_23 (by decide +kernel) rfl (hs.r r_0_2) ?_
    refine x_callVV (as := [.ref 14]) Vi_State_copyFrom Vs_State_copyFrom (hs.k k_10) rfl hf (fun q hq => t_State_copyFrom hs (by decide) (by decide) hq) Y_State_copyFrom L_Top_201 (by decide +kernel) rfl rfl (Nat.le_of_ble_eq_true rfl) (by decide) (Nat.le_refl _) (Nat.le_refl _) (fun q3 hf hs => ?_)
    exact x_vret hf hs (by decide +kernel) rfl (Nat.le_refl _) (Nat.le_refl _)
def f_Top_perform (p1 : Int32) (h : am_H) : Option (Int32 × am_H) :=
  (f_Top_isTray p1 h).bind fun q1 =>
  (if q1 = true then
    (am_el 102 2 4 p1).bind fun e3 =>
    (if (h.2.1 e3 0) = 0 then
      some ((-6 : Int32), h)
    else
      (f_State_copyFrom 14 10 h).bind fun q5 =>
      (am_el 102 2 4 p1).bind fun e6 =>
      (f_State_doAll 14 1 e6 q5).bind fun q7 =>
      (f_Top_becomeTrial q7.1 q7.2).bind fun q8 =>
      some (q7.1, q8))
  else
    some ((-2 : Int32), h))
set_option maxRecDepth 100000 in
set_option maxHeartbeats 4000000 in
theorem t_Top_perform {p1 : Int32} {h : am_H} (hs : am_Sh h)  {r : Int32 × am_H} (hf : f_Top_perform p1 h = some r) : am_Ct 6 M_Top_perform [.ref 0, .int p1] h 0 0 (am_qI r) := by
  unfold f_Top_perform at hf
  refine am_Ct.of (by decide) rfl (Nat.le_of_ble_eq_true rfl) (ls := [(0, .ref 0), (1, .int p1)]) rfl ?_
  refine g_iload_n (i := 1) (by decide +kernel) rfl ?_
  refine x_callSBp (as := [.int p1]) St_Top_isTray hf (fun q hq => t_Top_isTray hs  hq) Y_Top_isTray L_Top_204 (by decide +kernel) rfl rfl (Nat.le_of_ble_eq_true rfl) (by decide) (Nat.le_refl _) (Nat.le_refl _) (fun q1 hf => ?_)
  refine x_ifb_ne (off := 6) (tgt := 10) hf (by decide +kernel) (by decide) (fun c2 hf => ?_) (fun c2 hf => ?_)
  · refine g_aload_n (i := 0) (by decide +kernel) rfl ?_
    refine x_getr (hs.k k_0) F_Top_46 (by decide +kernel) rfl (hs.r r_0_6) ?_
    refine g_iload_n (i := 1) (by decide +kernel) rfl ?_
    refine x_aald (a := 102) (s := 2) (t0 := 4) hf (hs.k k_83) rfl (by decide +kernel) (fun j hj => hs.r (e_83 hj).1) (fun j3 hj3 hf => ?_)
    refine x_geti (hs.k (k_Tr (e_83 hj3).2)) F_Top_207 (by decide +kernel) rfl ?_
    refine x_if_ne (off := 6) (tgt := 25) hf (by decide +kernel) (by decide) (fun c4 hf => ?_) (fun c4 hf => ?_)
    · refine g_aload_n (i := 0) (by decide +kernel) rfl ?_
      refine x_getr (hs.k k_0) F_Top_23 (by decide +kernel) rfl (hs.r r_0_2) ?_
      refine g_aload_n (i := 0) (by decide +kernel) rfl ?_
      refine x_getr (hs.k k_0) F_Top_19 (by decide +kernel) rfl (hs.r r_0_1) ?_
      refine x_callVV (as := [.ref 10]) Vi_State_copyFrom Vs_State_copyFrom (hs.k k_14) rfl hf (fun q hq => t_State_copyFrom hs (by decide) (by decide) hq) Y_State_copyFrom L_Top_201 (by decide +kernel) rfl rfl (Nat.le_of_ble_eq_true rfl) (by decide) (Nat.le_refl _) (Nat.le_refl _) (fun q5 hf hs => ?_)
      refine g_aload_n (i := 0) (by decide +kernel) rfl ?_
      refine x_getr (hs.k k_0) F_Top_23 (by decide +kernel) rfl (hs.r r_0_2) ?_
      refine g_aload_n (i := 0) (by decide +kernel) rfl ?_
      refine x_getr (hs.k k_0) F_Top_10 (by decide +kernel) rfl (hs.r r_0_0) ?_
      refine g_aload_n (i := 0) (by decide +kernel) rfl ?_
      refine x_getr (hs.k k_0) F_Top_46 (by decide +kernel) rfl (hs.r r_0_6) ?_
      refine g_iload_n (i := 1) (by decide +kernel) rfl ?_
      refine x_aald (a := 102) (s := 2) (t0 := 4) hf (hs.k k_83) rfl (by decide +kernel) (fun j hj => hs.r (e_83 hj).1) (fun j6 hj6 hf => ?_)
      refine x_callVI (as := [.ref 1, .ref (102 + 2 * j6)]) Vi_State_doAll Vs_State_doAll (hs.k k_14) rfl hf (fun q hq => t_State_doAll hs (by decide) (by decide) (e_83 hj6).2 hq) Y_State_doAll L_Top_211 (by decide +kernel) rfl rfl (Nat.le_of_ble_eq_true rfl) (by decide) (Nat.le_refl _) (Nat.le_refl _) (fun q7 hf hs => ?_)
      refine g_istore_n (i := 2) (by decide +kernel) rfl (by decide) (ls1 := [(0, .ref 0), (1, .int p1), (2, .int q7.1)]) rfl ?_
      refine g_aload_n (i := 0) (by decide +kernel) rfl ?_
      refine g_iload_n (i := 2) (by decide +kernel) rfl ?_
      refine x_callVV (as := [.int q7.1]) Vi_Top_becomeTrial Vs_Top_becomeTrial (hs.k k_0) rfl hf (fun q hq => t_Top_becomeTrial hs  hq) Y_Top_becomeTrial L_Top_224 (by decide +kernel) rfl rfl (Nat.le_of_ble_eq_true rfl) (by decide) (Nat.le_refl _) (Nat.le_refl _) (fun q8 hf hs => ?_)
      refine g_iload_n (i := 2) (by decide +kernel) rfl ?_
      exact x_iret hf hs (by decide +kernel) rfl (Nat.le_refl _) (Nat.le_refl _)
    · refine g_bipush (z := (-6)) (v := (-6)) (by decide +kernel) rfl ?_
      exact x_iret hf hs (by decide +kernel) rfl (Nat.le_refl _) (Nat.le_refl _)
  · refine g_bipush (z := (-2)) (v := (-2)) (by decide +kernel) rfl ?_
    exact x_iret hf hs (by decide +kernel) rfl (Nat.le_refl _) (Nat.le_refl _)
def f_State_drawn (p0 : Int32) (h : am_H) : Option (Int32) :=
  some (((1103515245 : Int32) * p0) + (12345 : Int32))
set_option maxRecDepth 100000 in
set_option maxHeartbeats 4000000 in
theorem t_State_drawn {p0 : Int32} {h : am_H} (hs : am_Sh h)  {r : Int32} (hf : f_State_drawn p0 h = some r) : am_Ct 0 M_State_drawn [.int p0] h 0 0 (am_pI h r) := by
  unfold f_State_drawn at hf
  refine am_Ct.of (by decide) rfl (Nat.le_of_ble_eq_true rfl) (ls := [(0, .int p0)]) rfl ?_
  refine g_ldc (by decide +kernel) C_State_143 ?_
  refine g_iload_n (i := 0) (by decide +kernel) rfl ?_
  refine g_imul (by decide +kernel) ?_
  refine g_sipush (z := 12345) (v := 12345) (by decide +kernel) rfl ?_
  refine g_iadd (by decide +kernel) ?_
  exact x_iretp hf (by decide +kernel) rfl (Nat.le_refl _) (Nat.le_refl _)
