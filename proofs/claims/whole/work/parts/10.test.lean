def f_River_hasPerson (o : Nat) (p1 : Int32) (h : am_H) : Option (Bool) :=
  (if p1 < 0 then
    some false
  else
    (if (h.2.1 o 2) ≤ p1 then
      some false
    else
      some true))
set_option maxRecDepth 100000 in
set_option maxHeartbeats 4000000 in
theorem t_River_hasPerson {o : Nat} {p1 : Int32} {h : am_H} (hs : am_Sh h) (ho : o ∈ am_rvL) {r : Bool} (hf : f_River_hasPerson o p1 h = some r) : am_Ct 0 M_River_hasPerson [.ref o, .int p1] h 0 0 (am_pB h r) := by
  unfold f_River_hasPerson at hf
  refine am_Ct.of (by decide) rfl (Nat.le_of_ble_eq_true rfl) (ls := [(0, .ref o), (1, .int p1)]) rfl ?_
  refine g_iload_n (i := 1) (by decide +kernel) rfl ?_
  refine x_if_lt (off := 15) (tgt := 16) hf (by decide +kernel) (by decide) (fun c1 hf => ?_) (fun c1 hf => ?_)
  · refine g_iconst (z := 0) (v := 0) (by decide +kernel) rfl ?_
    exact x_zretp rfl hf (by decide +kernel) rfl
  · refine g_iload_n (i := 1) (by decide +kernel) rfl ?_
    refine g_aload_n (i := 0) (by decide +kernel) rfl ?_
    refine x_geti (hs.k (k_Rv ho)) F_River_18 (by decide +kernel) rfl ?_
    refine x_icmp_ge (off := 7) (tgt := 16) hf (by decide +kernel) (by decide) (fun c2 hf => ?_) (fun c2 hf => ?_)
    · refine g_iconst (z := 0) (v := 0) (by decide +kernel) rfl ?_
      exact x_zretp rfl hf (by decide +kernel) rfl
    · refine g_iconst (z := 1) (v := 1) (by decide +kernel) rfl ?_
      refine g_goto (off := 4) (tgt := 17) (by decide +kernel) (by decide) ?_
      exact x_zretp rfl hf (by decide +kernel) rfl
def f_River_hasSpot (o : Nat) (p1 : Int32) (h : am_H) : Option (Bool) :=
  (if p1 = (8 : Int32) then
    some true
  else
    (if p1 < 0 then
      some false
    else
      (if ((2 : Int32) * (h.2.1 o 0)) ≤ p1 then
        some false
      else
        some true)))
set_option maxRecDepth 100000 in
set_option maxHeartbeats 4000000 in
theorem t_River_hasSpot {o : Nat} {p1 : Int32} {h : am_H} (hs : am_Sh h) (ho : o ∈ am_rvL) {r : Bool} (hf : f_River_hasSpot o p1 h = some r) : am_Ct 0 M_River_hasSpot [.ref o, .int p1] h 0 0 (am_pB h r) := by
  unfold f_River_hasSpot at hf
  refine am_Ct.of (by decide) rfl (Nat.le_of_ble_eq_true rfl) (ls := [(0, .ref o), (1, .int p1)]) rfl ?_
  refine g_iload_n (i := 1) (by decide +kernel) rfl ?_
  refine g_bipush (z := 8) (v := 8) (by decide +kernel) rfl ?_
  refine x_icmp_eq (off := 17) (tgt := 20) hf (by decide +kernel) (by decide) (fun c1 hf => ?_) (fun c1 hf => ?_)
  · refine g_iconst (z := 1) (v := 1) (by decide +kernel) rfl ?_
    refine g_goto (off := 4) (tgt := 25) (by decide +kernel) (by decide) ?_
    exact x_zretp rfl hf (by decide +kernel) rfl
  · refine g_iload_n (i := 1) (by decide +kernel) rfl ?_
    refine x_if_lt (off := 17) (tgt := 24) hf (by decide +kernel) (by decide) (fun c2 hf => ?_) (fun c2 hf => ?_)
    · refine g_iconst (z := 0) (v := 0) (by decide +kernel) rfl ?_
      exact x_zretp rfl hf (by decide +kernel) rfl
    · refine g_iload_n (i := 1) (by decide +kernel) rfl ?_
      refine g_iconst (z := 2) (v := 2) (by decide +kernel) rfl ?_
      refine g_aload_n (i := 0) (by decide +kernel) rfl ?_
      refine x_geti (hs.k (k_Rv ho)) F_River_9 (by decide +kernel) rfl ?_
      refine g_imul (by decide +kernel) ?_
      refine x_icmp_ge (off := 7) (tgt := 24) hf (by decide +kernel) (by decide) (fun c3 hf => ?_) (fun c3 hf => ?_)
      · refine g_iconst (z := 0) (v := 0) (by decide +kernel) rfl ?_
        exact x_zretp rfl hf (by decide +kernel) rfl
      · refine g_iconst (z := 1) (v := 1) (by decide +kernel) rfl ?_
        refine g_goto (off := 4) (tgt := 25) (by decide +kernel) (by decide) ?_
        exact x_zretp rfl hf (by decide +kernel) rfl
def f_River_hasGap (o : Nat) (p1 : Int32) (h : am_H) : Option (Bool) :=
  (if p1 < 0 then
    some false
  else
    (if (h.2.1 o 0) ≤ p1 then
      some false
    else
      some true))
set_option maxRecDepth 100000 in
set_option maxHeartbeats 4000000 in
theorem t_River_hasGap {o : Nat} {p1 : Int32} {h : am_H} (hs : am_Sh h) (ho : o ∈ am_rvL) {r : Bool} (hf : f_River_hasGap o p1 h = some r) : am_Ct 0 M_River_hasGap [.ref o, .int p1] h 0 0 (am_pB h r) := by
  unfold f_River_hasGap at hf
  refine am_Ct.of (by decide) rfl (Nat.le_of_ble_eq_true rfl) (ls := [(0, .ref o), (1, .int p1)]) rfl ?_
  refine g_iload_n (i := 1) (by decide +kernel) rfl ?_
  refine x_if_lt (off := 15) (tgt := 16) hf (by decide +kernel) (by decide) (fun c1 hf => ?_) (fun c1 hf => ?_)
  · refine g_iconst (z := 0) (v := 0) (by decide +kernel) rfl ?_
    exact x_zretp rfl hf (by decide +kernel) rfl
  · refine g_iload_n (i := 1) (by decide +kernel) rfl ?_
    refine g_aload_n (i := 0) (by decide +kernel) rfl ?_
    refine x_geti (hs.k (k_Rv ho)) F_River_9 (by decide +kernel) rfl ?_
    refine x_icmp_ge (off := 7) (tgt := 16) hf (by decide +kernel) (by decide) (fun c2 hf => ?_) (fun c2 hf => ?_)
    · refine g_iconst (z := 0) (v := 0) (by decide +kernel) rfl ?_
      exact x_zretp rfl hf (by decide +kernel) rfl
    · refine g_iconst (z := 1) (v := 1) (by decide +kernel) rfl ?_
      refine g_goto (off := 4) (tgt := 17) (by decide +kernel) (by decide) ?_
      exact x_zretp rfl hf (by decide +kernel) rfl
def f_River_hasHour (o : Nat) (p1 : Int32) (h : am_H) : Option (Bool) :=
  (if p1 < 0 then
    some false
  else
    (if (h.2.1 o 1) ≤ p1 then
      some false
    else
      some true))
set_option maxRecDepth 100000 in
set_option maxHeartbeats 4000000 in
theorem t_River_hasHour {o : Nat} {p1 : Int32} {h : am_H} (hs : am_Sh h) (ho : o ∈ am_rvL) {r : Bool} (hf : f_River_hasHour o p1 h = some r) : am_Ct 0 M_River_hasHour [.ref o, .int p1] h 0 0 (am_pB h r) := by
  unfold f_River_hasHour at hf
  refine am_Ct.of (by decide) rfl (Nat.le_of_ble_eq_true rfl) (ls := [(0, .ref o), (1, .int p1)]) rfl ?_
  refine g_iload_n (i := 1) (by decide +kernel) rfl ?_
  refine x_if_lt (off := 15) (tgt := 16) hf (by decide +kernel) (by decide) (fun c1 hf => ?_) (fun c1 hf => ?_)
  · refine g_iconst (z := 0) (v := 0) (by decide +kernel) rfl ?_
    exact x_zretp rfl hf (by decide +kernel) rfl
  · refine g_iload_n (i := 1) (by decide +kernel) rfl ?_
    refine g_aload_n (i := 0) (by decide +kernel) rfl ?_
    refine x_geti (hs.k (k_Rv ho)) F_River_15 (by decide +kernel) rfl ?_
    refine x_icmp_ge (off := 7) (tgt := 16) hf (by decide +kernel) (by decide) (fun c2 hf => ?_) (fun c2 hf => ?_)
    · refine g_iconst (z := 0) (v := 0) (by decide +kernel) rfl ?_
      exact x_zretp rfl hf (by decide +kernel) rfl
    · refine g_iconst (z := 1) (v := 1) (by decide +kernel) rfl ?_
      refine g_goto (off := 4) (tgt := 17) (by decide +kernel) (by decide) ?_
      exact x_zretp rfl hf (by decide +kernel) rfl
def f_River_hourOfWeek (o : Nat) (p1 : Int32) (h : am_H) : Option (Int32) :=
  (if (h.2.1 o 1) < (1 : Int32) then
    some (0 : Int32)
  else
    (if 0 ≤ p1 then
      (am_md p1 (h.2.1 o 1)).bind fun x3 =>
      some x3
    else
      some (0 : Int32)))
set_option maxRecDepth 100000 in
set_option maxHeartbeats 4000000 in
theorem t_River_hourOfWeek {o : Nat} {p1 : Int32} {h : am_H} (hs : am_Sh h) (ho : o ∈ am_rvL) {r : Int32} (hf : f_River_hourOfWeek o p1 h = some r) : am_Ct 0 M_River_hourOfWeek [.ref o, .int p1] h 0 0 (am_pI h r) := by
  unfold f_River_hourOfWeek at hf
  refine am_Ct.of (by decide) rfl (Nat.le_of_ble_eq_true rfl) (ls := [(0, .ref o), (1, .int p1)]) rfl ?_
  refine g_aload_n (i := 0) (by decide +kernel) rfl ?_
  refine x_geti (hs.k (k_Rv ho)) F_River_15 (by decide +kernel) rfl ?_
  refine g_iconst (z := 1) (v := 1) (by decide +kernel) rfl ?_
  refine x_icmp_lt (off := 7) (tgt := 12) hf (by decide +kernel) (by decide) (fun c1 hf => ?_) (fun c1 hf => ?_)
  · refine g_iconst (z := 0) (v := 0) (by decide +kernel) rfl ?_
    refine g_goto (off := 9) (tgt := 22) (by decide +kernel) (by decide) ?_
    exact x_iretp hf (by decide +kernel) rfl
  · refine g_iload_n (i := 1) (by decide +kernel) rfl ?_
    refine x_if_ge (off := 7) (tgt := 16) hf (by decide +kernel) (by decide) (fun c2 hf => ?_) (fun c2 hf => ?_)
    · refine g_iload_n (i := 1) (by decide +kernel) rfl ?_
      refine g_aload_n (i := 0) (by decide +kernel) rfl ?_
      refine x_geti (hs.k (k_Rv ho)) F_River_15 (by decide +kernel) rfl ?_
      refine x_irem hf (by decide +kernel) (fun x3 hf => ?_)
      exact x_iretp hf (by decide +kernel) rfl
    · refine g_iconst (z := 0) (v := 0) (by decide +kernel) rfl ?_
      refine g_goto (off := 9) (tgt := 22) (by decide +kernel) (by decide) ?_
      exact x_iretp hf (by decide +kernel) rfl
def f_River_allSpots (o : Nat) (h : am_H) : Option (Int32) :=
  some ((((1 : Int32) <<< (((2 : Int32) * (h.2.1 o 0)) &&& 31)) - (1 : Int32)) ||| (256 : Int32))
set_option maxRecDepth 100000 in
set_option maxHeartbeats 4000000 in
theorem t_River_allSpots {o : Nat} {h : am_H} (hs : am_Sh h) (ho : o ∈ am_rvL) {r : Int32} (hf : f_River_allSpots o h = some r) : am_Ct 0 M_River_allSpots [.ref o] h 0 0 (am_pI h r) := by
  unfold f_River_allSpots at hf
  refine am_Ct.of (by decide) rfl (Nat.le_of_ble_eq_true rfl) (ls := [(0, .ref o)]) rfl ?_
  refine g_iconst (z := 1) (v := 1) (by decide +kernel) rfl ?_
  refine g_iconst (z := 2) (v := 2) (by decide +kernel) rfl ?_
  refine g_aload_n (i := 0) (by decide +kernel) rfl ?_
  refine x_geti (hs.k (k_Rv ho)) F_River_9 (by decide +kernel) rfl ?_
  refine g_imul (by decide +kernel) ?_
  refine g_ishl (by decide +kernel) ?_
  refine g_iconst (z := 1) (v := 1) (by decide +kernel) rfl ?_
  refine g_isub (by decide +kernel) ?_
  refine g_sipush (z := 256) (v := 256) (by decide +kernel) rfl ?_
  refine g_ior (by decide +kernel) ?_
  exact x_iretp hf (by decide +kernel) rfl
def f_River_withErrands_L4 (o : Nat) : Nat → Int32 → Int32 → am_H → Option (Int32 × Int32)
  | 0, _, _, _ => none
  | n + 1, v1, v2, h =>
    (if (h.2.1 o 2) ≤ v2 then
      some (v1, v2)
    else
      (am_rd (h.2.1 (o + 4)) 5 v2).bind fun x2 =>
      (if x2 = (-1 : Int32) then
        f_River_withErrands_L4 o n v1 (v2 + (1 : Int32)) h
      else
        f_River_withErrands_L4 o n (v1 ||| ((1 : Int32) <<< (v2 &&& 31))) (v2 + (1 : Int32)) h))
set_option maxRecDepth 100000 in
set_option maxHeartbeats 4000000 in
theorem t_River_withErrands_L4 {o : Nat} (ho : o ∈ am_rvL) {Q : Option Value → am_H → Prop} : ∀ (n : Nat) (v1 : Int32) (v2 : Int32) (h : am_H) (q : Int32 × Int32), am_Sh h → f_River_withErrands_L4 o n v1 v2 h = some q → (am_G 0 M_River_withErrands 0 0 Q 34 [(0, .ref o), (1, .int q.1), (2, .int q.2)] [] h 0 0) → am_G 0 M_River_withErrands 0 0 Q 4 [(0, .ref o), (1, .int v1), (2, .int v2)] [] h 0 0 := by
  intro n
  induction n with
  | zero =>
    intro v1 v2 h q hs hf kont
    rw [f_River_withErrands_L4] at hf
    cases hf
  | succ n ih =>
    intro v1 v2 h q hs hf kont
    rw [f_River_withErrands_L4] at hf
    refine g_iload_n (i := 2) (by decide +kernel) rfl ?_
    refine g_aload_n (i := 0) (by decide +kernel) rfl ?_
    refine x_geti (hs.k (k_Rv ho)) F_River_18 (by decide +kernel) rfl ?_
    refine x_icmp_ge (off := 25) (tgt := 34) hf (by decide +kernel) (by decide) (fun c1 hf => ?_) (fun c1 hf => ?_)
    · cases hf
      exact am_G.forget (am_subp [0, 1, 2] rfl) kont
    · refine g_aload_n (i := 0) (by decide +kernel) rfl ?_
      refine x_getr (hs.k (k_Rv ho)) F_River_40 (by decide +kernel) rfl (hs.r (r_Rv_9 ho)) ?_
      refine g_iload_n (i := 2) (by decide +kernel) rfl ?_
      refine x_iald hf (hs.k (k_Rv_9 ho)) (by decide +kernel) (fun x2 hf => ?_)
      refine g_iconst (z := (-1)) (v := (-1)) (by decide +kernel) rfl ?_
      refine x_icmp_eq (off := 9) (tgt := 28) hf (by decide +kernel) (by decide) (fun c3 hf => ?_) (fun c3 hf => ?_)
      · refine g_iinc (i := 2) (z := 1) (v := (v2 + (1 : Int32))) (by decide +kernel) rfl rfl rfl (by decide) (ls1 := [(0, .ref o), (1, .int v1), (2, .int (v2 + (1 : Int32)))]) rfl ?_
        refine g_goto (off := (-27)) (tgt := 4) (by decide +kernel) (by decide) ?_
        exact am_G.forget (am_subp [0, 1, 2] rfl) (ih _ _ _ _ hs hf kont)
      · refine g_iload_n (i := 1) (by decide +kernel) rfl ?_
        refine g_iconst (z := 1) (v := 1) (by decide +kernel) rfl ?_
        refine g_iload_n (i := 2) (by decide +kernel) rfl ?_
        refine g_ishl (by decide +kernel) ?_
        refine g_ior (by decide +kernel) ?_
        refine g_istore_n (i := 1) (by decide +kernel) rfl (by decide) (ls1 := [(0, .ref o), (1, .int (v1 ||| ((1 : Int32) <<< (v2 &&& 31)))), (2, .int v2)]) rfl ?_
        refine g_iinc (i := 2) (z := 1) (v := (v2 + (1 : Int32))) (by decide +kernel) rfl rfl rfl (by decide) (ls1 := [(0, .ref o), (1, .int (v1 ||| ((1 : Int32) <<< (v2 &&& 31)))), (2, .int (v2 + (1 : Int32)))]) rfl ?_
        refine g_goto (off := (-27)) (tgt := 4) (by decide +kernel) (by decide) ?_
        exact am_G.forget (am_subp [0, 1, 2] rfl) (ih _ _ _ _ hs hf kont)
def f_River_withErrands (o : Nat) (h : am_H) : Option (Int32) :=
  (f_River_withErrands_L4 o am_fu (0 : Int32) (0 : Int32) h).bind fun q4 =>
  some q4.1
set_option maxRecDepth 100000 in
set_option maxHeartbeats 4000000 in
theorem t_River_withErrands {o : Nat} {h : am_H} (hs : am_Sh h) (ho : o ∈ am_rvL) {r : Int32} (hf : f_River_withErrands o h = some r) : am_Ct 0 M_River_withErrands [.ref o] h 0 0 (am_pI h r) := by
  unfold f_River_withErrands at hf
  refine am_Ct.of (by decide) rfl (Nat.le_of_ble_eq_true rfl) (ls := [(0, .ref o)]) rfl ?_
  refine g_iconst (z := 0) (v := 0) (by decide +kernel) rfl ?_
  refine g_istore_n (i := 1) (by decide +kernel) rfl (by decide) (ls1 := [(0, .ref o), (1, .int (0 : Int32))]) rfl ?_
  refine g_iconst (z := 0) (v := 0) (by decide +kernel) rfl ?_
  refine g_istore_n (i := 2) (by decide +kernel) rfl (by decide) (ls1 := [(0, .ref o), (1, .int (0 : Int32)), (2, .int (0 : Int32))]) rfl ?_
  obtain ⟨q4, hqq4, hf⟩ := Option.bind_eq_some_iff.mp hf
  refine t_River_withErrands_L4 ho am_fu _ _ _ q4 hs hqq4 ?_
  refine g_iload_n (i := 1) (by decide +kernel) rfl ?_
  exact x_iretp hf (by decide +kernel) rfl
def f_River_row (p0 : Int32) (p1 : Int32) (p2 : Int32) (h : am_H) : Option (Int32) :=
  (if p2 = 0 then
    some ((((p0 * (6 : Int32)) + p1) * (2 : Int32)) + (0 : Int32))
  else
    some ((((p0 * (6 : Int32)) + p1) * (2 : Int32)) + (1 : Int32)))
set_option maxRecDepth 100000 in
set_option maxHeartbeats 4000000 in
theorem t_River_row {p0 : Int32} {p1 : Int32} {p2 : Int32} {h : am_H} (hs : am_Sh h)  {r : Int32} (hf : f_River_row p0 p1 p2 h = some r) : am_Ct 0 M_River_row [.int p0, .int p1, .int p2] h 0 0 (am_pI h r) := by
  unfold f_River_row at hf
  refine am_Ct.of (by decide) rfl (Nat.le_of_ble_eq_true rfl) (ls := [(0, .int p0), (1, .int p1), (2, .int p2)]) rfl ?_
  refine g_iload_n (i := 0) (by decide +kernel) rfl ?_
  refine g_bipush (z := 6) (v := 6) (by decide +kernel) rfl ?_
  refine g_imul (by decide +kernel) ?_
  refine g_iload_n (i := 1) (by decide +kernel) rfl ?_
  refine g_iadd (by decide +kernel) ?_
  refine g_iconst (z := 2) (v := 2) (by decide +kernel) rfl ?_
  refine g_imul (by decide +kernel) ?_
  refine g_iload_n (i := 2) (by decide +kernel) rfl ?_
  refine x_if_eq (off := 7) (tgt := 16) hf (by decide +kernel) (by decide) (fun c1 hf => ?_) (fun c1 hf => ?_)
  · refine g_iconst (z := 0) (v := 0) (by decide +kernel) rfl ?_
    refine g_iadd (by decide +kernel) ?_
    exact x_iretp hf (by decide +kernel) rfl
  · refine g_iconst (z := 1) (v := 1) (by decide +kernel) rfl ?_
    refine g_goto (off := 4) (tgt := 17) (by decide +kernel) (by decide) ?_
    refine g_iadd (by decide +kernel) ?_
    exact x_iretp hf (by decide +kernel) rfl
def f_River_moved (p0 : Int32) (p1 : Int32) (p2 : Int32) (h : am_H) : Option (Int32) :=
  (if p1 = (1 : Int32) then
    some (p0 + (2 : Int32))
  else if p1 = (2 : Int32) then
    some (p0 - (2 : Int32))
  else if p1 = (3 : Int32) then
    some (p0 ^^^ (1 : Int32))
  else if p1 = (4 : Int32) then
    some (8 : Int32)
  else if p1 = (5 : Int32) then
    some ((2 : Int32) * p2)
  else if p1 = (6 : Int32) then
    some (((2 : Int32) * p2) + (1 : Int32))
  else 
    some p0)
set_option maxRecDepth 100000 in
set_option maxHeartbeats 4000000 in
theorem t_River_moved {p0 : Int32} {p1 : Int32} {p2 : Int32} {h : am_H} (hs : am_Sh h)  {r : Int32} (hf : f_River_moved p0 p1 p2 h = some r) : am_Ct 0 M_River_moved [.int p0, .int p1, .int p2] h 0 0 (am_pI h r) := by
  unfold f_River_moved at hf
  refine am_Ct.of (by decide) rfl (Nat.le_of_ble_eq_true rfl) (ls := [(0, .int p0), (1, .int p1), (2, .int p2)]) rfl ?_
  refine g_iload_n (i := 1) (by decide +kernel) rfl ?_
  by_cases e0 : p1 = (1 : Int32)
  · rw [if_pos e0] at hf
    have ex : Int32.toInt p1 = 1 := by rw [e0]; rfl
    refine x_tabIn (dflt := 64) (lo := 1) (hi := 6) (offs := #[39, 43, 47, 51, 54, 58]) (len := 39) (off := 39) (tgt := 40) (by decide +kernel) (by rw [ex]; decide) (by rw [ex]; decide) (by rw [ex]; rfl) (by decide) ?_
    refine g_iload_n (i := 0) (by decide +kernel) rfl ?_
    refine g_iconst (z := 2) (v := 2) (by decide +kernel) rfl ?_
    refine g_iadd (by decide +kernel) ?_
    exact x_iretp hf (by decide +kernel) rfl
  · rw [if_neg e0] at hf
    by_cases e1 : p1 = (2 : Int32)
    · rw [if_pos e1] at hf
      have ex : Int32.toInt p1 = 2 := by rw [e1]; rfl
      refine x_tabIn (dflt := 64) (lo := 1) (hi := 6) (offs := #[39, 43, 47, 51, 54, 58]) (len := 39) (off := 43) (tgt := 44) (by decide +kernel) (by rw [ex]; decide) (by rw [ex]; decide) (by rw [ex]; rfl) (by decide) ?_
      refine g_iload_n (i := 0) (by decide +kernel) rfl ?_
      refine g_iconst (z := 2) (v := 2) (by decide +kernel) rfl ?_
      refine g_isub (by decide +kernel) ?_
      exact x_iretp hf (by decide +kernel) rfl
    · rw [if_neg e1] at hf
      by_cases e2 : p1 = (3 : Int32)
      · rw [if_pos e2] at hf
        have ex : Int32.toInt p1 = 3 := by rw [e2]; rfl
        refine x_tabIn (dflt := 64) (lo := 1) (hi := 6) (offs := #[39, 43, 47, 51, 54, 58]) (len := 39) (off := 47) (tgt := 48) (by decide +kernel) (by rw [ex]; decide) (by rw [ex]; decide) (by rw [ex]; rfl) (by decide) ?_
        refine g_iload_n (i := 0) (by decide +kernel) rfl ?_
        refine g_iconst (z := 1) (v := 1) (by decide +kernel) rfl ?_
        refine g_ixor (by decide +kernel) ?_
        exact x_iretp hf (by decide +kernel) rfl
      · rw [if_neg e2] at hf
        by_cases e3 : p1 = (4 : Int32)
        · rw [if_pos e3] at hf
          have ex : Int32.toInt p1 = 4 := by rw [e3]; rfl
          refine x_tabIn (dflt := 64) (lo := 1) (hi := 6) (offs := #[39, 43, 47, 51, 54, 58]) (len := 39) (off := 51) (tgt := 52) (by decide +kernel) (by rw [ex]; decide) (by rw [ex]; decide) (by rw [ex]; rfl) (by decide) ?_
          refine g_bipush (z := 8) (v := 8) (by decide +kernel) rfl ?_
          exact x_iretp hf (by decide +kernel) rfl
        · rw [if_neg e3] at hf
          by_cases e4 : p1 = (5 : Int32)
          · rw [if_pos e4] at hf
            have ex : Int32.toInt p1 = 5 := by rw [e4]; rfl
            refine x_tabIn (dflt := 64) (lo := 1) (hi := 6) (offs := #[39, 43, 47, 51, 54, 58]) (len := 39) (off := 54) (tgt := 55) (by decide +kernel) (by rw [ex]; decide) (by rw [ex]; decide) (by rw [ex]; rfl) (by decide) ?_
            refine g_iconst (z := 2) (v := 2) (by decide +kernel) rfl ?_
            refine g_iload_n (i := 2) (by decide +kernel) rfl ?_
            refine g_imul (by decide +kernel) ?_
            exact x_iretp hf (by decide +kernel) rfl
          · rw [if_neg e4] at hf
            by_cases e5 : p1 = (6 : Int32)
            · rw [if_pos e5] at hf
              have ex : Int32.toInt p1 = 6 := by rw [e5]; rfl
              refine x_tabIn (dflt := 64) (lo := 1) (hi := 6) (offs := #[39, 43, 47, 51, 54, 58]) (len := 39) (off := 58) (tgt := 59) (by decide +kernel) (by rw [ex]; decide) (by rw [ex]; decide) (by rw [ex]; rfl) (by decide) ?_
              refine g_iconst (z := 2) (v := 2) (by decide +kernel) rfl ?_
              refine g_iload_n (i := 2) (by decide +kernel) rfl ?_
              refine g_imul (by decide +kernel) ?_
              refine g_iconst (z := 1) (v := 1) (by decide +kernel) rfl ?_
              refine g_iadd (by decide +kernel) ?_
              exact x_iretp hf (by decide +kernel) rfl
            · rw [if_neg e5] at hf
              refine x_tabOut (dflt := 64) (lo := 1) (hi := 6) (offs := #[39, 43, 47, 51, 54, 58]) (len := 39) (tgt := 65) (by decide +kernel) (am_tabNe ⟨by decide, by decide⟩ (fun z hz => ?_)) (by decide) ?_
              · have hz : z < 6 := hz
                have : z = 0 ∨ z = 1 ∨ z = 2 ∨ z = 3 ∨ z = 4 ∨ z = 5 := by omega
                rcases this with rfl | rfl | rfl | rfl | rfl | rfl
                · exact e0
                · exact e1
                · exact e2
                · exact e3
                · exact e4
                · exact e5
              · refine g_iload_n (i := 0) (by decide +kernel) rfl ?_
                exact x_iretp hf (by decide +kernel) rfl
def f_River_joined (o : Nat) (p1 : Int32) (p2 : Int32) (p3 : Int32) (h : am_H) : Option (Int32) :=
  (if p3 = (-1 : Int32) then
    some (0 : Int32)
  else
    (am_rd (h.2.1 (o + 8)) 60 p1).bind fun x2 =>
    (if ((x2 >>> (p3 &&& 31)) &&& (1 : Int32)) = 0 then
      some (0 : Int32)
    else
      am_let ((256 : Int32) ||| ((3 : Int32) <<< (((2 : Int32) * p3) &&& 31))) fun y4 =>
      (if (p2 &&& y4) = 0 then
        some (0 : Int32)
      else
        some y4)))
set_option maxRecDepth 100000 in
set_option maxHeartbeats 4000000 in
theorem t_River_joined {o : Nat} {p1 : Int32} {p2 : Int32} {p3 : Int32} {h : am_H} (hs : am_Sh h) (ho : o ∈ am_rvL) {r : Int32} (hf : f_River_joined o p1 p2 p3 h = some r) : am_Ct 0 M_River_joined [.ref o, .int p1, .int p2, .int p3] h 0 0 (am_pI h r) := by
  unfold f_River_joined at hf
  refine am_Ct.of (by decide) rfl (Nat.le_of_ble_eq_true rfl) (ls := [(0, .ref o), (1, .int p1), (2, .int p2), (3, .int p3)]) rfl ?_
  refine g_iload_n (i := 3) (by decide +kernel) rfl ?_
  refine g_iconst (z := (-1)) (v := (-1)) (by decide +kernel) rfl ?_
  refine x_icmp_eq (off := 16) (tgt := 18) hf (by decide +kernel) (by decide) (fun c1 hf => ?_) (fun c1 hf => ?_)
  · refine g_iconst (z := 0) (v := 0) (by decide +kernel) rfl ?_
    exact x_iretp hf (by decide +kernel) rfl
  · refine g_aload_n (i := 0) (by decide +kernel) rfl ?_
    refine x_getr (hs.k (k_Rv ho)) F_River_52 (by decide +kernel) rfl (hs.r (r_Rv_13 ho)) ?_
    refine g_iload_n (i := 1) (by decide +kernel) rfl ?_
    refine x_iald hf (hs.k (k_Rv_13 ho)) (by decide +kernel) (fun x2 hf => ?_)
    refine g_iload_n (i := 3) (by decide +kernel) rfl ?_
    refine g_ishr (by decide +kernel) ?_
    refine g_iconst (z := 1) (v := 1) (by decide +kernel) rfl ?_
    refine g_iand (by decide +kernel) ?_
    refine x_if_ne (off := 5) (tgt := 20) hf (by decide +kernel) (by decide) (fun c3 hf => ?_) (fun c3 hf => ?_)
    · refine g_sipush (z := 256) (v := 256) (by decide +kernel) rfl ?_
      refine g_iconst (z := 3) (v := 3) (by decide +kernel) rfl ?_
      refine g_iconst (z := 2) (v := 2) (by decide +kernel) rfl ?_
      refine g_iload_n (i := 3) (by decide +kernel) rfl ?_
      refine g_imul (by decide +kernel) ?_
      refine g_ishl (by decide +kernel) ?_
      refine g_ior (by decide +kernel) ?_
      refine x_nmI hf (fun y4 hf => ?_)
      refine g_istore (i := 4) (by decide +kernel) rfl (by decide) (ls1 := [(0, .ref o), (1, .int p1), (2, .int p2), (3, .int p3), (4, .int y4)]) rfl ?_
      refine g_iload_n (i := 2) (by decide +kernel) rfl ?_
      refine g_iload (i := 4) (by decide +kernel) rfl ?_
      refine g_iand (by decide +kernel) ?_
      refine x_if_eq (off := 8) (tgt := 43) hf (by decide +kernel) (by decide) (fun c5 hf => ?_) (fun c5 hf => ?_)
      · refine g_iconst (z := 0) (v := 0) (by decide +kernel) rfl ?_
        exact x_iretp hf (by decide +kernel) rfl
      · refine g_iload (i := 4) (by decide +kernel) rfl ?_
        refine g_goto (off := 4) (tgt := 44) (by decide +kernel) (by decide) ?_
        exact x_iretp hf (by decide +kernel) rfl
    · refine g_iconst (z := 0) (v := 0) (by decide +kernel) rfl ?_
      exact x_iretp hf (by decide +kernel) rfl
def f_River_spread (o : Nat) (p1 : Int32) (p2 : Int32) (p3 : Int32) (h : am_H) : Option (Int32) :=
  (am_rd (h.2.1 (o + 6)) 60 p1).bind fun x1 =>
  (am_rd (h.2.1 (o + 7)) 60 p1).bind fun x2 =>
  (f_River_joined o p1 p2 p3 h).bind fun q3 =>
  some (((p2 ||| ((p2 &&& x1) <<< ((2 : Int32) &&& 31))) ||| ((p2 &&& x2) >>> ((2 : Int32) &&& 31))) ||| q3)
set_option maxRecDepth 100000 in
set_option maxHeartbeats 4000000 in
theorem t_River_spread {o : Nat} {p1 : Int32} {p2 : Int32} {p3 : Int32} {h : am_H} (hs : am_Sh h) (ho : o ∈ am_rvL) {r : Int32} (hf : f_River_spread o p1 p2 p3 h = some r) : am_Ct 1 M_River_spread [.ref o, .int p1, .int p2, .int p3] h 0 0 (am_pI h r) := by
  unfold f_River_spread at hf
  refine am_Ct.of (by decide) rfl (Nat.le_of_ble_eq_true rfl) (ls := [(0, .ref o), (1, .int p1), (2, .int p2), (3, .int p3)]) rfl ?_
  refine g_iload_n (i := 2) (by decide +kernel) rfl ?_
  refine g_iload_n (i := 2) (by decide +kernel) rfl ?_
  refine g_aload_n (i := 0) (by decide +kernel) rfl ?_
  refine x_getr (hs.k (k_Rv ho)) F_River_46 (by decide +kernel) rfl (hs.r (r_Rv_11 ho)) ?_
  refine g_iload_n (i := 1) (by decide +kernel) rfl ?_
  refine x_iald hf (hs.k (k_Rv_11 ho)) (by decide +kernel) (fun x1 hf => ?_)
  refine g_iand (by decide +kernel) ?_
  refine g_iconst (z := 2) (v := 2) (by decide +kernel) rfl ?_
  refine g_ishl (by decide +kernel) ?_
  refine g_ior (by decide +kernel) ?_
  refine g_iload_n (i := 2) (by decide +kernel) rfl ?_
  refine g_aload_n (i := 0) (by decide +kernel) rfl ?_
  refine x_getr (hs.k (k_Rv ho)) F_River_49 (by decide +kernel) rfl (hs.r (r_Rv_12 ho)) ?_
  refine g_iload_n (i := 1) (by decide +kernel) rfl ?_
  refine x_iald hf (hs.k (k_Rv_12 ho)) (by decide +kernel) (fun x2 hf => ?_)
  refine g_iand (by decide +kernel) ?_
  refine g_iconst (z := 2) (v := 2) (by decide +kernel) rfl ?_
  refine g_ishr (by decide +kernel) ?_
  refine g_ior (by decide +kernel) ?_
  refine g_aload_n (i := 0) (by decide +kernel) rfl ?_
  refine g_iload_n (i := 1) (by decide +kernel) rfl ?_
  refine g_iload_n (i := 2) (by decide +kernel) rfl ?_
  refine g_iload_n (i := 3) (by decide +kernel) rfl ?_
  refine x_callVIp (as := [.int p1, .int p2, .int p3]) Vi_River_joined Vs_River_joined (hs.k (k_Rv ho)) rfl hf (fun q hq => t_River_joined hs ho hq) Y_River_joined L_River_96 (by decide +kernel) rfl rfl (by decide) (by decide) (fun q3 hf => ?_)
  refine g_ior (by decide +kernel) ?_
  exact x_iretp hf (by decide +kernel) rfl
def f_River_gather (o : Nat) (p1 : Int32) (p2 : Int32) (p3 : Int32) (h : am_H) : Option (Int32) :=
  (am_rd (h.2.1 (o + 6)) 60 p1).bind fun x1 =>
  (am_rd (h.2.1 (o + 7)) 60 p1).bind fun x2 =>
  (f_River_joined o p1 p2 p3 h).bind fun q3 =>
  some (((p2 ||| ((p2 >>> ((2 : Int32) &&& 31)) &&& x1)) ||| ((p2 <<< ((2 : Int32) &&& 31)) &&& x2)) ||| q3)
set_option maxRecDepth 100000 in
set_option maxHeartbeats 4000000 in
theorem t_River_gather {o : Nat} {p1 : Int32} {p2 : Int32} {p3 : Int32} {h : am_H} (hs : am_Sh h) (ho : o ∈ am_rvL) {r : Int32} (hf : f_River_gather o p1 p2 p3 h = some r) : am_Ct 1 M_River_gather [.ref o, .int p1, .int p2, .int p3] h 0 0 (am_pI h r) := by
  unfold f_River_gather at hf
  refine am_Ct.of (by decide) rfl (Nat.le_of_ble_eq_true rfl) (ls := [(0, .ref o), (1, .int p1), (2, .int p2), (3, .int p3)]) rfl ?_
  refine g_iload_n (i := 2) (by decide +kernel) rfl ?_
  refine g_iload_n (i := 2) (by decide +kernel) rfl ?_
  refine g_iconst (z := 2) (v := 2) (by decide +kernel) rfl ?_
  refine g_ishr (by decide +kernel) ?_
  refine g_aload_n (i := 0) (by decide +kernel) rfl ?_
  refine x_getr (hs.k (k_Rv ho)) F_River_46 (by decide +kernel) rfl (hs.r (r_Rv_11 ho)) ?_
  refine g_iload_n (i := 1) (by decide +kernel) rfl ?_
  refine x_iald hf (hs.k (k_Rv_11 ho)) (by decide +kernel) (fun x1 hf => ?_)
  refine g_iand (by decide +kernel) ?_
  refine g_ior (by decide +kernel) ?_
  refine g_iload_n (i := 2) (by decide +kernel) rfl ?_
  refine g_iconst (z := 2) (v := 2) (by decide +kernel) rfl ?_
  refine g_ishl (by decide +kernel) ?_
  refine g_aload_n (i := 0) (by decide +kernel) rfl ?_
  refine x_getr (hs.k (k_Rv ho)) F_River_49 (by decide +kernel) rfl (hs.r (r_Rv_12 ho)) ?_
  refine g_iload_n (i := 1) (by decide +kernel) rfl ?_
  refine x_iald hf (hs.k (k_Rv_12 ho)) (by decide +kernel) (fun x2 hf => ?_)
  refine g_iand (by decide +kernel) ?_
  refine g_ior (by decide +kernel) ?_
  refine g_aload_n (i := 0) (by decide +kernel) rfl ?_
  refine g_iload_n (i := 1) (by decide +kernel) rfl ?_
  refine g_iload_n (i := 2) (by decide +kernel) rfl ?_
  refine g_iload_n (i := 3) (by decide +kernel) rfl ?_
  refine x_callVIp (as := [.int p1, .int p2, .int p3]) Vi_River_joined Vs_River_joined (hs.k (k_Rv ho)) rfl hf (fun q hq => t_River_joined hs ho hq) Y_River_joined L_River_96 (by decide +kernel) rfl rfl (by decide) (by decide) (fun q3 hf => ?_)
  refine g_ior (by decide +kernel) ?_
  exact x_iretp hf (by decide +kernel) rfl
def f_River_clear (o : Nat) (h : am_H) : Option (am_H) :=
  am_let (am_sI h o 0 (2 : Int32)) fun h1 =>
  am_let (am_sI h1 o 1 (1 : Int32)) fun h2 =>
  am_let (am_sI h2 o 2 (0 : Int32)) fun h3 =>
  am_let (am_sI h3 o 3 (0 : Int32)) fun h4 =>
  am_let (am_sI h4 o 4 (0 : Int32)) fun h5 =>
  am_let (am_sI h5 o 5 (0 : Int32)) fun h6 =>
  (f_Arrays_fill (o + 1) 6 (0 : Int32) h6).bind fun q7 =>
  (f_Arrays_fill (o + 3) 5 (0 : Int32) q7).bind fun q8 =>
  (f_Arrays_fill (o + 4) 5 (-1 : Int32) q8).bind fun q9 =>
  (f_Arrays_fill (o + 5) 5 (-1 : Int32) q9).bind fun q10 =>
  some q10
set_option maxRecDepth 100000 in
set_option maxHeartbeats 4000000 in
theorem t_River_clear {o : Nat} {h : am_H} (hs : am_Sh h) (ho : o ∈ am_rvL) {r : am_H} (hf : f_River_clear o h = some r) : am_Ct 1 M_River_clear [.ref o] h 0 0 (am_qV r) := by
  unfold f_River_clear at hf
  refine am_Ct.of (by decide) rfl (Nat.le_of_ble_eq_true rfl) (ls := [(0, .ref o)]) rfl ?_
  refine g_aload_n (i := 0) (by decide +kernel) rfl ?_
  refine g_iconst (z := 2) (v := 2) (by decide +kernel) rfl ?_
  refine x_puti hf hs (hs.k (k_Rv ho)) F_River_9 (by decide +kernel) rfl rfl rfl rfl (fun h1 hf hs => ?_)
  refine g_aload_n (i := 0) (by decide +kernel) rfl ?_
  refine g_iconst (z := 1) (v := 1) (by decide +kernel) rfl ?_
  refine x_puti hf hs (hs.k (k_Rv ho)) F_River_15 (by decide +kernel) rfl rfl rfl rfl (fun h2 hf hs => ?_)
  refine g_aload_n (i := 0) (by decide +kernel) rfl ?_
  refine g_iconst (z := 0) (v := 0) (by decide +kernel) rfl ?_
  refine x_puti hf hs (hs.k (k_Rv ho)) F_River_18 (by decide +kernel) rfl rfl rfl rfl (fun h3 hf hs => ?_)
  refine g_aload_n (i := 0) (by decide +kernel) rfl ?_
  refine g_iconst (z := 0) (v := 0) (by decide +kernel) rfl ?_
  refine x_puti hf hs (hs.k (k_Rv ho)) F_River_21 (by decide +kernel) rfl rfl rfl rfl (fun h4 hf hs => ?_)
  refine g_aload_n (i := 0) (by decide +kernel) rfl ?_
  refine g_iconst (z := 0) (v := 0) (by decide +kernel) rfl ?_
  refine x_puti hf hs (hs.k (k_Rv ho)) F_River_24 (by decide +kernel) rfl rfl rfl rfl (fun h5 hf hs => ?_)
  refine g_aload_n (i := 0) (by decide +kernel) rfl ?_
  refine g_iconst (z := 0) (v := 0) (by decide +kernel) rfl ?_
  refine x_puti hf hs (hs.k (k_Rv ho)) F_River_27 (by decide +kernel) rfl rfl rfl rfl (fun h6 hf hs => ?_)
  refine g_aload_n (i := 0) (by decide +kernel) rfl ?_
  refine x_getr (hs.k (k_Rv ho)) F_River_30 (by decide +kernel) rfl (hs.r (r_Rv_6 ho)) ?_
  refine g_iconst (z := 0) (v := 0) (by decide +kernel) rfl ?_
  refine x_callSV (as := [.ref (o + 1), .int (0 : Int32)]) St_Arrays_fill hf (fun q hq => t_Arrays_fill hs (k_Rv_6 ho) hq) Y_Arrays_fill L_River_55 (by decide +kernel) rfl rfl (by decide) (by decide) (fun q7 hf hs => ?_)
  refine g_aload_n (i := 0) (by decide +kernel) rfl ?_
  refine x_getr (hs.k (k_Rv ho)) F_River_37 (by decide +kernel) rfl (hs.r (r_Rv_8 ho)) ?_
  refine g_iconst (z := 0) (v := 0) (by decide +kernel) rfl ?_
  refine x_callSV (as := [.ref (o + 3), .int (0 : Int32)]) St_Arrays_fill hf (fun q hq => t_Arrays_fill hs (k_Rv_8 ho) hq) Y_Arrays_fill L_River_55 (by decide +kernel) rfl rfl (by decide) (by decide) (fun q8 hf hs => ?_)
  refine g_aload_n (i := 0) (by decide +kernel) rfl ?_
  refine x_getr (hs.k (k_Rv ho)) F_River_40 (by decide +kernel) rfl (hs.r (r_Rv_9 ho)) ?_
  refine g_iconst (z := (-1)) (v := (-1)) (by decide +kernel) rfl ?_
  refine x_callSV (as := [.ref (o + 4), .int (-1 : Int32)]) St_Arrays_fill hf (fun q hq => t_Arrays_fill hs (k_Rv_9 ho) hq) Y_Arrays_fill L_River_55 (by decide +kernel) rfl rfl (by decide) (by decide) (fun q9 hf hs => ?_)
  refine g_aload_n (i := 0) (by decide +kernel) rfl ?_
  refine x_getr (hs.k (k_Rv ho)) F_River_43 (by decide +kernel) rfl (hs.r (r_Rv_10 ho)) ?_
  refine g_iconst (z := (-1)) (v := (-1)) (by decide +kernel) rfl ?_
  refine x_callSV (as := [.ref (o + 5), .int (-1 : Int32)]) St_Arrays_fill hf (fun q hq => t_Arrays_fill hs (k_Rv_10 ho) hq) Y_Arrays_fill L_River_55 (by decide +kernel) rfl rfl (by decide) (by decide) (fun q10 hf hs => ?_)
  exact x_vret hf hs (by decide +kernel) rfl
def f_River_copyFrom (o : Nat) (p1 : Nat) (h : am_H) : Option (am_H) :=
  am_let (am_sI h o 0 (h.2.1 p1 0)) fun h1 =>
  am_let (am_sI h1 o 1 (h1.2.1 p1 1)) fun h2 =>
  am_let (am_sI h2 o 2 (h2.2.1 p1 2)) fun h3 =>
  am_let (am_sI h3 o 3 (h3.2.1 p1 3)) fun h4 =>
  am_let (am_sI h4 o 4 (h4.2.1 p1 4)) fun h5 =>
  am_let (am_sI h5 o 5 (h5.2.1 p1 5)) fun h6 =>
  (am_cp h6 (p1 + 1) 6 (0 : Int32) (o + 1) 6 (0 : Int32) (6 : Int32)).bind fun h7 =>
  (am_cp h7 (p1 + 2) 5 (0 : Int32) (o + 2) 5 (0 : Int32) (5 : Int32)).bind fun h8 =>
  (am_cp h8 (p1 + 3) 5 (0 : Int32) (o + 3) 5 (0 : Int32) (5 : Int32)).bind fun h9 =>
  (am_cp h9 (p1 + 4) 5 (0 : Int32) (o + 4) 5 (0 : Int32) (5 : Int32)).bind fun h10 =>
  (am_cp h10 (p1 + 5) 5 (0 : Int32) (o + 5) 5 (0 : Int32) (5 : Int32)).bind fun h11 =>
  (am_cp h11 (p1 + 6) 60 (0 : Int32) (o + 6) 60 (0 : Int32) (Int32.ofNat 60)).bind fun h12 =>
  (am_cp h12 (p1 + 7) 60 (0 : Int32) (o + 7) 60 (0 : Int32) (Int32.ofNat 60)).bind fun h13 =>
  (am_cp h13 (p1 + 8) 60 (0 : Int32) (o + 8) 60 (0 : Int32) (Int32.ofNat 60)).bind fun h14 =>
  some h14
set_option maxRecDepth 100000 in
set_option maxHeartbeats 4000000 in
theorem t_River_copyFrom {o : Nat} {p1 : Nat} {h : am_H} (hs : am_Sh h) (ho : o ∈ am_rvL) (hp1 : p1 ∈ am_rvL) {r : am_H} (hf : f_River_copyFrom o p1 h = some r) : am_Ct 1 M_River_copyFrom [.ref o, .ref p1] h 0 0 (am_qV r) := by
  unfold f_River_copyFrom at hf
  refine am_Ct.of (by decide) rfl (Nat.le_of_ble_eq_true rfl) (ls := [(0, .ref o), (1, .ref p1)]) rfl ?_
  refine g_aload_n (i := 0) (by decide +kernel) rfl ?_
  refine g_aload_n (i := 1) (by decide +kernel) rfl ?_
  refine x_geti (hs.k (k_Rv hp1)) F_River_9 (by decide +kernel) rfl ?_
  refine x_puti hf hs (hs.k (k_Rv ho)) F_River_9 (by decide +kernel) rfl rfl rfl rfl (fun h1 hf hs => ?_)
  refine g_aload_n (i := 0) (by decide +kernel) rfl ?_
  refine g_aload_n (i := 1) (by decide +kernel) rfl ?_
  refine x_geti (hs.k (k_Rv hp1)) F_River_15 (by decide +kernel) rfl ?_
  refine x_puti hf hs (hs.k (k_Rv ho)) F_River_15 (by decide +kernel) rfl rfl rfl rfl (fun h2 hf hs => ?_)
  refine g_aload_n (i := 0) (by decide +kernel) rfl ?_
  refine g_aload_n (i := 1) (by decide +kernel) rfl ?_
  refine x_geti (hs.k (k_Rv hp1)) F_River_18 (by decide +kernel) rfl ?_
  refine x_puti hf hs (hs.k (k_Rv ho)) F_River_18 (by decide +kernel) rfl rfl rfl rfl (fun h3 hf hs => ?_)
  refine g_aload_n (i := 0) (by decide +kernel) rfl ?_
  refine g_aload_n (i := 1) (by decide +kernel) rfl ?_
  refine x_geti (hs.k (k_Rv hp1)) F_River_21 (by decide +kernel) rfl ?_
  refine x_puti hf hs (hs.k (k_Rv ho)) F_River_21 (by decide +kernel) rfl rfl rfl rfl (fun h4 hf hs => ?_)
  refine g_aload_n (i := 0) (by decide +kernel) rfl ?_
  refine g_aload_n (i := 1) (by decide +kernel) rfl ?_
  refine x_geti (hs.k (k_Rv hp1)) F_River_24 (by decide +kernel) rfl ?_
  refine x_puti hf hs (hs.k (k_Rv ho)) F_River_24 (by decide +kernel) rfl rfl rfl rfl (fun h5 hf hs => ?_)
  refine g_aload_n (i := 0) (by decide +kernel) rfl ?_
  refine g_aload_n (i := 1) (by decide +kernel) rfl ?_
  refine x_geti (hs.k (k_Rv hp1)) F_River_27 (by decide +kernel) rfl ?_
  refine x_puti hf hs (hs.k (k_Rv ho)) F_River_27 (by decide +kernel) rfl rfl rfl rfl (fun h6 hf hs => ?_)
  refine g_aload_n (i := 1) (by decide +kernel) rfl ?_
  refine x_getr (hs.k (k_Rv hp1)) F_River_30 (by decide +kernel) rfl (hs.r (r_Rv_6 hp1)) ?_
  refine g_iconst (z := 0) (v := 0) (by decide +kernel) rfl ?_
  refine g_aload_n (i := 0) (by decide +kernel) rfl ?_
  refine x_getr (hs.k (k_Rv ho)) F_River_30 (by decide +kernel) rfl (hs.r (r_Rv_6 ho)) ?_
  refine g_iconst (z := 0) (v := 0) (by decide +kernel) rfl ?_
  refine g_bipush (z := 6) (v := 6) (by decide +kernel) rfl ?_
  refine x_copy hf hs (hs.k (k_Rv_6 hp1)) (hs.k (k_Rv_6 ho)) L_River_61 (by decide) (by decide) (by decide +kernel) (fun h7 hf hs => ?_)
  refine g_aload_n (i := 1) (by decide +kernel) rfl ?_
  refine x_getr (hs.k (k_Rv hp1)) F_River_34 (by decide +kernel) rfl (hs.r (r_Rv_7 hp1)) ?_
  refine g_iconst (z := 0) (v := 0) (by decide +kernel) rfl ?_
  refine g_aload_n (i := 0) (by decide +kernel) rfl ?_
  refine x_getr (hs.k (k_Rv ho)) F_River_34 (by decide +kernel) rfl (hs.r (r_Rv_7 ho)) ?_
  refine g_iconst (z := 0) (v := 0) (by decide +kernel) rfl ?_
  refine g_iconst (z := 5) (v := 5) (by decide +kernel) rfl ?_
  refine x_copy hf hs (hs.k (k_Rv_7 hp1)) (hs.k (k_Rv_7 ho)) L_River_61 (by decide) (by decide) (by decide +kernel) (fun h8 hf hs => ?_)
  refine g_aload_n (i := 1) (by decide +kernel) rfl ?_
  refine x_getr (hs.k (k_Rv hp1)) F_River_37 (by decide +kernel) rfl (hs.r (r_Rv_8 hp1)) ?_
  refine g_iconst (z := 0) (v := 0) (by decide +kernel) rfl ?_
  refine g_aload_n (i := 0) (by decide +kernel) rfl ?_
  refine x_getr (hs.k (k_Rv ho)) F_River_37 (by decide +kernel) rfl (hs.r (r_Rv_8 ho)) ?_
  refine g_iconst (z := 0) (v := 0) (by decide +kernel) rfl ?_
  refine g_iconst (z := 5) (v := 5) (by decide +kernel) rfl ?_
  refine x_copy hf hs (hs.k (k_Rv_8 hp1)) (hs.k (k_Rv_8 ho)) L_River_61 (by decide) (by decide) (by decide +kernel) (fun h9 hf hs => ?_)
  refine g_aload_n (i := 1) (by decide +kernel) rfl ?_
  refine x_getr (hs.k (k_Rv hp1)) F_River_40 (by decide +kernel) rfl (hs.r (r_Rv_9 hp1)) ?_
  refine g_iconst (z := 0) (v := 0) (by decide +kernel) rfl ?_
  refine g_aload_n (i := 0) (by decide +kernel) rfl ?_
  refine x_getr (hs.k (k_Rv ho)) F_River_40 (by decide +kernel) rfl (hs.r (r_Rv_9 ho)) ?_
  refine g_iconst (z := 0) (v := 0) (by decide +kernel) rfl ?_
  refine g_iconst (z := 5) (v := 5) (by decide +kernel) rfl ?_
  refine x_copy hf hs (hs.k (k_Rv_9 hp1)) (hs.k (k_Rv_9 ho)) L_River_61 (by decide) (by decide) (by decide +kernel) (fun h10 hf hs => ?_)
  refine g_aload_n (i := 1) (by decide +kernel) rfl ?_
  refine x_getr (hs.k (k_Rv hp1)) F_River_43 (by decide +kernel) rfl (hs.r (r_Rv_10 hp1)) ?_
  refine g_iconst (z := 0) (v := 0) (by decide +kernel) rfl ?_
  refine g_aload_n (i := 0) (by decide +kernel) rfl ?_
  refine x_getr (hs.k (k_Rv ho)) F_River_43 (by decide +kernel) rfl (hs.r (r_Rv_10 ho)) ?_
  refine g_iconst (z := 0) (v := 0) (by decide +kernel) rfl ?_
  refine g_iconst (z := 5) (v := 5) (by decide +kernel) rfl ?_
  refine x_copy hf hs (hs.k (k_Rv_10 hp1)) (hs.k (k_Rv_10 ho)) L_River_61 (by decide) (by decide) (by decide +kernel) (fun h11 hf hs => ?_)
  refine g_aload_n (i := 1) (by decide +kernel) rfl ?_
  refine x_getr (hs.k (k_Rv hp1)) F_River_46 (by decide +kernel) rfl (hs.r (r_Rv_11 hp1)) ?_
  refine g_iconst (z := 0) (v := 0) (by decide +kernel) rfl ?_
  refine g_aload_n (i := 0) (by decide +kernel) rfl ?_
  refine x_getr (hs.k (k_Rv ho)) F_River_46 (by decide +kernel) rfl (hs.r (r_Rv_11 ho)) ?_
  refine g_iconst (z := 0) (v := 0) (by decide +kernel) rfl ?_
  refine g_aload_n (i := 0) (by decide +kernel) rfl ?_
  refine x_getr (hs.k (k_Rv ho)) F_River_46 (by decide +kernel) rfl (hs.r (r_Rv_11 ho)) ?_
  refine g_alen (t0 := 0) (hs.k (k_Rv_11 ho)) rfl rfl (by decide +kernel) ?_
  refine x_copy hf hs (hs.k (k_Rv_11 hp1)) (hs.k (k_Rv_11 ho)) L_River_61 (by decide) (by decide) (by decide +kernel) (fun h12 hf hs => ?_)
  refine g_aload_n (i := 1) (by decide +kernel) rfl ?_
  refine x_getr (hs.k (k_Rv hp1)) F_River_49 (by decide +kernel) rfl (hs.r (r_Rv_12 hp1)) ?_
  refine g_iconst (z := 0) (v := 0) (by decide +kernel) rfl ?_
  refine g_aload_n (i := 0) (by decide +kernel) rfl ?_
  refine x_getr (hs.k (k_Rv ho)) F_River_49 (by decide +kernel) rfl (hs.r (r_Rv_12 ho)) ?_
  refine g_iconst (z := 0) (v := 0) (by decide +kernel) rfl ?_
  refine g_aload_n (i := 0) (by decide +kernel) rfl ?_
  refine x_getr (hs.k (k_Rv ho)) F_River_49 (by decide +kernel) rfl (hs.r (r_Rv_12 ho)) ?_
  refine g_alen (t0 := 0) (hs.k (k_Rv_12 ho)) rfl rfl (by decide +kernel) ?_
  refine x_copy hf hs (hs.k (k_Rv_12 hp1)) (hs.k (k_Rv_12 ho)) L_River_61 (by decide) (by decide) (by decide +kernel) (fun h13 hf hs => ?_)
  refine g_aload_n (i := 1) (by decide +kernel) rfl ?_
  refine x_getr (hs.k (k_Rv hp1)) F_River_52 (by decide +kernel) rfl (hs.r (r_Rv_13 hp1)) ?_
  refine g_iconst (z := 0) (v := 0) (by decide +kernel) rfl ?_
  refine g_aload_n (i := 0) (by decide +kernel) rfl ?_
  refine x_getr (hs.k (k_Rv ho)) F_River_52 (by decide +kernel) rfl (hs.r (r_Rv_13 ho)) ?_
  refine g_iconst (z := 0) (v := 0) (by decide +kernel) rfl ?_
  refine g_aload_n (i := 0) (by decide +kernel) rfl ?_
  refine x_getr (hs.k (k_Rv ho)) F_River_52 (by decide +kernel) rfl (hs.r (r_Rv_13 ho)) ?_
  refine g_alen (t0 := 0) (hs.k (k_Rv_13 ho)) rfl rfl (by decide +kernel) ?_
  refine x_copy hf hs (hs.k (k_Rv_13 hp1)) (hs.k (k_Rv_13 ho)) L_River_61 (by decide) (by decide) (by decide +kernel) (fun h14 hf hs => ?_)
  exact x_vret hf hs (by decide +kernel) rfl
