def am_M_Rd (t : Nat) : am_M := match t with
  | 0 => M_Reader_readTruth
  | 1 => M_Reader_readBoth
  | 2 => M_Reader_readUnit
  | 3 => M_Reader_readSum
  | 4 => M_Reader_readTerm
  | _ => M_Reader_readAtom
def f_Reader_readTruth_L7 (rec : Nat → Int32 → am_H → Option (am_H)) (p1 : Int32) : Nat → Int32 → am_H → Option (Int32 × am_H)
  | 0, _, _ => none
  | n + 1, v2, h =>
    (if (900 : Int32) ≤ v2 then
      some (v2, h)
    else
      (f_Reader_take (116 : Int32) h).bind fun q3 =>
      (if q3.1 = true then
        (rec 1 p1 q3.2).bind fun q5 =>
        (f_Law_put (am_rf q5 61 7) (2007 : Int32) q5).bind fun q7 =>
        f_Reader_readTruth_L7 rec p1 n (v2 + (1 : Int32)) q7
      else
        some (v2, q3.2)))
set_option maxRecDepth 100000 in
set_option maxHeartbeats 4000000 in
theorem t_Reader_readTruth_L7 {rec : Nat → Int32 → am_H → Option (am_H)} {e : Nat} (hrec : ∀ (t : Nat) (a0 : Int32) (h : am_H), am_Sh h → ∀ q, rec t a0 h = some q → am_Ct e (am_M_Rd t) [.ref 61, .int a0] h 0 0 (am_qV q)) (he : 3 ≤ e) {p1 : Int32}  {Q : Option Value → am_H → Prop} : ∀ (n : Nat) (v2 : Int32) (h : am_H) (q : Int32 × am_H), am_Sh h → f_Reader_readTruth_L7 rec p1 n v2 h = some q → (am_Sh q.2 → am_G (e + 1) M_Reader_readTruth 0 0 Q 44 [(0, .ref 61), (1, .int p1), (2, .int q.1)] [] q.2 0 0) → am_G (e + 1) M_Reader_readTruth 0 0 Q 7 [(0, .ref 61), (1, .int p1), (2, .int v2)] [] h 0 0 := by
  intro n
  induction n with
  | zero =>
    intro v2 h q hs hf kont
    rw [f_Reader_readTruth_L7] at hf
    cases hf
  | succ n ih =>
    intro v2 h q hs hf kont
    rw [f_Reader_readTruth_L7] at hf
    refine g_iload_n (i := 2) (by decide +kernel) rfl ?_
    refine g_sipush (z := 900) (v := 900) (by decide +kernel) rfl ?_
    refine x_icmp_ge (off := 33) (tgt := 44) hf (by decide +kernel) (by decide) (fun c2 hf => ?_) (fun c2 hf => ?_)
    · cases hf
      exact am_G.forget (am_subp [0, 1, 2] rfl) (kont hs)
    · refine g_aload_n (i := 0) (by decide +kernel) rfl ?_
      refine g_bipush (z := 116) (v := 116) (by decide +kernel) rfl ?_
      refine x_callVB (as := [.int (116 : Int32)]) Vi_Reader_take Vs_Reader_take (hs.k k_61) rfl hf (fun q hq => t_Reader_take hs  hq) Y_Reader_take L_Reader_114 (by decide +kernel) rfl rfl (Nat.le_of_ble_eq_true rfl) (by omega) (Nat.le_refl _) (Nat.le_refl _) (fun q3 hf hs => ?_)
      refine x_ifb_eq (off := 24) (tgt := 44) hf (by decide +kernel) (by decide) (fun c4 hf => ?_) (fun c4 hf => ?_)
      · cases hf
        exact am_G.forget (am_subp [0, 1, 2] rfl) (kont hs)
      · refine g_aload_n (i := 0) (by decide +kernel) rfl ?_
        refine g_iload_n (i := 1) (by decide +kernel) rfl ?_
        refine x_callVV (as := [.int p1]) Vi_Reader_readBoth Vs_Reader_readBoth (hs.k k_61) rfl hf (fun q hq => hrec 1 _ _ hs q hq) Y_Reader_readBoth L_Reader_141 (by decide +kernel) rfl rfl (Nat.le_of_ble_eq_true rfl) (by omega) (Nat.le_refl _) (Nat.le_refl _) (fun q5 hf hs => ?_)
        refine g_aload_n (i := 0) (by decide +kernel) rfl ?_
        have hm6 := hs.law.2
        refine x_getr (hs.k k_61) F_Reader_47 (by decide +kernel) rfl hs.law.1 ?_
        refine g_sipush (z := 2007) (v := 2007) (by decide +kernel) rfl ?_
        refine x_callVV (as := [.int (2007 : Int32)]) Vi_Law_put Vs_Law_put (hs.k (k_Lw hm6)) rfl hf (fun q hq => t_Law_put hs hm6 hq) Y_Law_put L_Reader_144 (by decide +kernel) rfl rfl (Nat.le_of_ble_eq_true rfl) (by omega) (Nat.le_refl _) (Nat.le_refl _) (fun q7 hf hs => ?_)
        refine g_iinc (i := 2) (z := 1) (v := (v2 + (1 : Int32))) (by decide +kernel) rfl rfl rfl (by decide) (ls1 := [(0, .ref 61), (1, .int p1), (2, .int (v2 + (1 : Int32)))]) rfl ?_
        refine g_goto (off := (-34)) (tgt := 7) (by decide +kernel) (by decide) ?_
        exact am_G.forget (am_subp [0, 1, 2] rfl) (ih _ _ _ hs hf kont)
def b_Reader_readTruth (rec : Nat → Int32 → am_H → Option (am_H)) (p1 : Int32) (h : am_H) : Option (am_H) :=
  (rec 1 p1 h).bind fun q1 =>
  (f_Reader_readTruth_L7 rec p1 am_fu (0 : Int32) q1).bind fun q8 =>
  some q8.2
set_option maxRecDepth 100000 in
set_option maxHeartbeats 4000000 in
theorem tb_Reader_readTruth {rec : Nat → Int32 → am_H → Option (am_H)} {e : Nat} (hrec : ∀ (t : Nat) (a0 : Int32) (h : am_H), am_Sh h → ∀ q, rec t a0 h = some q → am_Ct e (am_M_Rd t) [.ref 61, .int a0] h 0 0 (am_qV q)) (he : 3 ≤ e) {p1 : Int32} {h : am_H} (hs : am_Sh h)  {r : am_H} (hf : b_Reader_readTruth rec p1 h = some r) : am_Ct (e + 1) M_Reader_readTruth [.ref 61, .int p1] h 0 0 (am_qV r) := by
  unfold b_Reader_readTruth at hf
  refine am_Ct.of (by decide) rfl (Nat.le_of_ble_eq_true rfl) (ls := [(0, .ref 61), (1, .int p1)]) rfl ?_
  refine g_aload_n (i := 0) (by decide +kernel) rfl ?_
  refine g_iload_n (i := 1) (by decide +kernel) rfl ?_
  refine x_callVV (as := [.int p1]) Vi_Reader_readBoth Vs_Reader_readBoth (hs.k k_61) rfl hf (fun q hq => hrec 1 _ _ hs q hq) Y_Reader_readBoth L_Reader_141 (by decide +kernel) rfl rfl (Nat.le_of_ble_eq_true rfl) (by omega) (Nat.le_refl _) (Nat.le_refl _) (fun q1 hf hs => ?_)
  refine g_iconst (z := 0) (v := 0) (by decide +kernel) rfl ?_
  refine g_istore_n (i := 2) (by decide +kernel) rfl (by decide) (ls1 := [(0, .ref 61), (1, .int p1), (2, .int (0 : Int32))]) rfl ?_
  obtain ⟨q8, hqq8, hf⟩ := Option.bind_eq_some_iff.mp hf
  refine am_G.forget (am_subp [0, 1, 2] rfl) (t_Reader_readTruth_L7 hrec he  am_fu _ _ q8 hs hqq8 (fun hs => ?_))
  exact x_vret hf hs (by decide +kernel) rfl (Nat.le_refl _) (Nat.le_refl _)
def f_Reader_readBoth_L7 (rec : Nat → Int32 → am_H → Option (am_H)) (p1 : Int32) : Nat → Int32 → am_H → Option (Int32 × am_H)
  | 0, _, _ => none
  | n + 1, v2, h =>
    (if (900 : Int32) ≤ v2 then
      some (v2, h)
    else
      (f_Reader_take (117 : Int32) h).bind fun q3 =>
      (if q3.1 = true then
        (rec 2 p1 q3.2).bind fun q5 =>
        (f_Law_put (am_rf q5 61 7) (2006 : Int32) q5).bind fun q7 =>
        f_Reader_readBoth_L7 rec p1 n (v2 + (1 : Int32)) q7
      else
        some (v2, q3.2)))
set_option maxRecDepth 100000 in
set_option maxHeartbeats 4000000 in
theorem t_Reader_readBoth_L7 {rec : Nat → Int32 → am_H → Option (am_H)} {e : Nat} (hrec : ∀ (t : Nat) (a0 : Int32) (h : am_H), am_Sh h → ∀ q, rec t a0 h = some q → am_Ct e (am_M_Rd t) [.ref 61, .int a0] h 0 0 (am_qV q)) (he : 3 ≤ e) {p1 : Int32}  {Q : Option Value → am_H → Prop} : ∀ (n : Nat) (v2 : Int32) (h : am_H) (q : Int32 × am_H), am_Sh h → f_Reader_readBoth_L7 rec p1 n v2 h = some q → (am_Sh q.2 → am_G (e + 1) M_Reader_readBoth 0 0 Q 44 [(0, .ref 61), (1, .int p1), (2, .int q.1)] [] q.2 0 0) → am_G (e + 1) M_Reader_readBoth 0 0 Q 7 [(0, .ref 61), (1, .int p1), (2, .int v2)] [] h 0 0 := by
  intro n
  induction n with
  | zero =>
    intro v2 h q hs hf kont
    rw [f_Reader_readBoth_L7] at hf
    cases hf
  | succ n ih =>
    intro v2 h q hs hf kont
    rw [f_Reader_readBoth_L7] at hf
    refine g_iload_n (i := 2) (by decide +kernel) rfl ?_
    refine g_sipush (z := 900) (v := 900) (by decide +kernel) rfl ?_
    refine x_icmp_ge (off := 33) (tgt := 44) hf (by decide +kernel) (by decide) (fun c2 hf => ?_) (fun c2 hf => ?_)
    · cases hf
      exact am_G.forget (am_subp [0, 1, 2] rfl) (kont hs)
    · refine g_aload_n (i := 0) (by decide +kernel) rfl ?_
      refine g_bipush (z := 117) (v := 117) (by decide +kernel) rfl ?_
      refine x_callVB (as := [.int (117 : Int32)]) Vi_Reader_take Vs_Reader_take (hs.k k_61) rfl hf (fun q hq => t_Reader_take hs  hq) Y_Reader_take L_Reader_114 (by decide +kernel) rfl rfl (Nat.le_of_ble_eq_true rfl) (by omega) (Nat.le_refl _) (Nat.le_refl _) (fun q3 hf hs => ?_)
      refine x_ifb_eq (off := 24) (tgt := 44) hf (by decide +kernel) (by decide) (fun c4 hf => ?_) (fun c4 hf => ?_)
      · cases hf
        exact am_G.forget (am_subp [0, 1, 2] rfl) (kont hs)
      · refine g_aload_n (i := 0) (by decide +kernel) rfl ?_
        refine g_iload_n (i := 1) (by decide +kernel) rfl ?_
        refine x_callVV (as := [.int p1]) Vi_Reader_readUnit Vs_Reader_readUnit (hs.k k_61) rfl hf (fun q hq => hrec 2 _ _ hs q hq) Y_Reader_readUnit L_Reader_147 (by decide +kernel) rfl rfl (Nat.le_of_ble_eq_true rfl) (by omega) (Nat.le_refl _) (Nat.le_refl _) (fun q5 hf hs => ?_)
        refine g_aload_n (i := 0) (by decide +kernel) rfl ?_
        have hm6 := hs.law.2
        refine x_getr (hs.k k_61) F_Reader_47 (by decide +kernel) rfl hs.law.1 ?_
        refine g_sipush (z := 2006) (v := 2006) (by decide +kernel) rfl ?_
        refine x_callVV (as := [.int (2006 : Int32)]) Vi_Law_put Vs_Law_put (hs.k (k_Lw hm6)) rfl hf (fun q hq => t_Law_put hs hm6 hq) Y_Law_put L_Reader_144 (by decide +kernel) rfl rfl (Nat.le_of_ble_eq_true rfl) (by omega) (Nat.le_refl _) (Nat.le_refl _) (fun q7 hf hs => ?_)
        refine g_iinc (i := 2) (z := 1) (v := (v2 + (1 : Int32))) (by decide +kernel) rfl rfl rfl (by decide) (ls1 := [(0, .ref 61), (1, .int p1), (2, .int (v2 + (1 : Int32)))]) rfl ?_
        refine g_goto (off := (-34)) (tgt := 7) (by decide +kernel) (by decide) ?_
        exact am_G.forget (am_subp [0, 1, 2] rfl) (ih _ _ _ hs hf kont)
def b_Reader_readBoth (rec : Nat → Int32 → am_H → Option (am_H)) (p1 : Int32) (h : am_H) : Option (am_H) :=
  (rec 2 p1 h).bind fun q1 =>
  (f_Reader_readBoth_L7 rec p1 am_fu (0 : Int32) q1).bind fun q8 =>
  some q8.2
set_option maxRecDepth 100000 in
set_option maxHeartbeats 4000000 in
theorem tb_Reader_readBoth {rec : Nat → Int32 → am_H → Option (am_H)} {e : Nat} (hrec : ∀ (t : Nat) (a0 : Int32) (h : am_H), am_Sh h → ∀ q, rec t a0 h = some q → am_Ct e (am_M_Rd t) [.ref 61, .int a0] h 0 0 (am_qV q)) (he : 3 ≤ e) {p1 : Int32} {h : am_H} (hs : am_Sh h)  {r : am_H} (hf : b_Reader_readBoth rec p1 h = some r) : am_Ct (e + 1) M_Reader_readBoth [.ref 61, .int p1] h 0 0 (am_qV r) := by
  unfold b_Reader_readBoth at hf
  refine am_Ct.of (by decide) rfl (Nat.le_of_ble_eq_true rfl) (ls := [(0, .ref 61), (1, .int p1)]) rfl ?_
  refine g_aload_n (i := 0) (by decide +kernel) rfl ?_
  refine g_iload_n (i := 1) (by decide +kernel) rfl ?_
  refine x_callVV (as := [.int p1]) Vi_Reader_readUnit Vs_Reader_readUnit (hs.k k_61) rfl hf (fun q hq => hrec 2 _ _ hs q hq) Y_Reader_readUnit L_Reader_147 (by decide +kernel) rfl rfl (Nat.le_of_ble_eq_true rfl) (by omega) (Nat.le_refl _) (Nat.le_refl _) (fun q1 hf hs => ?_)
  refine g_iconst (z := 0) (v := 0) (by decide +kernel) rfl ?_
  refine g_istore_n (i := 2) (by decide +kernel) rfl (by decide) (ls1 := [(0, .ref 61), (1, .int p1), (2, .int (0 : Int32))]) rfl ?_
  obtain ⟨q8, hqq8, hf⟩ := Option.bind_eq_some_iff.mp hf
  refine am_G.forget (am_subp [0, 1, 2] rfl) (t_Reader_readBoth_L7 hrec he  am_fu _ _ q8 hs hqq8 (fun hs => ?_))
  exact x_vret hf hs (by decide +kernel) rfl (Nat.le_refl _) (Nat.le_refl _)
def b_Reader_readUnit (rec : Nat → Int32 → am_H → Option (am_H)) (p1 : Int32) (h : am_H) : Option (am_H) :=
  (f_Reader_kind  h).bind fun q1 =>
  (if q1 = (118 : Int32) then
    (if p1 < (6 : Int32) then
      (f_Reader_take (118 : Int32) h).bind fun q4 =>
      (if q4.1 = true then
        (rec 2 (p1 + (1 : Int32)) q4.2).bind fun q16 =>
        (f_Law_put (am_rf q16 61 7) (2008 : Int32) q16).bind fun q18 =>
        some q18
      else
        (f_Reader_take (91 : Int32) q4.2).bind fun q6 =>
        (if q6.1 = true then
          (rec 0 (p1 + (1 : Int32)) q6.2).bind fun q14 =>
          (f_Reader_expect (93 : Int32) q14).bind fun q15 =>
          some q15
        else
          (rec 3 p1 q6.2).bind fun q8 =>
          (f_Reader_comparing  q8).bind fun q9 =>
          am_let (am_sI q9.2 61 3 ((q9.2.2.1 61 3) + (1 : Int32))) fun h10 =>
          (rec 3 p1 h10).bind fun q11 =>
          (f_Law_put (am_rf q11 61 7) q9.1 q11).bind fun q13 =>
          some q13))
    else
      (f_Reader_blame (4 : Int32) h).bind fun q19 =>
      some q19)
  else
    (if q1 = (91 : Int32) then
      (if p1 < (6 : Int32) then
        (f_Reader_take (118 : Int32) h).bind fun q37 =>
        (if q37.1 = true then
          (rec 2 (p1 + (1 : Int32)) q37.2).bind fun q49 =>
          (f_Law_put (am_rf q49 61 7) (2008 : Int32) q49).bind fun q51 =>
          some q51
        else
          (f_Reader_take (91 : Int32) q37.2).bind fun q39 =>
          (if q39.1 = true then
            (rec 0 (p1 + (1 : Int32)) q39.2).bind fun q47 =>
            (f_Reader_expect (93 : Int32) q47).bind fun q48 =>
            some q48
          else
            (rec 3 p1 q39.2).bind fun q41 =>
            (f_Reader_comparing  q41).bind fun q42 =>
            am_let (am_sI q42.2 61 3 ((q42.2.2.1 61 3) + (1 : Int32))) fun h43 =>
            (rec 3 p1 h43).bind fun q44 =>
            (f_Law_put (am_rf q44 61 7) q42.1 q44).bind fun q46 =>
            some q46))
      else
        (f_Reader_blame (4 : Int32) h).bind fun q52 =>
        some q52)
    else
      (f_Reader_take (118 : Int32) h).bind fun q21 =>
      (if q21.1 = true then
        (rec 2 (p1 + (1 : Int32)) q21.2).bind fun q33 =>
        (f_Law_put (am_rf q33 61 7) (2008 : Int32) q33).bind fun q35 =>
        some q35
      else
        (f_Reader_take (91 : Int32) q21.2).bind fun q23 =>
        (if q23.1 = true then
          (rec 0 (p1 + (1 : Int32)) q23.2).bind fun q31 =>
          (f_Reader_expect (93 : Int32) q31).bind fun q32 =>
          some q32
        else
          (rec 3 p1 q23.2).bind fun q25 =>
          (f_Reader_comparing  q25).bind fun q26 =>
          am_let (am_sI q26.2 61 3 ((q26.2.2.1 61 3) + (1 : Int32))) fun h27 =>
          (rec 3 p1 h27).bind fun q28 =>
          (f_Law_put (am_rf q28 61 7) q26.1 q28).bind fun q30 =>
          some q30))))
set_option maxRecDepth 100000 in
set_option maxHeartbeats 4000000 in
theorem tb_Reader_readUnit {rec : Nat → Int32 → am_H → Option (am_H)} {e : Nat} (hrec : ∀ (t : Nat) (a0 : Int32) (h : am_H), am_Sh h → ∀ q, rec t a0 h = some q → am_Ct e (am_M_Rd t) [.ref 61, .int a0] h 0 0 (am_qV q)) (he : 3 ≤ e) {p1 : Int32} {h : am_H} (hs : am_Sh h)  {r : am_H} (hf : b_Reader_readUnit rec p1 h = some r) : am_Ct (e + 1) M_Reader_readUnit [.ref 61, .int p1] h 0 0 (am_qV r) := by
  unfold b_Reader_readUnit at hf
  refine am_Ct.of (by decide) rfl (Nat.le_of_ble_eq_true rfl) (ls := [(0, .ref 61), (1, .int p1)]) rfl ?_
  refine g_aload_n (i := 0) (by decide +kernel) rfl ?_
  refine x_callVIp (as := []) Vi_Reader_kind Vs_Reader_kind (hs.k k_61) rfl hf (fun q hq => t_Reader_kind hs  hq) Y_Reader_kind L_Reader_61 (by decide +kernel) rfl rfl (Nat.le_of_ble_eq_true rfl) (by omega) (Nat.le_refl _) (Nat.le_refl _) (fun q1 hf => ?_)
  refine g_istore_n (i := 2) (by decide +kernel) rfl (by decide) (ls1 := [(0, .ref 61), (1, .int p1), (2, .int q1)]) rfl ?_
  refine g_iload_n (i := 2) (by decide +kernel) rfl ?_
  refine g_bipush (z := 118) (v := 118) (by decide +kernel) rfl ?_
  refine x_icmp_eq (off := 9) (tgt := 17) hf (by decide +kernel) (by decide) (fun c2 hf => ?_) (fun c2 hf => ?_)
  · refine g_iload_n (i := 1) (by decide +kernel) rfl ?_
    refine g_bipush (z := 6) (v := 6) (by decide +kernel) rfl ?_
    refine x_icmp_lt (off := 11) (tgt := 31) hf (by decide +kernel) (by decide) (fun c3 hf => ?_) (fun c3 hf => ?_)
    · refine g_aload_n (i := 0) (by decide +kernel) rfl ?_
      refine g_bipush (z := 118) (v := 118) (by decide +kernel) rfl ?_
      refine x_callVB (as := [.int (118 : Int32)]) Vi_Reader_take Vs_Reader_take (hs.k k_61) rfl hf (fun q hq => t_Reader_take hs  hq) Y_Reader_take L_Reader_114 (by decide +kernel) rfl rfl (Nat.le_of_ble_eq_true rfl) (by omega) (Nat.le_refl _) (Nat.le_refl _) (fun q4 hf hs => ?_)
      refine x_ifb_eq (off := 23) (tgt := 60) hf (by decide +kernel) (by decide) (fun c5 hf => ?_) (fun c5 hf => ?_)
      · refine g_aload_n (i := 0) (by decide +kernel) rfl ?_
        refine g_bipush (z := 91) (v := 91) (by decide +kernel) rfl ?_
        refine x_callVB (as := [.int (91 : Int32)]) Vi_Reader_take Vs_Reader_take (hs.k k_61) rfl hf (fun q hq => t_Reader_take hs  hq) Y_Reader_take L_Reader_114 (by decide +kernel) rfl rfl (Nat.le_of_ble_eq_true rfl) (by omega) (Nat.le_refl _) (Nat.le_refl _) (fun q6 hf hs => ?_)
        refine x_ifb_eq (off := 19) (tgt := 85) hf (by decide +kernel) (by decide) (fun c7 hf => ?_) (fun c7 hf => ?_)
        · refine g_aload_n (i := 0) (by decide +kernel) rfl ?_
          refine g_iload_n (i := 1) (by decide +kernel) rfl ?_
          refine x_callVV (as := [.int p1]) Vi_Reader_readSum Vs_Reader_readSum (hs.k k_61) rfl hf (fun q hq => hrec 3 _ _ hs q hq) Y_Reader_readSum L_Reader_150 (by decide +kernel) rfl rfl (Nat.le_of_ble_eq_true rfl) (by omega) (Nat.le_refl _) (Nat.le_refl _) (fun q8 hf hs => ?_)
          refine g_aload_n (i := 0) (by decide +kernel) rfl ?_
          refine x_callVI (as := []) Vi_Reader_comparing Vs_Reader_comparing (hs.k k_61) rfl hf (fun q hq => t_Reader_comparing hs  hq) Y_Reader_comparing L_Reader_153 (by decide +kernel) rfl rfl (Nat.le_of_ble_eq_true rfl) (by omega) (Nat.le_refl _) (Nat.le_refl _) (fun q9 hf hs => ?_)
          refine g_istore_n (i := 3) (by decide +kernel) rfl (by decide) (ls1 := [(0, .ref 61), (1, .int p1), (2, .int q1), (3, .int q9.1)]) rfl ?_
          refine g_aload_n (i := 0) (by decide +kernel) rfl ?_
          refine g_dup (by decide +kernel) rfl ?_
          refine x_geti (hs.k k_61) F_Reader_25 (by decide +kernel) rfl ?_
          refine g_iconst (z := 1) (v := 1) (by decide +kernel) rfl ?_
          refine g_iadd (by decide +kernel) ?_
          refine x_puti hf hs (hs.k k_61) F_Reader_25 (by decide +kernel) rfl rfl rfl rfl (fun h10 hf hs => ?_)
          refine g_aload_n (i := 0) (by decide +kernel) rfl ?_
          refine g_iload_n (i := 1) (by decide +kernel) rfl ?_
          refine x_callVV (as := [.int p1]) Vi_Reader_readSum Vs_Reader_readSum (hs.k k_61) rfl hf (fun q hq => hrec 3 _ _ hs q hq) Y_Reader_readSum L_Reader_150 (by decide +kernel) rfl rfl (Nat.le_of_ble_eq_true rfl) (by omega) (Nat.le_refl _) (Nat.le_refl _) (fun q11 hf hs => ?_)
          refine g_aload_n (i := 0) (by decide +kernel) rfl ?_
          have hm12 := hs.law.2
          refine x_getr (hs.k k_61) F_Reader_47 (by decide +kernel) rfl hs.law.1 ?_
          refine g_iload_n (i := 3) (by decide +kernel) rfl ?_
          refine x_callVV (as := [.int q9.1]) Vi_Law_put Vs_Law_put (hs.k (k_Lw hm12)) rfl hf (fun q hq => t_Law_put hs hm12 hq) Y_Law_put L_Reader_144 (by decide +kernel) rfl rfl (Nat.le_of_ble_eq_true rfl) (by omega) (Nat.le_refl _) (Nat.le_refl _) (fun q13 hf hs => ?_)
          exact x_vret hf hs (by decide +kernel) rfl (Nat.le_refl _) (Nat.le_refl _)
        · refine g_aload_n (i := 0) (by decide +kernel) rfl ?_
          refine g_iload_n (i := 1) (by decide +kernel) rfl ?_
          refine g_iconst (z := 1) (v := 1) (by decide +kernel) rfl ?_
          refine g_iadd (by decide +kernel) ?_
          refine x_callVV (as := [.int (p1 + (1 : Int32))]) Vi_Reader_readTruth Vs_Reader_readTruth (hs.k k_61) rfl hf (fun q hq => hrec 0 _ _ hs q hq) Y_Reader_readTruth L_Reader_105 (by decide +kernel) rfl rfl (Nat.le_of_ble_eq_true rfl) (by omega) (Nat.le_refl _) (Nat.le_refl _) (fun q14 hf hs => ?_)
          refine g_aload_n (i := 0) (by decide +kernel) rfl ?_
          refine g_bipush (z := 93) (v := 93) (by decide +kernel) rfl ?_
          refine x_callVV (as := [.int (93 : Int32)]) Vi_Reader_expect Vs_Reader_expect (hs.k k_61) rfl hf (fun q hq => t_Reader_expect hs  hq) Y_Reader_expect L_Reader_68 (by decide +kernel) rfl rfl (Nat.le_of_ble_eq_true rfl) (by omega) (Nat.le_refl _) (Nat.le_refl _) (fun q15 hf hs => ?_)
          refine g_goto (off := 36) (tgt := 118) (by decide +kernel) (by decide) ?_
          exact x_vret hf hs (by decide +kernel) rfl (Nat.le_refl _) (Nat.le_refl _)
      · refine g_aload_n (i := 0) (by decide +kernel) rfl ?_
        refine g_iload_n (i := 1) (by decide +kernel) rfl ?_
        refine g_iconst (z := 1) (v := 1) (by decide +kernel) rfl ?_
        refine g_iadd (by decide +kernel) ?_
        refine x_callVV (as := [.int (p1 + (1 : Int32))]) Vi_Reader_readUnit Vs_Reader_readUnit (hs.k k_61) rfl hf (fun q hq => hrec 2 _ _ hs q hq) Y_Reader_readUnit L_Reader_147 (by decide +kernel) rfl rfl (Nat.le_of_ble_eq_true rfl) (by omega) (Nat.le_refl _) (Nat.le_refl _) (fun q16 hf hs => ?_)
        refine g_aload_n (i := 0) (by decide +kernel) rfl ?_
        have hm17 := hs.law.2
        refine x_getr (hs.k k_61) F_Reader_47 (by decide +kernel) rfl hs.law.1 ?_
        refine g_sipush (z := 2008) (v := 2008) (by decide +kernel) rfl ?_
        refine x_callVV (as := [.int (2008 : Int32)]) Vi_Law_put Vs_Law_put (hs.k (k_Lw hm17)) rfl hf (fun q hq => t_Law_put hs hm17 hq) Y_Law_put L_Reader_144 (by decide +kernel) rfl rfl (Nat.le_of_ble_eq_true rfl) (by omega) (Nat.le_refl _) (Nat.le_refl _) (fun q18 hf hs => ?_)
        refine g_goto (off := 61) (tgt := 118) (by decide +kernel) (by decide) ?_
        exact x_vret hf hs (by decide +kernel) rfl (Nat.le_refl _) (Nat.le_refl _)
    · refine g_aload_n (i := 0) (by decide +kernel) rfl ?_
      refine g_iconst (z := 4) (v := 4) (by decide +kernel) rfl ?_
      refine x_callVV (as := [.int (4 : Int32)]) Vi_Reader_blame Vs_Reader_blame (hs.k k_61) rfl hf (fun q hq => t_Reader_blame hs  hq) Y_Reader_blame L_Reader_95 (by decide +kernel) rfl rfl (Nat.le_of_ble_eq_true rfl) (by omega) (Nat.le_refl _) (Nat.le_refl _) (fun q19 hf hs => ?_)
      refine g_goto (off := 90) (tgt := 118) (by decide +kernel) (by decide) ?_
      exact x_vret hf hs (by decide +kernel) rfl (Nat.le_refl _) (Nat.le_refl _)
  · refine g_iload_n (i := 2) (by decide +kernel) rfl ?_
    refine g_bipush (z := 91) (v := 91) (by decide +kernel) rfl ?_
    refine x_icmp_ne (off := 17) (tgt := 31) hf (by decide +kernel) (by decide) (fun c20 hf => ?_) (fun c20 hf => ?_)
    · refine g_aload_n (i := 0) (by decide +kernel) rfl ?_
      refine g_bipush (z := 118) (v := 118) (by decide +kernel) rfl ?_
      refine x_callVB (as := [.int (118 : Int32)]) Vi_Reader_take Vs_Reader_take (hs.k k_61) rfl hf (fun q hq => t_Reader_take hs  hq) Y_Reader_take L_Reader_114 (by decide +kernel) rfl rfl (Nat.le_of_ble_eq_true rfl) (by omega) (Nat.le_refl _) (Nat.le_refl _) (fun q21 hf hs => ?_)
      refine x_ifb_eq (off := 23) (tgt := 60) hf (by decide +kernel) (by decide) (fun c22 hf => ?_) (fun c22 hf => ?_)
      · refine g_aload_n (i := 0) (by decide +kernel) rfl ?_
        refine g_bipush (z := 91) (v := 91) (by decide +kernel) rfl ?_
        refine x_callVB (as := [.int (91 : Int32)]) Vi_Reader_take Vs_Reader_take (hs.k k_61) rfl hf (fun q hq => t_Reader_take hs  hq) Y_Reader_take L_Reader_114 (by decide +kernel) rfl rfl (Nat.le_of_ble_eq_true rfl) (by omega) (Nat.le_refl _) (Nat.le_refl _) (fun q23 hf hs => ?_)
        refine x_ifb_eq (off := 19) (tgt := 85) hf (by decide +kernel) (by decide) (fun c24 hf => ?_) (fun c24 hf => ?_)
        · refine g_aload_n (i := 0) (by decide +kernel) rfl ?_
          refine g_iload_n (i := 1) (by decide +kernel) rfl ?_
          refine x_callVV (as := [.int p1]) Vi_Reader_readSum Vs_Reader_readSum (hs.k k_61) rfl hf (fun q hq => hrec 3 _ _ hs q hq) Y_Reader_readSum L_Reader_150 (by decide +kernel) rfl rfl (Nat.le_of_ble_eq_true rfl) (by omega) (Nat.le_refl _) (Nat.le_refl _) (fun q25 hf hs => ?_)
          refine g_aload_n (i := 0) (by decide +kernel) rfl ?_
          refine x_callVI (as := []) Vi_Reader_comparing Vs_Reader_comparing (hs.k k_61) rfl hf (fun q hq => t_Reader_comparing hs  hq) Y_Reader_comparing L_Reader_153 (by decide +kernel) rfl rfl (Nat.le_of_ble_eq_true rfl) (by omega) (Nat.le_refl _) (Nat.le_refl _) (fun q26 hf hs => ?_)
          refine g_istore_n (i := 3) (by decide +kernel) rfl (by decide) (ls1 := [(0, .ref 61), (1, .int p1), (2, .int q1), (3, .int q26.1)]) rfl ?_
          refine g_aload_n (i := 0) (by decide +kernel) rfl ?_
          refine g_dup (by decide +kernel) rfl ?_
          refine x_geti (hs.k k_61) F_Reader_25 (by decide +kernel) rfl ?_
          refine g_iconst (z := 1) (v := 1) (by decide +kernel) rfl ?_
          refine g_iadd (by decide +kernel) ?_
          refine x_puti hf hs (hs.k k_61) F_Reader_25 (by decide +kernel) rfl rfl rfl rfl (fun h27 hf hs => ?_)
          refine g_aload_n (i := 0) (by decide +kernel) rfl ?_
          refine g_iload_n (i := 1) (by decide +kernel) rfl ?_
          refine x_callVV (as := [.int p1]) Vi_Reader_readSum Vs_Reader_readSum (hs.k k_61) rfl hf (fun q hq => hrec 3 _ _ hs q hq) Y_Reader_readSum L_Reader_150 (by decide +kernel) rfl rfl (Nat.le_of_ble_eq_true rfl) (by omega) (Nat.le_refl _) (Nat.le_refl _) (fun q28 hf hs => ?_)
          refine g_aload_n (i := 0) (by decide +kernel) rfl ?_
          have hm29 := hs.law.2
          refine x_getr (hs.k k_61) F_Reader_47 (by decide +kernel) rfl hs.law.1 ?_
          refine g_iload_n (i := 3) (by decide +kernel) rfl ?_
          refine x_callVV (as := [.int q26.1]) Vi_Law_put Vs_Law_put (hs.k (k_Lw hm29)) rfl hf (fun q hq => t_Law_put hs hm29 hq) Y_Law_put L_Reader_144 (by decide +kernel) rfl rfl (Nat.le_of_ble_eq_true rfl) (by omega) (Nat.le_refl _) (Nat.le_refl _) (fun q30 hf hs => ?_)
          exact x_vret hf hs (by decide +kernel) rfl (Nat.le_refl _) (Nat.le_refl _)
        · refine g_aload_n (i := 0) (by decide +kernel) rfl ?_
          refine g_iload_n (i := 1) (by decide +kernel) rfl ?_
          refine g_iconst (z := 1) (v := 1) (by decide +kernel) rfl ?_
          refine g_iadd (by decide +kernel) ?_
          refine x_callVV (as := [.int (p1 + (1 : Int32))]) Vi_Reader_readTruth Vs_Reader_readTruth (hs.k k_61) rfl hf (fun q hq => hrec 0 _ _ hs q hq) Y_Reader_readTruth L_Reader_105 (by decide +kernel) rfl rfl (Nat.le_of_ble_eq_true rfl) (by omega) (Nat.le_refl _) (Nat.le_refl _) (fun q31 hf hs => ?_)
          refine g_aload_n (i := 0) (by decide +kernel) rfl ?_
          refine g_bipush (z := 93) (v := 93) (by decide +kernel) rfl ?_
          refine x_callVV (as := [.int (93 : Int32)]) Vi_Reader_expect Vs_Reader_expect (hs.k k_61) rfl hf (fun q hq => t_Reader_expect hs  hq) Y_Reader_expect L_Reader_68 (by decide +kernel) rfl rfl (Nat.le_of_ble_eq_true rfl) (by omega) (Nat.le_refl _) (Nat.le_refl _) (fun q32 hf hs => ?_)
          refine g_goto (off := 36) (tgt := 118) (by decide +kernel) (by decide) ?_
          exact x_vret hf hs (by decide +kernel) rfl (Nat.le_refl _) (Nat.le_refl _)
      · refine g_aload_n (i := 0) (by decide +kernel) rfl ?_
        refine g_iload_n (i := 1) (by decide +kernel) rfl ?_
        refine g_iconst (z := 1) (v := 1) (by decide +kernel) rfl ?_
        refine g_iadd (by decide +kernel) ?_
        refine x_callVV (as := [.int (p1 + (1 : Int32))]) Vi_Reader_readUnit Vs_Reader_readUnit (hs.k k_61) rfl hf (fun q hq => hrec 2 _ _ hs q hq) Y_Reader_readUnit L_Reader_147 (by decide +kernel) rfl rfl (Nat.le_of_ble_eq_true rfl) (by omega) (Nat.le_refl _) (Nat.le_refl _) (fun q33 hf hs => ?_)
        refine g_aload_n (i := 0) (by decide +kernel) rfl ?_
        have hm34 := hs.law.2
        refine x_getr (hs.k k_61) F_Reader_47 (by decide +kernel) rfl hs.law.1 ?_
        refine g_sipush (z := 2008) (v := 2008) (by decide +kernel) rfl ?_
        refine x_callVV (as := [.int (2008 : Int32)]) Vi_Law_put Vs_Law_put (hs.k (k_Lw hm34)) rfl hf (fun q hq => t_Law_put hs hm34 hq) Y_Law_put L_Reader_144 (by decide +kernel) rfl rfl (Nat.le_of_ble_eq_true rfl) (by omega) (Nat.le_refl _) (Nat.le_refl _) (fun q35 hf hs => ?_)
        refine g_goto (off := 61) (tgt := 118) (by decide +kernel) (by decide) ?_
        exact x_vret hf hs (by decide +kernel) rfl (Nat.le_refl _) (Nat.le_refl _)
    · refine g_iload_n (i := 1) (by decide +kernel) rfl ?_
      refine g_bipush (z := 6) (v := 6) (by decide +kernel) rfl ?_
      refine x_icmp_lt (off := 11) (tgt := 31) hf (by decide +kernel) (by decide) (fun c36 hf => ?_) (fun c36 hf => ?_)
      · refine g_aload_n (i := 0) (by decide +kernel) rfl ?_
        refine g_bipush (z := 118) (v := 118) (by decide +kernel) rfl ?_
        refine x_callVB (as := [.int (118 : Int32)]) Vi_Reader_take Vs_Reader_take (hs.k k_61) rfl hf (fun q hq => t_Reader_take hs  hq) Y_Reader_take L_Reader_114 (by decide +kernel) rfl rfl (Nat.le_of_ble_eq_true rfl) (by omega) (Nat.le_refl _) (Nat.le_refl _) (fun q37 hf hs => ?_)
        refine x_ifb_eq (off := 23) (tgt := 60) hf (by decide +kernel) (by decide) (fun c38 hf => ?_) (fun c38 hf => ?_)
        · refine g_aload_n (i := 0) (by decide +kernel) rfl ?_
          refine g_bipush (z := 91) (v := 91) (by decide +kernel) rfl ?_
          refine x_callVB (as := [.int (91 : Int32)]) Vi_Reader_take Vs_Reader_take (hs.k k_61) rfl hf (fun q hq => t_Reader_take hs  hq) Y_Reader_take L_Reader_114 (by decide +kernel) rfl rfl (Nat.le_of_ble_eq_true rfl) (by omega) (Nat.le_refl _) (Nat.le_refl _) (fun q39 hf hs => ?_)
          refine x_ifb_eq (off := 19) (tgt := 85) hf (by decide +kernel) (by decide) (fun c40 hf => ?_) (fun c40 hf => ?_)
          · refine g_aload_n (i := 0) (by decide +kernel) rfl ?_
            refine g_iload_n (i := 1) (by decide +kernel) rfl ?_
            refine x_callVV (as := [.int p1]) Vi_Reader_readSum Vs_Reader_readSum (hs.k k_61) rfl hf (fun q hq => hrec 3 _ _ hs q hq) Y_Reader_readSum L_Reader_150 (by decide +kernel) rfl rfl (Nat.le_of_ble_eq_true rfl) (by omega) (Nat.le_refl _) (Nat.le_refl _) (fun q41 hf hs => ?_)
            refine g_aload_n (i := 0) (by decide +kernel) rfl ?_
            refine x_callVI (as := []) Vi_Reader_comparing Vs_Reader_comparing (hs.k k_61) rfl hf (fun q hq => t_Reader_comparing hs  hq) Y_Reader_comparing L_Reader_153 (by decide +kernel) rfl rfl (Nat.le_of_ble_eq_true rfl) (by omega) (Nat.le_refl _) (Nat.le_refl _) (fun q42 hf hs => ?_)
            refine g_istore_n (i := 3) (by decide +kernel) rfl (by decide) (ls1 := [(0, .ref 61), (1, .int p1), (2, .int q1), (3, .int q42.1)]) rfl ?_
            refine g_aload_n (i := 0) (by decide +kernel) rfl ?_
            refine g_dup (by decide +kernel) rfl ?_
            refine x_geti (hs.k k_61) F_Reader_25 (by decide +kernel) rfl ?_
            refine g_iconst (z := 1) (v := 1) (by decide +kernel) rfl ?_
            refine g_iadd (by decide +kernel) ?_
            refine x_puti hf hs (hs.k k_61) F_Reader_25 (by decide +kernel) rfl rfl rfl rfl (fun h43 hf hs => ?_)
            refine g_aload_n (i := 0) (by decide +kernel) rfl ?_
            refine g_iload_n (i := 1) (by decide +kernel) rfl ?_
            refine x_callVV (as := [.int p1]) Vi_Reader_readSum Vs_Reader_readSum (hs.k k_61) rfl hf (fun q hq => hrec 3 _ _ hs q hq) Y_Reader_readSum L_Reader_150 (by decide +kernel) rfl rfl (Nat.le_of_ble_eq_true rfl) (by omega) (Nat.le_refl _) (Nat.le_refl _) (fun q44 hf hs => ?_)
            refine g_aload_n (i := 0) (by decide +kernel) rfl ?_
            have hm45 := hs.law.2
            refine x_getr (hs.k k_61) F_Reader_47 (by decide +kernel) rfl hs.law.1 ?_
            refine g_iload_n (i := 3) (by decide +kernel) rfl ?_
            refine x_callVV (as := [.int q42.1]) Vi_Law_put Vs_Law_put (hs.k (k_Lw hm45)) rfl hf (fun q hq => t_Law_put hs hm45 hq) Y_Law_put L_Reader_144 (by decide +kernel) rfl rfl (Nat.le_of_ble_eq_true rfl) (by omega) (Nat.le_refl _) (Nat.le_refl _) (fun q46 hf hs => ?_)
            exact x_vret hf hs (by decide +kernel) rfl (Nat.le_refl _) (Nat.le_refl _)
          · refine g_aload_n (i := 0) (by decide +kernel) rfl ?_
            refine g_iload_n (i := 1) (by decide +kernel) rfl ?_
            refine g_iconst (z := 1) (v := 1) (by decide +kernel) rfl ?_
            refine g_iadd (by decide +kernel) ?_
            refine x_callVV (as := [.int (p1 + (1 : Int32))]) Vi_Reader_readTruth Vs_Reader_readTruth (hs.k k_61) rfl hf (fun q hq => hrec 0 _ _ hs q hq) Y_Reader_readTruth L_Reader_105 (by decide +kernel) rfl rfl (Nat.le_of_ble_eq_true rfl) (by omega) (Nat.le_refl _) (Nat.le_refl _) (fun q47 hf hs => ?_)
            refine g_aload_n (i := 0) (by decide +kernel) rfl ?_
            refine g_bipush (z := 93) (v := 93) (by decide +kernel) rfl ?_
            refine x_callVV (as := [.int (93 : Int32)]) Vi_Reader_expect Vs_Reader_expect (hs.k k_61) rfl hf (fun q hq => t_Reader_expect hs  hq) Y_Reader_expect L_Reader_68 (by decide +kernel) rfl rfl (Nat.le_of_ble_eq_true rfl) (by omega) (Nat.le_refl _) (Nat.le_refl _) (fun q48 hf hs => ?_)
            refine g_goto (off := 36) (tgt := 118) (by decide +kernel) (by decide) ?_
            exact x_vret hf hs (by decide +kernel) rfl (Nat.le_refl _) (Nat.le_refl _)
        · refine g_aload_n (i := 0) (by decide +kernel) rfl ?_
          refine g_iload_n (i := 1) (by decide +kernel) rfl ?_
          refine g_iconst (z := 1) (v := 1) (by decide +kernel) rfl ?_
          refine g_iadd (by decide +kernel) ?_
          refine x_callVV (as := [.int (p1 + (1 : Int32))]) Vi_Reader_readUnit Vs_Reader_readUnit (hs.k k_61) rfl hf (fun q hq => hrec 2 _ _ hs q hq) Y_Reader_readUnit L_Reader_147 (by decide +kernel) rfl rfl (Nat.le_of_ble_eq_true rfl) (by omega) (Nat.le_refl _) (Nat.le_refl _) (fun q49 hf hs => ?_)
          refine g_aload_n (i := 0) (by decide +kernel) rfl ?_
          have hm50 := hs.law.2
          refine x_getr (hs.k k_61) F_Reader_47 (by decide +kernel) rfl hs.law.1 ?_
          refine g_sipush (z := 2008) (v := 2008) (by decide +kernel) rfl ?_
          refine x_callVV (as := [.int (2008 : Int32)]) Vi_Law_put Vs_Law_put (hs.k (k_Lw hm50)) rfl hf (fun q hq => t_Law_put hs hm50 hq) Y_Law_put L_Reader_144 (by decide +kernel) rfl rfl (Nat.le_of_ble_eq_true rfl) (by omega) (Nat.le_refl _) (Nat.le_refl _) (fun q51 hf hs => ?_)
          refine g_goto (off := 61) (tgt := 118) (by decide +kernel) (by decide) ?_
          exact x_vret hf hs (by decide +kernel) rfl (Nat.le_refl _) (Nat.le_refl _)
      · refine g_aload_n (i := 0) (by decide +kernel) rfl ?_
        refine g_iconst (z := 4) (v := 4) (by decide +kernel) rfl ?_
        refine x_callVV (as := [.int (4 : Int32)]) Vi_Reader_blame Vs_Reader_blame (hs.k k_61) rfl hf (fun q hq => t_Reader_blame hs  hq) Y_Reader_blame L_Reader_95 (by decide +kernel) rfl rfl (Nat.le_of_ble_eq_true rfl) (by omega) (Nat.le_refl _) (Nat.le_refl _) (fun q52 hf hs => ?_)
        refine g_goto (off := 90) (tgt := 118) (by decide +kernel) (by decide) ?_
        exact x_vret hf hs (by decide +kernel) rfl (Nat.le_refl _) (Nat.le_refl _)
def f_Reader_readSum_L7 (rec : Nat → Int32 → am_H → Option (am_H)) (p1 : Int32) : Nat → Int32 → am_H → Option (Int32 × am_H)
  | 0, _, _ => none
  | n + 1, v2, h =>
    (if (900 : Int32) ≤ v2 then
      some (v2, h)
    else
      (f_Reader_kind  h).bind fun q3 =>
      (if q3 = (43 : Int32) then
        (f_Reader_kind  h).bind fun q5 =>
        am_let (if q5 = (43 : Int32) then (2000 : Int32) else (2001 : Int32)) fun y7 =>
        am_let (am_sI h 61 3 ((h.2.1 61 3) + (1 : Int32))) fun h8 =>
        (rec 4 p1 h8).bind fun q9 =>
        (f_Law_put (am_rf q9 61 7) y7 q9).bind fun q11 =>
        f_Reader_readSum_L7 rec p1 n (v2 + (1 : Int32)) q11
      else
        (f_Reader_kind  h).bind fun q12 =>
        (if q12 = (45 : Int32) then
          (f_Reader_kind  h).bind fun q14 =>
          am_let (if q14 = (43 : Int32) then (2000 : Int32) else (2001 : Int32)) fun y16 =>
          am_let (am_sI h 61 3 ((h.2.1 61 3) + (1 : Int32))) fun h17 =>
          (rec 4 p1 h17).bind fun q18 =>
          (f_Law_put (am_rf q18 61 7) y16 q18).bind fun q20 =>
          f_Reader_readSum_L7 rec p1 n (v2 + (1 : Int32)) q20
        else
          some (v2, h))))
set_option maxRecDepth 100000 in
set_option maxHeartbeats 4000000 in
theorem t_Reader_readSum_L7 {rec : Nat → Int32 → am_H → Option (am_H)} {e : Nat} (hrec : ∀ (t : Nat) (a0 : Int32) (h : am_H), am_Sh h → ∀ q, rec t a0 h = some q → am_Ct e (am_M_Rd t) [.ref 61, .int a0] h 0 0 (am_qV q)) (he : 3 ≤ e) {p1 : Int32}  {Q : Option Value → am_H → Prop} : ∀ (n : Nat) (v2 : Int32) (h : am_H) (q : Int32 × am_H), am_Sh h → f_Reader_readSum_L7 rec p1 n v2 h = some q → (am_Sh q.2 → am_G (e + 1) M_Reader_readSum 0 0 Q 80 [(0, .ref 61), (1, .int p1), (2, .int q.1)] [] q.2 0 0) → am_G (e + 1) M_Reader_readSum 0 0 Q 7 [(0, .ref 61), (1, .int p1), (2, .int v2)] [] h 0 0 := by
  intro n
  induction n with
  | zero =>
    intro v2 h q hs hf kont
    rw [f_Reader_readSum_L7] at hf
    cases hf
  | succ n ih =>
    intro v2 h q hs hf kont
    rw [f_Reader_readSum_L7] at hf
    refine g_iload_n (i := 2) (by decide +kernel) rfl ?_
    refine g_sipush (z := 900) (v := 900) (by decide +kernel) rfl ?_
    refine x_icmp_ge (off := 69) (tgt := 80) hf (by decide +kernel) (by decide) (fun c2 hf => ?_) (fun c2 hf => ?_)
    · cases hf
      exact am_G.forget (am_subp [0, 1, 2] rfl) (kont hs)
    · refine g_aload_n (i := 0) (by decide +kernel) rfl ?_
      refine x_callVIp (as := []) Vi_Reader_kind Vs_Reader_kind (hs.k k_61) rfl hf (fun q hq => t_Reader_kind hs  hq) Y_Reader_kind L_Reader_61 (by decide +kernel) rfl rfl (Nat.le_of_ble_eq_true rfl) (by omega) (Nat.le_refl _) (Nat.le_refl _) (fun q3 hf => ?_)
      refine g_bipush (z := 43) (v := 43) (by decide +kernel) rfl ?_
      refine x_icmp_eq (off := 12) (tgt := 32) hf (by decide +kernel) (by decide) (fun c4 hf => ?_) (fun c4 hf => ?_)
      · refine g_aload_n (i := 0) (by decide +kernel) rfl ?_
        refine x_callVIp (as := []) Vi_Reader_kind Vs_Reader_kind (hs.k k_61) rfl hf (fun q hq => t_Reader_kind hs  hq) Y_Reader_kind L_Reader_61 (by decide +kernel) rfl rfl (Nat.le_of_ble_eq_true rfl) (by omega) (Nat.le_refl _) (Nat.le_refl _) (fun q5 hf => ?_)
        refine g_bipush (z := 43) (v := 43) (by decide +kernel) rfl ?_
        refine am_cut (J := 50) (ls' := [(0, .ref 61), (1, .int p1), (2, .int v2)]) (st' := [.int (if q5 = (43 : Int32) then (2000 : Int32) else (2001 : Int32))]) ?_ (fun K50 => ?_)
        · refine x_nmI hf (fun y7 hf => ?_)
          refine g_istore_n (i := 3) (by decide +kernel) rfl (by decide) (ls1 := [(0, .ref 61), (1, .int p1), (2, .int v2), (3, .int y7)]) rfl ?_
          refine g_aload_n (i := 0) (by decide +kernel) rfl ?_
          refine g_dup (by decide +kernel) rfl ?_
          refine x_geti (hs.k k_61) F_Reader_25 (by decide +kernel) rfl ?_
          refine g_iconst (z := 1) (v := 1) (by decide +kernel) rfl ?_
          refine g_iadd (by decide +kernel) ?_
          refine x_puti hf hs (hs.k k_61) F_Reader_25 (by decide +kernel) rfl rfl rfl rfl (fun h8 hf hs => ?_)
          refine g_aload_n (i := 0) (by decide +kernel) rfl ?_
          refine g_iload_n (i := 1) (by decide +kernel) rfl ?_
          refine x_callVV (as := [.int p1]) Vi_Reader_readTerm Vs_Reader_readTerm (hs.k k_61) rfl hf (fun q hq => hrec 4 _ _ hs q hq) Y_Reader_readTerm L_Reader_156 (by decide +kernel) rfl rfl (Nat.le_of_ble_eq_true rfl) (by omega) (Nat.le_refl _) (Nat.le_refl _) (fun q9 hf hs => ?_)
          refine g_aload_n (i := 0) (by decide +kernel) rfl ?_
          have hm10 := hs.law.2
          refine x_getr (hs.k k_61) F_Reader_47 (by decide +kernel) rfl hs.law.1 ?_
          refine g_iload_n (i := 3) (by decide +kernel) rfl ?_
          refine x_callVV (as := [.int y7]) Vi_Law_put Vs_Law_put (hs.k (k_Lw hm10)) rfl hf (fun q hq => t_Law_put hs hm10 hq) Y_Law_put L_Reader_144 (by decide +kernel) rfl rfl (Nat.le_of_ble_eq_true rfl) (by omega) (Nat.le_refl _) (Nat.le_refl _) (fun q11 hf hs => ?_)
          refine g_iinc (i := 2) (z := 1) (v := (v2 + (1 : Int32))) (by decide +kernel) rfl rfl rfl (by decide) (ls1 := [(0, .ref 61), (1, .int p1), (2, .int (v2 + (1 : Int32))), (3, .int y7)]) rfl ?_
          refine g_goto (off := (-70)) (tgt := 7) (by decide +kernel) (by decide) ?_
          exact am_G.forget (am_subp [0, 1, 2] rfl) (ih _ _ _ hs hf kont)
        refine p_icmp_ne (off := 9) (tgt := 47) (by decide +kernel) (by decide) (fun c6 => ?_) (fun c6 => ?_)
        · refine g_sipush (z := 2001) (v := 2001) (by decide +kernel) rfl ?_
          have K1 := K50
          simp only [if_neg c6] at K1
          exact am_G.forget (am_subp [0, 1, 2] rfl) K1
        · refine g_sipush (z := 2000) (v := 2000) (by decide +kernel) rfl ?_
          refine g_goto (off := 6) (tgt := 50) (by decide +kernel) (by decide) ?_
          have K1 := K50
          simp only [if_pos c6] at K1
          exact am_G.forget (am_subp [0, 1, 2] rfl) K1
      · refine g_aload_n (i := 0) (by decide +kernel) rfl ?_
        refine x_callVIp (as := []) Vi_Reader_kind Vs_Reader_kind (hs.k k_61) rfl hf (fun q hq => t_Reader_kind hs  hq) Y_Reader_kind L_Reader_61 (by decide +kernel) rfl rfl (Nat.le_of_ble_eq_true rfl) (by omega) (Nat.le_refl _) (Nat.le_refl _) (fun q12 hf => ?_)
        refine g_bipush (z := 45) (v := 45) (by decide +kernel) rfl ?_
        refine x_icmp_ne (off := 51) (tgt := 80) hf (by decide +kernel) (by decide) (fun c13 hf => ?_) (fun c13 hf => ?_)
        · cases hf
          exact am_G.forget (am_subp [0, 1, 2] rfl) (kont hs)
        · refine g_aload_n (i := 0) (by decide +kernel) rfl ?_
          refine x_callVIp (as := []) Vi_Reader_kind Vs_Reader_kind (hs.k k_61) rfl hf (fun q hq => t_Reader_kind hs  hq) Y_Reader_kind L_Reader_61 (by decide +kernel) rfl rfl (Nat.le_of_ble_eq_true rfl) (by omega) (Nat.le_refl _) (Nat.le_refl _) (fun q14 hf => ?_)
          refine g_bipush (z := 43) (v := 43) (by decide +kernel) rfl ?_
          refine am_cut (J := 50) (ls' := [(0, .ref 61), (1, .int p1), (2, .int v2)]) (st' := [.int (if q14 = (43 : Int32) then (2000 : Int32) else (2001 : Int32))]) ?_ (fun K50 => ?_)
          · refine x_nmI hf (fun y16 hf => ?_)
            refine g_istore_n (i := 3) (by decide +kernel) rfl (by decide) (ls1 := [(0, .ref 61), (1, .int p1), (2, .int v2), (3, .int y16)]) rfl ?_
            refine g_aload_n (i := 0) (by decide +kernel) rfl ?_
            refine g_dup (by decide +kernel) rfl ?_
            refine x_geti (hs.k k_61) F_Reader_25 (by decide +kernel) rfl ?_
            refine g_iconst (z := 1) (v := 1) (by decide +kernel) rfl ?_
            refine g_iadd (by decide +kernel) ?_
            refine x_puti hf hs (hs.k k_61) F_Reader_25 (by decide +kernel) rfl rfl rfl rfl (fun h17 hf hs => ?_)
            refine g_aload_n (i := 0) (by decide +kernel) rfl ?_
            refine g_iload_n (i := 1) (by decide +kernel) rfl ?_
            refine x_callVV (as := [.int p1]) Vi_Reader_readTerm Vs_Reader_readTerm (hs.k k_61) rfl hf (fun q hq => hrec 4 _ _ hs q hq) Y_Reader_readTerm L_Reader_156 (by decide +kernel) rfl rfl (Nat.le_of_ble_eq_true rfl) (by omega) (Nat.le_refl _) (Nat.le_refl _) (fun q18 hf hs => ?_)
            refine g_aload_n (i := 0) (by decide +kernel) rfl ?_
            have hm19 := hs.law.2
            refine x_getr (hs.k k_61) F_Reader_47 (by decide +kernel) rfl hs.law.1 ?_
            refine g_iload_n (i := 3) (by decide +kernel) rfl ?_
            refine x_callVV (as := [.int y16]) Vi_Law_put Vs_Law_put (hs.k (k_Lw hm19)) rfl hf (fun q hq => t_Law_put hs hm19 hq) Y_Law_put L_Reader_144 (by decide +kernel) rfl rfl (Nat.le_of_ble_eq_true rfl) (by omega) (Nat.le_refl _) (Nat.le_refl _) (fun q20 hf hs => ?_)
            refine g_iinc (i := 2) (z := 1) (v := (v2 + (1 : Int32))) (by decide +kernel) rfl rfl rfl (by decide) (ls1 := [(0, .ref 61), (1, .int p1), (2, .int (v2 + (1 : Int32))), (3, .int y16)]) rfl ?_
            refine g_goto (off := (-70)) (tgt := 7) (by decide +kernel) (by decide) ?_
            exact am_G.forget (am_subp [0, 1, 2] rfl) (ih _ _ _ hs hf kont)
          refine p_icmp_ne (off := 9) (tgt := 47) (by decide +kernel) (by decide) (fun c15 => ?_) (fun c15 => ?_)
          · refine g_sipush (z := 2001) (v := 2001) (by decide +kernel) rfl ?_
            have K1 := K50
            simp only [if_neg c15] at K1
            exact am_G.forget (am_subp [0, 1, 2] rfl) K1
          · refine g_sipush (z := 2000) (v := 2000) (by decide +kernel) rfl ?_
            refine g_goto (off := 6) (tgt := 50) (by decide +kernel) (by decide) ?_
            have K1 := K50
            simp only [if_pos c15] at K1
            exact am_G.forget (am_subp [0, 1, 2] rfl) K1
def b_Reader_readSum (rec : Nat → Int32 → am_H → Option (am_H)) (p1 : Int32) (h : am_H) : Option (am_H) :=
  (rec 4 p1 h).bind fun q1 =>
  (f_Reader_readSum_L7 rec p1 am_fu (0 : Int32) q1).bind fun q21 =>
  some q21.2
set_option maxRecDepth 100000 in
set_option maxHeartbeats 4000000 in
theorem tb_Reader_readSum {rec : Nat → Int32 → am_H → Option (am_H)} {e : Nat} (hrec : ∀ (t : Nat) (a0 : Int32) (h : am_H), am_Sh h → ∀ q, rec t a0 h = some q → am_Ct e (am_M_Rd t) [.ref 61, .int a0] h 0 0 (am_qV q)) (he : 3 ≤ e) {p1 : Int32} {h : am_H} (hs : am_Sh h)  {r : am_H} (hf : b_Reader_readSum rec p1 h = some r) : am_Ct (e + 1) M_Reader_readSum [.ref 61, .int p1] h 0 0 (am_qV r) := by
  unfold b_Reader_readSum at hf
  refine am_Ct.of (by decide) rfl (Nat.le_of_ble_eq_true rfl) (ls := [(0, .ref 61), (1, .int p1)]) rfl ?_
  refine g_aload_n (i := 0) (by decide +kernel) rfl ?_
  refine g_iload_n (i := 1) (by decide +kernel) rfl ?_
  refine x_callVV (as := [.int p1]) Vi_Reader_readTerm Vs_Reader_readTerm (hs.k k_61) rfl hf (fun q hq => hrec 4 _ _ hs q hq) Y_Reader_readTerm L_Reader_156 (by decide +kernel) rfl rfl (Nat.le_of_ble_eq_true rfl) (by omega) (Nat.le_refl _) (Nat.le_refl _) (fun q1 hf hs => ?_)
  refine g_iconst (z := 0) (v := 0) (by decide +kernel) rfl ?_
  refine g_istore_n (i := 2) (by decide +kernel) rfl (by decide) (ls1 := [(0, .ref 61), (1, .int p1), (2, .int (0 : Int32))]) rfl ?_
  obtain ⟨q21, hqq21, hf⟩ := Option.bind_eq_some_iff.mp hf
  refine am_G.forget (am_subp [0, 1, 2] rfl) (t_Reader_readSum_L7 hrec he  am_fu _ _ q21 hs hqq21 (fun hs => ?_))
  exact x_vret hf hs (by decide +kernel) rfl (Nat.le_refl _) (Nat.le_refl _)
def f_Reader_readTerm_L7 (rec : Nat → Int32 → am_H → Option (am_H)) (p1 : Int32) : Nat → Int32 → am_H → Option (Int32 × am_H)
  | 0, _, _ => none
  | n + 1, v2, h =>
    (if (900 : Int32) ≤ v2 then
      some (v2, h)
    else
      (f_Reader_take (42 : Int32) h).bind fun q3 =>
      (if q3.1 = true then
        (rec 5 p1 q3.2).bind fun q5 =>
        (f_Law_put (am_rf q5 61 7) (2002 : Int32) q5).bind fun q7 =>
        f_Reader_readTerm_L7 rec p1 n (v2 + (1 : Int32)) q7
      else
        some (v2, q3.2)))
set_option maxRecDepth 100000 in
set_option maxHeartbeats 4000000 in
theorem t_Reader_readTerm_L7 {rec : Nat → Int32 → am_H → Option (am_H)} {e : Nat} (hrec : ∀ (t : Nat) (a0 : Int32) (h : am_H), am_Sh h → ∀ q, rec t a0 h = some q → am_Ct e (am_M_Rd t) [.ref 61, .int a0] h 0 0 (am_qV q)) (he : 3 ≤ e) {p1 : Int32}  {Q : Option Value → am_H → Prop} : ∀ (n : Nat) (v2 : Int32) (h : am_H) (q : Int32 × am_H), am_Sh h → f_Reader_readTerm_L7 rec p1 n v2 h = some q → (am_Sh q.2 → am_G (e + 1) M_Reader_readTerm 0 0 Q 44 [(0, .ref 61), (1, .int p1), (2, .int q.1)] [] q.2 0 0) → am_G (e + 1) M_Reader_readTerm 0 0 Q 7 [(0, .ref 61), (1, .int p1), (2, .int v2)] [] h 0 0 := by
  intro n
  induction n with
  | zero =>
    intro v2 h q hs hf kont
    rw [f_Reader_readTerm_L7] at hf
    cases hf
  | succ n ih =>
    intro v2 h q hs hf kont
    rw [f_Reader_readTerm_L7] at hf
    refine g_iload_n (i := 2) (by decide +kernel) rfl ?_
    refine g_sipush (z := 900) (v := 900) (by decide +kernel) rfl ?_
    refine x_icmp_ge (off := 33) (tgt := 44) hf (by decide +kernel) (by decide) (fun c2 hf => ?_) (fun c2 hf => ?_)
    · cases hf
      exact am_G.forget (am_subp [0, 1, 2] rfl) (kont hs)
    · refine g_aload_n (i := 0) (by decide +kernel) rfl ?_
      refine g_bipush (z := 42) (v := 42) (by decide +kernel) rfl ?_
      refine x_callVB (as := [.int (42 : Int32)]) Vi_Reader_take Vs_Reader_take (hs.k k_61) rfl hf (fun q hq => t_Reader_take hs  hq) Y_Reader_take L_Reader_114 (by decide +kernel) rfl rfl (Nat.le_of_ble_eq_true rfl) (by omega) (Nat.le_refl _) (Nat.le_refl _) (fun q3 hf hs => ?_)
      refine x_ifb_eq (off := 24) (tgt := 44) hf (by decide +kernel) (by decide) (fun c4 hf => ?_) (fun c4 hf => ?_)
      · cases hf
        exact am_G.forget (am_subp [0, 1, 2] rfl) (kont hs)
      · refine g_aload_n (i := 0) (by decide +kernel) rfl ?_
        refine g_iload_n (i := 1) (by decide +kernel) rfl ?_
        refine x_callVV (as := [.int p1]) Vi_Reader_readAtom Vs_Reader_readAtom (hs.k k_61) rfl hf (fun q hq => hrec 5 _ _ hs q hq) Y_Reader_readAtom L_Reader_159 (by decide +kernel) rfl rfl (Nat.le_of_ble_eq_true rfl) (by omega) (Nat.le_refl _) (Nat.le_refl _) (fun q5 hf hs => ?_)
        refine g_aload_n (i := 0) (by decide +kernel) rfl ?_
        have hm6 := hs.law.2
        refine x_getr (hs.k k_61) F_Reader_47 (by decide +kernel) rfl hs.law.1 ?_
        refine g_sipush (z := 2002) (v := 2002) (by decide +kernel) rfl ?_
        refine x_callVV (as := [.int (2002 : Int32)]) Vi_Law_put Vs_Law_put (hs.k (k_Lw hm6)) rfl hf (fun q hq => t_Law_put hs hm6 hq) Y_Law_put L_Reader_144 (by decide +kernel) rfl rfl (Nat.le_of_ble_eq_true rfl) (by omega) (Nat.le_refl _) (Nat.le_refl _) (fun q7 hf hs => ?_)
        refine g_iinc (i := 2) (z := 1) (v := (v2 + (1 : Int32))) (by decide +kernel) rfl rfl rfl (by decide) (ls1 := [(0, .ref 61), (1, .int p1), (2, .int (v2 + (1 : Int32)))]) rfl ?_
        refine g_goto (off := (-34)) (tgt := 7) (by decide +kernel) (by decide) ?_
        exact am_G.forget (am_subp [0, 1, 2] rfl) (ih _ _ _ hs hf kont)
def b_Reader_readTerm (rec : Nat → Int32 → am_H → Option (am_H)) (p1 : Int32) (h : am_H) : Option (am_H) :=
  (rec 5 p1 h).bind fun q1 =>
  (f_Reader_readTerm_L7 rec p1 am_fu (0 : Int32) q1).bind fun q8 =>
  some q8.2
set_option maxRecDepth 100000 in
set_option maxHeartbeats 4000000 in
theorem tb_Reader_readTerm {rec : Nat → Int32 → am_H → Option (am_H)} {e : Nat} (hrec : ∀ (t : Nat) (a0 : Int32) (h : am_H), am_Sh h → ∀ q, rec t a0 h = some q → am_Ct e (am_M_Rd t) [.ref 61, .int a0] h 0 0 (am_qV q)) (he : 3 ≤ e) {p1 : Int32} {h : am_H} (hs : am_Sh h)  {r : am_H} (hf : b_Reader_readTerm rec p1 h = some r) : am_Ct (e + 1) M_Reader_readTerm [.ref 61, .int p1] h 0 0 (am_qV r) := by
  unfold b_Reader_readTerm at hf
  refine am_Ct.of (by decide) rfl (Nat.le_of_ble_eq_true rfl) (ls := [(0, .ref 61), (1, .int p1)]) rfl ?_
  refine g_aload_n (i := 0) (by decide +kernel) rfl ?_
  refine g_iload_n (i := 1) (by decide +kernel) rfl ?_
  refine x_callVV (as := [.int p1]) Vi_Reader_readAtom Vs_Reader_readAtom (hs.k k_61) rfl hf (fun q hq => hrec 5 _ _ hs q hq) Y_Reader_readAtom L_Reader_159 (by decide +kernel) rfl rfl (Nat.le_of_ble_eq_true rfl) (by omega) (Nat.le_refl _) (Nat.le_refl _) (fun q1 hf hs => ?_)
  refine g_iconst (z := 0) (v := 0) (by decide +kernel) rfl ?_
  refine g_istore_n (i := 2) (by decide +kernel) rfl (by decide) (ls1 := [(0, .ref 61), (1, .int p1), (2, .int (0 : Int32))]) rfl ?_
  obtain ⟨q8, hqq8, hf⟩ := Option.bind_eq_some_iff.mp hf
  refine am_G.forget (am_subp [0, 1, 2] rfl) (t_Reader_readTerm_L7 hrec he  am_fu _ _ q8 hs hqq8 (fun hs => ?_))
  exact x_vret hf hs (by decide +kernel) rfl (Nat.le_refl _) (Nat.le_refl _)
def b_Reader_readAtom (rec : Nat → Int32 → am_H → Option (am_H)) (p1 : Int32) (h : am_H) : Option (am_H) :=
  (f_Reader_kind  h).bind fun q1 =>
  (f_Reader_askedBy q1 h).bind fun q2 =>
  (if q1 = (2 : Int32) then
    (f_Reader_readNumber (0 : Int32) (999 : Int32) h).bind fun q16 =>
    (f_Law_put (am_rf h 61 7) q16.1 q16.2).bind fun q17 =>
    some q17
  else
    (if q2 = (-1 : Int32) then
      (if q1 = (40 : Int32) then
        (if p1 < (6 : Int32) then
          am_let (am_sI h 61 3 ((h.2.1 61 3) + (1 : Int32))) fun h7 =>
          (rec 3 (p1 + (1 : Int32)) h7).bind fun q8 =>
          (f_Reader_expect (41 : Int32) q8).bind fun q9 =>
          some q9
        else
          (f_Reader_blame (4 : Int32) h).bind fun q10 =>
          some q10)
      else
        (f_Reader_blame (2 : Int32) h).bind fun q11 =>
        some q11)
    else
      am_let (am_sI h 61 3 ((h.2.1 61 3) + (1 : Int32))) fun h12 =>
      (f_Law_put (am_rf h12 61 7) ((1000 : Int32) + q2) h12).bind fun q14 =>
      some q14))
set_option maxRecDepth 100000 in
set_option maxHeartbeats 4000000 in
theorem tb_Reader_readAtom {rec : Nat → Int32 → am_H → Option (am_H)} {e : Nat} (hrec : ∀ (t : Nat) (a0 : Int32) (h : am_H), am_Sh h → ∀ q, rec t a0 h = some q → am_Ct e (am_M_Rd t) [.ref 61, .int a0] h 0 0 (am_qV q)) (he : 3 ≤ e) {p1 : Int32} {h : am_H} (hs : am_Sh h)  {r : am_H} (hf : b_Reader_readAtom rec p1 h = some r) : am_Ct (e + 1) M_Reader_readAtom [.ref 61, .int p1] h 0 0 (am_qV r) := by
  unfold b_Reader_readAtom at hf
  refine am_Ct.of (by decide) rfl (Nat.le_of_ble_eq_true rfl) (ls := [(0, .ref 61), (1, .int p1)]) rfl ?_
  refine g_aload_n (i := 0) (by decide +kernel) rfl ?_
  refine x_callVIp (as := []) Vi_Reader_kind Vs_Reader_kind (hs.k k_61) rfl hf (fun q hq => t_Reader_kind hs  hq) Y_Reader_kind L_Reader_61 (by decide +kernel) rfl rfl (Nat.le_of_ble_eq_true rfl) (by omega) (Nat.le_refl _) (Nat.le_refl _) (fun q1 hf => ?_)
  refine g_istore_n (i := 2) (by decide +kernel) rfl (by decide) (ls1 := [(0, .ref 61), (1, .int p1), (2, .int q1)]) rfl ?_
  refine g_aload_n (i := 0) (by decide +kernel) rfl ?_
  refine g_iload_n (i := 2) (by decide +kernel) rfl ?_
  refine x_callVIp (as := [.int q1]) Vi_Reader_askedBy Vs_Reader_askedBy (hs.k k_61) rfl hf (fun q hq => t_Reader_askedBy hs  hq) Y_Reader_askedBy L_Reader_162 (by decide +kernel) rfl rfl (Nat.le_of_ble_eq_true rfl) (by omega) (Nat.le_refl _) (Nat.le_refl _) (fun q2 hf => ?_)
  refine g_istore_n (i := 3) (by decide +kernel) rfl (by decide) (ls1 := [(0, .ref 61), (1, .int p1), (2, .int q1), (3, .int q2)]) rfl ?_
  refine g_iload_n (i := 2) (by decide +kernel) rfl ?_
  refine g_iconst (z := 2) (v := 2) (by decide +kernel) rfl ?_
  refine x_icmp_ne (off := 21) (tgt := 34) hf (by decide +kernel) (by decide) (fun c3 hf => ?_) (fun c3 hf => ?_)
  · refine g_iload_n (i := 3) (by decide +kernel) rfl ?_
    refine g_iconst (z := (-1)) (v := (-1)) (by decide +kernel) rfl ?_
    refine x_icmp_eq (off := 28) (tgt := 64) hf (by decide +kernel) (by decide) (fun c4 hf => ?_) (fun c4 hf => ?_)
    · refine g_iload_n (i := 2) (by decide +kernel) rfl ?_
      refine g_bipush (z := 40) (v := 40) (by decide +kernel) rfl ?_
      refine x_icmp_eq (off := 11) (tgt := 78) hf (by decide +kernel) (by decide) (fun c5 hf => ?_) (fun c5 hf => ?_)
      · refine g_iload_n (i := 1) (by decide +kernel) rfl ?_
        refine g_bipush (z := 6) (v := 6) (by decide +kernel) rfl ?_
        refine x_icmp_lt (off := 11) (tgt := 92) hf (by decide +kernel) (by decide) (fun c6 hf => ?_) (fun c6 hf => ?_)
        · refine g_aload_n (i := 0) (by decide +kernel) rfl ?_
          refine g_dup (by decide +kernel) rfl ?_
          refine x_geti (hs.k k_61) F_Reader_25 (by decide +kernel) rfl ?_
          refine g_iconst (z := 1) (v := 1) (by decide +kernel) rfl ?_
          refine g_iadd (by decide +kernel) ?_
          refine x_puti hf hs (hs.k k_61) F_Reader_25 (by decide +kernel) rfl rfl rfl rfl (fun h7 hf hs => ?_)
          refine g_aload_n (i := 0) (by decide +kernel) rfl ?_
          refine g_iload_n (i := 1) (by decide +kernel) rfl ?_
          refine g_iconst (z := 1) (v := 1) (by decide +kernel) rfl ?_
          refine g_iadd (by decide +kernel) ?_
          refine x_callVV (as := [.int (p1 + (1 : Int32))]) Vi_Reader_readSum Vs_Reader_readSum (hs.k k_61) rfl hf (fun q hq => hrec 3 _ _ hs q hq) Y_Reader_readSum L_Reader_150 (by decide +kernel) rfl rfl (Nat.le_of_ble_eq_true rfl) (by omega) (Nat.le_refl _) (Nat.le_refl _) (fun q8 hf hs => ?_)
          refine g_aload_n (i := 0) (by decide +kernel) rfl ?_
          refine g_bipush (z := 41) (v := 41) (by decide +kernel) rfl ?_
          refine x_callVV (as := [.int (41 : Int32)]) Vi_Reader_expect Vs_Reader_expect (hs.k k_61) rfl hf (fun q hq => t_Reader_expect hs  hq) Y_Reader_expect L_Reader_68 (by decide +kernel) rfl rfl (Nat.le_of_ble_eq_true rfl) (by omega) (Nat.le_refl _) (Nat.le_refl _) (fun q9 hf hs => ?_)
          exact x_vret hf hs (by decide +kernel) rfl (Nat.le_refl _) (Nat.le_refl _)
        · refine g_aload_n (i := 0) (by decide +kernel) rfl ?_
          refine g_iconst (z := 4) (v := 4) (by decide +kernel) rfl ?_
          refine x_callVV (as := [.int (4 : Int32)]) Vi_Reader_blame Vs_Reader_blame (hs.k k_61) rfl hf (fun q hq => t_Reader_blame hs  hq) Y_Reader_blame L_Reader_95 (by decide +kernel) rfl rfl (Nat.le_of_ble_eq_true rfl) (by omega) (Nat.le_refl _) (Nat.le_refl _) (fun q10 hf hs => ?_)
          refine g_goto (off := 26) (tgt := 115) (by decide +kernel) (by decide) ?_
          exact x_vret hf hs (by decide +kernel) rfl (Nat.le_refl _) (Nat.le_refl _)
      · refine g_aload_n (i := 0) (by decide +kernel) rfl ?_
        refine g_iconst (z := 2) (v := 2) (by decide +kernel) rfl ?_
        refine x_callVV (as := [.int (2 : Int32)]) Vi_Reader_blame Vs_Reader_blame (hs.k k_61) rfl hf (fun q hq => t_Reader_blame hs  hq) Y_Reader_blame L_Reader_95 (by decide +kernel) rfl rfl (Nat.le_of_ble_eq_true rfl) (by omega) (Nat.le_refl _) (Nat.le_refl _) (fun q11 hf hs => ?_)
        refine g_goto (off := 40) (tgt := 115) (by decide +kernel) (by decide) ?_
        exact x_vret hf hs (by decide +kernel) rfl (Nat.le_refl _) (Nat.le_refl _)
    · refine g_aload_n (i := 0) (by decide +kernel) rfl ?_
      refine g_dup (by decide +kernel) rfl ?_
      refine x_geti (hs.k k_61) F_Reader_25 (by decide +kernel) rfl ?_
      refine g_iconst (z := 1) (v := 1) (by decide +kernel) rfl ?_
      refine g_iadd (by decide +kernel) ?_
      refine x_puti hf hs (hs.k k_61) F_Reader_25 (by decide +kernel) rfl rfl rfl rfl (fun h12 hf hs => ?_)
      refine g_aload_n (i := 0) (by decide +kernel) rfl ?_
      have hm13 := hs.law.2
      refine x_getr (hs.k k_61) F_Reader_47 (by decide +kernel) rfl hs.law.1 ?_
      refine g_sipush (z := 1000) (v := 1000) (by decide +kernel) rfl ?_
      refine g_iload_n (i := 3) (by decide +kernel) rfl ?_
      refine g_iadd (by decide +kernel) ?_
      refine x_callVV (as := [.int ((1000 : Int32) + q2)]) Vi_Law_put Vs_Law_put (hs.k (k_Lw hm13)) rfl hf (fun q hq => t_Law_put hs hm13 hq) Y_Law_put L_Reader_144 (by decide +kernel) rfl rfl (Nat.le_of_ble_eq_true rfl) (by omega) (Nat.le_refl _) (Nat.le_refl _) (fun q14 hf hs => ?_)
      refine g_goto (off := 54) (tgt := 115) (by decide +kernel) (by decide) ?_
      exact x_vret hf hs (by decide +kernel) rfl (Nat.le_refl _) (Nat.le_refl _)
  · refine g_aload_n (i := 0) (by decide +kernel) rfl ?_
    have hm15 := hs.law.2
    refine x_getr (hs.k k_61) F_Reader_47 (by decide +kernel) rfl hs.law.1 ?_
    refine g_aload_n (i := 0) (by decide +kernel) rfl ?_
    refine g_iconst (z := 0) (v := 0) (by decide +kernel) rfl ?_
    refine g_sipush (z := 999) (v := 999) (by decide +kernel) rfl ?_
    refine x_callVI (as := [.int (0 : Int32), .int (999 : Int32)]) Vi_Reader_readNumber Vs_Reader_readNumber (hs.k k_61) rfl hf (fun q hq => t_Reader_readNumber hs  hq) Y_Reader_readNumber L_Reader_79 (by decide +kernel) rfl rfl (Nat.le_of_ble_eq_true rfl) (by omega) (Nat.le_refl _) (Nat.le_refl _) (fun q16 hf hs => ?_)
    refine x_callVV (as := [.int q16.1]) Vi_Law_put Vs_Law_put (hs.k (k_Lw hm15)) rfl hf (fun q hq => t_Law_put hs hm15 hq) Y_Law_put L_Reader_144 (by decide +kernel) rfl rfl (Nat.le_of_ble_eq_true rfl) (by omega) (Nat.le_refl _) (Nat.le_refl _) (fun q17 hf hs => ?_)
    refine g_goto (off := 84) (tgt := 115) (by decide +kernel) (by decide) ?_
    exact x_vret hf hs (by decide +kernel) rfl (Nat.le_refl _) (Nat.le_refl _)
def f_Rd : Nat → Nat → Int32 → am_H → Option (am_H)
  | 0, _, _, _ => none
  | n + 1, t, a0, h => match t with
    | 0 => b_Reader_readTruth (f_Rd n) a0 h
    | 1 => b_Reader_readBoth (f_Rd n) a0 h
    | 2 => b_Reader_readUnit (f_Rd n) a0 h
    | 3 => b_Reader_readSum (f_Rd n) a0 h
    | 4 => b_Reader_readTerm (f_Rd n) a0 h
    | _ => b_Reader_readAtom (f_Rd n) a0 h
theorem t_Rd : ∀ (n t : Nat) (a0 : Int32) (h : am_H), am_Sh h → ∀ q, f_Rd n t a0 h = some q → am_Ct (3 + n) (am_M_Rd t) [.ref 61, .int a0] h 0 0 (am_qV q)
  | 0, t, a0, h, hs, q, hq => by
    rw [f_Rd] at hq
    cases hq
  | n + 1, t, a0, h, hs, q, hq => by
    have hrec := t_Rd n
    match t, hq with
    | 0, hq => exact tb_Reader_readTruth hrec (by omega) hs hq
    | 1, hq => exact tb_Reader_readBoth hrec (by omega) hs hq
    | 2, hq => exact tb_Reader_readUnit hrec (by omega) hs hq
    | 3, hq => exact tb_Reader_readSum hrec (by omega) hs hq
    | 4, hq => exact tb_Reader_readTerm hrec (by omega) hs hq
    | _ + 5, hq => exact tb_Reader_readAtom hrec (by omega) hs hq
def f_Reader_readTruth (a0 : Int32) (h : am_H) : Option (am_H) := f_Rd 60 0 a0 h
theorem t_Reader_readTruth {a0 : Int32} {h : am_H} (hs : am_Sh h) {r : am_H} (hf : f_Reader_readTruth a0 h = some r) : am_Ct 63 M_Reader_readTruth [.ref 61, .int a0] h 0 0 (am_qV r) := t_Rd 60 0 a0 h hs r hf
def f_Reader_readBoth (a0 : Int32) (h : am_H) : Option (am_H) := f_Rd 60 1 a0 h
theorem t_Reader_readBoth {a0 : Int32} {h : am_H} (hs : am_Sh h) {r : am_H} (hf : f_Reader_readBoth a0 h = some r) : am_Ct 63 M_Reader_readBoth [.ref 61, .int a0] h 0 0 (am_qV r) := t_Rd 60 1 a0 h hs r hf
def f_Reader_readUnit (a0 : Int32) (h : am_H) : Option (am_H) := f_Rd 60 2 a0 h
theorem t_Reader_readUnit {a0 : Int32} {h : am_H} (hs : am_Sh h) {r : am_H} (hf : f_Reader_readUnit a0 h = some r) : am_Ct 63 M_Reader_readUnit [.ref 61, .int a0] h 0 0 (am_qV r) := t_Rd 60 2 a0 h hs r hf
def f_Reader_readSum (a0 : Int32) (h : am_H) : Option (am_H) := f_Rd 60 3 a0 h
theorem t_Reader_readSum {a0 : Int32} {h : am_H} (hs : am_Sh h) {r : am_H} (hf : f_Reader_readSum a0 h = some r) : am_Ct 63 M_Reader_readSum [.ref 61, .int a0] h 0 0 (am_qV r) := t_Rd 60 3 a0 h hs r hf
def f_Reader_readTerm (a0 : Int32) (h : am_H) : Option (am_H) := f_Rd 60 4 a0 h
theorem t_Reader_readTerm {a0 : Int32} {h : am_H} (hs : am_Sh h) {r : am_H} (hf : f_Reader_readTerm a0 h = some r) : am_Ct 63 M_Reader_readTerm [.ref 61, .int a0] h 0 0 (am_qV r) := t_Rd 60 4 a0 h hs r hf
def f_Reader_readAtom (a0 : Int32) (h : am_H) : Option (am_H) := f_Rd 60 5 a0 h
theorem t_Reader_readAtom {a0 : Int32} {h : am_H} (hs : am_Sh h) {r : am_H} (hf : f_Reader_readAtom a0 h = some r) : am_Ct 63 M_Reader_readAtom [.ref 61, .int a0] h 0 0 (am_qV r) := t_Rd 60 5 a0 h hs r hf
def f_Reader_readLine  (h : am_H) : Option (am_H) :=
  (f_Reader_kind  h).bind fun q1 =>
  (if q1 = (103 : Int32) then
    am_let (am_sI h 61 3 ((h.2.1 61 3) + (1 : Int32))) fun h2 =>
    (f_Reader_readSpan  h2).bind fun q3 =>
    some q3
  else if q1 = (104 : Int32) then
    (f_Reader_blame (2 : Int32) h).bind fun q4 =>
    some q4
  else if q1 = (105 : Int32) then
    (f_Reader_blame (2 : Int32) h).bind fun q5 =>
    some q5
  else if q1 = (106 : Int32) then
    (if (h.2.1 62 2) < (5 : Int32) then
      am_let (am_sI h 61 3 ((h.2.1 61 3) + (1 : Int32))) fun h7 =>
      (f_Reader_readPerson  h7).bind fun q8 =>
      some q8
    else
      (f_Reader_blame (4 : Int32) h).bind fun q9 =>
      some q9)
  else if q1 = (107 : Int32) then
    (f_Reader_blame (2 : Int32) h).bind fun q10 =>
    some q10
  else if q1 = (108 : Int32) then
    (f_Reader_blame (2 : Int32) h).bind fun q11 =>
    some q11
  else if q1 = (109 : Int32) then
    (f_Reader_blame (2 : Int32) h).bind fun q12 =>
    some q12
  else if q1 = (110 : Int32) then
    (f_Reader_blame (2 : Int32) h).bind fun q13 =>
    some q13
  else if q1 = (111 : Int32) then
    (f_Reader_blame (2 : Int32) h).bind fun q14 =>
    some q14
  else if q1 = (112 : Int32) then
    (f_Reader_beginLaw 75 h).bind fun q15 =>
    (f_Reader_readTruth (0 : Int32) q15).bind fun q16 =>
    some q16
  else if q1 = (113 : Int32) then
    (f_Reader_beginLaw 79 h).bind fun q17 =>
    (f_Reader_readTruth (0 : Int32) q17).bind fun q18 =>
    some q18
  else if q1 = (114 : Int32) then
    am_let (am_sI h 61 3 ((h.2.1 61 3) + (1 : Int32))) fun h19 =>
    (f_Reader_readNumber (0 : Int32) (10 : Int32) h19).bind fun q20 =>
    am_let (am_sI q20.2 62 3 q20.1) fun h21 =>
    some h21
  else if q1 = (115 : Int32) then
    am_let (am_sI h 61 3 ((h.2.1 61 3) + (1 : Int32))) fun h22 =>
    (f_Reader_readNumber (0 : Int32) (999 : Int32) h22).bind fun q23 =>
    am_let (am_sI q23.2 62 4 q23.1) fun h24 =>
    some h24
  else 
    (f_Reader_blame (2 : Int32) h).bind fun q25 =>
    some q25)
set_option maxRecDepth 100000 in
set_option maxHeartbeats 4000000 in
theorem t_Reader_readLine  {h : am_H} (hs : am_Sh h)  {r : am_H} (hf : f_Reader_readLine  h = some r) : am_Ct 64 M_Reader_readLine [.ref 61] h 0 0 (am_qV r) := by
  unfold f_Reader_readLine at hf
  refine am_Ct.of (by decide) rfl (Nat.le_of_ble_eq_true rfl) (ls := [(0, .ref 61)]) rfl ?_
  refine g_aload_n (i := 0) (by decide +kernel) rfl ?_
  refine x_callVIp (as := []) Vi_Reader_kind Vs_Reader_kind (hs.k k_61) rfl hf (fun q hq => t_Reader_kind hs  hq) Y_Reader_kind L_Reader_61 (by decide +kernel) rfl rfl (Nat.le_of_ble_eq_true rfl) (by decide) (Nat.le_refl _) (Nat.le_refl _) (fun q1 hf => ?_)
  by_cases e0 : q1 = (103 : Int32)
  · rw [if_pos e0] at hf
    have ex : Int32.toInt q1 = 103 := by rw [e0]; rfl
    refine x_tabIn (dflt := 208) (lo := 103) (hi := 115) (offs := #[68, 208, 208, 85, 208, 208, 208, 208, 208, 121, 137, 153, 180]) (len := 68) (off := 68) (tgt := 72) (by decide +kernel) (by rw [ex]; decide) (by rw [ex]; decide) (by rw [ex]; rfl) (by decide) ?_
    refine g_aload_n (i := 0) (by decide +kernel) rfl ?_
    refine g_dup (by decide +kernel) rfl ?_
    refine x_geti (hs.k k_61) F_Reader_25 (by decide +kernel) rfl ?_
    refine g_iconst (z := 1) (v := 1) (by decide +kernel) rfl ?_
    refine g_iadd (by decide +kernel) ?_
    refine x_puti hf hs (hs.k k_61) F_Reader_25 (by decide +kernel) rfl rfl rfl rfl (fun h2 hf hs => ?_)
    refine g_aload_n (i := 0) (by decide +kernel) rfl ?_
    refine x_callVV (as := []) Vi_Reader_readSpan Vs_Reader_readSpan (hs.k k_61) rfl hf (fun q hq => t_Reader_readSpan hs  hq) Y_Reader_readSpan L_Reader_89 (by decide +kernel) rfl rfl (Nat.le_of_ble_eq_true rfl) (by decide) (Nat.le_refl _) (Nat.le_refl _) (fun q3 hf hs => ?_)
    refine g_goto (off := 131) (tgt := 217) (by decide +kernel) (by decide) ?_
    exact x_vret hf hs (by decide +kernel) rfl (Nat.le_refl _) (Nat.le_refl _)
  · rw [if_neg e0] at hf
    by_cases e1 : q1 = (104 : Int32)
    · rw [if_pos e1] at hf
      have ex : Int32.toInt q1 = 104 := by rw [e1]; rfl
      refine x_tabIn (dflt := 208) (lo := 103) (hi := 115) (offs := #[68, 208, 208, 85, 208, 208, 208, 208, 208, 121, 137, 153, 180]) (len := 68) (off := 208) (tgt := 212) (by decide +kernel) (by rw [ex]; decide) (by rw [ex]; decide) (by rw [ex]; rfl) (by decide) ?_
      refine g_aload_n (i := 0) (by decide +kernel) rfl ?_
      refine g_iconst (z := 2) (v := 2) (by decide +kernel) rfl ?_
      refine x_callVV (as := [.int (2 : Int32)]) Vi_Reader_blame Vs_Reader_blame (hs.k k_61) rfl hf (fun q hq => t_Reader_blame hs  hq) Y_Reader_blame L_Reader_95 (by decide +kernel) rfl rfl (Nat.le_of_ble_eq_true rfl) (by decide) (Nat.le_refl _) (Nat.le_refl _) (fun q4 hf hs => ?_)
      exact x_vret hf hs (by decide +kernel) rfl (Nat.le_refl _) (Nat.le_refl _)
    · rw [if_neg e1] at hf
      by_cases e2 : q1 = (105 : Int32)
      · rw [if_pos e2] at hf
        have ex : Int32.toInt q1 = 105 := by rw [e2]; rfl
        refine x_tabIn (dflt := 208) (lo := 103) (hi := 115) (offs := #[68, 208, 208, 85, 208, 208, 208, 208, 208, 121, 137, 153, 180]) (len := 68) (off := 208) (tgt := 212) (by decide +kernel) (by rw [ex]; decide) (by rw [ex]; decide) (by rw [ex]; rfl) (by decide) ?_
        refine g_aload_n (i := 0) (by decide +kernel) rfl ?_
        refine g_iconst (z := 2) (v := 2) (by decide +kernel) rfl ?_
        refine x_callVV (as := [.int (2 : Int32)]) Vi_Reader_blame Vs_Reader_blame (hs.k k_61) rfl hf (fun q hq => t_Reader_blame hs  hq) Y_Reader_blame L_Reader_95 (by decide +kernel) rfl rfl (Nat.le_of_ble_eq_true rfl) (by decide) (Nat.le_refl _) (Nat.le_refl _) (fun q5 hf hs => ?_)
        exact x_vret hf hs (by decide +kernel) rfl (Nat.le_refl _) (Nat.le_refl _)
      · rw [if_neg e2] at hf
        by_cases e3 : q1 = (106 : Int32)
        · rw [if_pos e3] at hf
          have ex : Int32.toInt q1 = 106 := by rw [e3]; rfl
          refine x_tabIn (dflt := 208) (lo := 103) (hi := 115) (offs := #[68, 208, 208, 85, 208, 208, 208, 208, 208, 121, 137, 153, 180]) (len := 68) (off := 85) (tgt := 89) (by decide +kernel) (by rw [ex]; decide) (by rw [ex]; decide) (by rw [ex]; rfl) (by decide) ?_
          refine g_aload_n (i := 0) (by decide +kernel) rfl ?_
          refine x_getr (hs.k k_61) F_Reader_12 (by decide +kernel) rfl (hs.r r_61_0) ?_
          refine x_geti (hs.k k_62) F_Reader_92 (by decide +kernel) rfl ?_
          refine g_iconst (z := 5) (v := 5) (by decide +kernel) rfl ?_
          refine x_icmp_lt (off := 11) (tgt := 108) hf (by decide +kernel) (by decide) (fun c6 hf => ?_) (fun c6 hf => ?_)
          · refine g_aload_n (i := 0) (by decide +kernel) rfl ?_
            refine g_dup (by decide +kernel) rfl ?_
            refine x_geti (hs.k k_61) F_Reader_25 (by decide +kernel) rfl ?_
            refine g_iconst (z := 1) (v := 1) (by decide +kernel) rfl ?_
            refine g_iadd (by decide +kernel) ?_
            refine x_puti hf hs (hs.k k_61) F_Reader_25 (by decide +kernel) rfl rfl rfl rfl (fun h7 hf hs => ?_)
            refine g_aload_n (i := 0) (by decide +kernel) rfl ?_
            refine x_callVV (as := []) Vi_Reader_readPerson Vs_Reader_readPerson (hs.k k_61) rfl hf (fun q hq => t_Reader_readPerson hs  hq) Y_Reader_readPerson L_Reader_98 (by decide +kernel) rfl rfl (Nat.le_of_ble_eq_true rfl) (by decide) (Nat.le_refl _) (Nat.le_refl _) (fun q8 hf hs => ?_)
            refine g_goto (off := 95) (tgt := 217) (by decide +kernel) (by decide) ?_
            exact x_vret hf hs (by decide +kernel) rfl (Nat.le_refl _) (Nat.le_refl _)
          · refine g_aload_n (i := 0) (by decide +kernel) rfl ?_
            refine g_iconst (z := 4) (v := 4) (by decide +kernel) rfl ?_
            refine x_callVV (as := [.int (4 : Int32)]) Vi_Reader_blame Vs_Reader_blame (hs.k k_61) rfl hf (fun q hq => t_Reader_blame hs  hq) Y_Reader_blame L_Reader_95 (by decide +kernel) rfl rfl (Nat.le_of_ble_eq_true rfl) (by decide) (Nat.le_refl _) (Nat.le_refl _) (fun q9 hf hs => ?_)
            refine g_goto (off := 112) (tgt := 217) (by decide +kernel) (by decide) ?_
            exact x_vret hf hs (by decide +kernel) rfl (Nat.le_refl _) (Nat.le_refl _)
        · rw [if_neg e3] at hf
          by_cases e4 : q1 = (107 : Int32)
          · rw [if_pos e4] at hf
            have ex : Int32.toInt q1 = 107 := by rw [e4]; rfl
            refine x_tabIn (dflt := 208) (lo := 103) (hi := 115) (offs := #[68, 208, 208, 85, 208, 208, 208, 208, 208, 121, 137, 153, 180]) (len := 68) (off := 208) (tgt := 212) (by decide +kernel) (by rw [ex]; decide) (by rw [ex]; decide) (by rw [ex]; rfl) (by decide) ?_
            refine g_aload_n (i := 0) (by decide +kernel) rfl ?_
            refine g_iconst (z := 2) (v := 2) (by decide +kernel) rfl ?_
            refine x_callVV (as := [.int (2 : Int32)]) Vi_Reader_blame Vs_Reader_blame (hs.k k_61) rfl hf (fun q hq => t_Reader_blame hs  hq) Y_Reader_blame L_Reader_95 (by decide +kernel) rfl rfl (Nat.le_of_ble_eq_true rfl) (by decide) (Nat.le_refl _) (Nat.le_refl _) (fun q10 hf hs => ?_)
            exact x_vret hf hs (by decide +kernel) rfl (Nat.le_refl _) (Nat.le_refl _)
          · rw [if_neg e4] at hf
            by_cases e5 : q1 = (108 : Int32)
            · rw [if_pos e5] at hf
              have ex : Int32.toInt q1 = 108 := by rw [e5]; rfl
              refine x_tabIn (dflt := 208) (lo := 103) (hi := 115) (offs := #[68, 208, 208, 85, 208, 208, 208, 208, 208, 121, 137, 153, 180]) (len := 68) (off := 208) (tgt := 212) (by decide +kernel) (by rw [ex]; decide) (by rw [ex]; decide) (by rw [ex]; rfl) (by decide) ?_
              refine g_aload_n (i := 0) (by decide +kernel) rfl ?_
              refine g_iconst (z := 2) (v := 2) (by decide +kernel) rfl ?_
              refine x_callVV (as := [.int (2 : Int32)]) Vi_Reader_blame Vs_Reader_blame (hs.k k_61) rfl hf (fun q hq => t_Reader_blame hs  hq) Y_Reader_blame L_Reader_95 (by decide +kernel) rfl rfl (Nat.le_of_ble_eq_true rfl) (by decide) (Nat.le_refl _) (Nat.le_refl _) (fun q11 hf hs => ?_)
              exact x_vret hf hs (by decide +kernel) rfl (Nat.le_refl _) (Nat.le_refl _)
            · rw [if_neg e5] at hf
              by_cases e6 : q1 = (109 : Int32)
              · rw [if_pos e6] at hf
                have ex : Int32.toInt q1 = 109 := by rw [e6]; rfl
                refine x_tabIn (dflt := 208) (lo := 103) (hi := 115) (offs := #[68, 208, 208, 85, 208, 208, 208, 208, 208, 121, 137, 153, 180]) (len := 68) (off := 208) (tgt := 212) (by decide +kernel) (by rw [ex]; decide) (by rw [ex]; decide) (by rw [ex]; rfl) (by decide) ?_
                refine g_aload_n (i := 0) (by decide +kernel) rfl ?_
                refine g_iconst (z := 2) (v := 2) (by decide +kernel) rfl ?_
                refine x_callVV (as := [.int (2 : Int32)]) Vi_Reader_blame Vs_Reader_blame (hs.k k_61) rfl hf (fun q hq => t_Reader_blame hs  hq) Y_Reader_blame L_Reader_95 (by decide +kernel) rfl rfl (Nat.le_of_ble_eq_true rfl) (by decide) (Nat.le_refl _) (Nat.le_refl _) (fun q12 hf hs => ?_)
                exact x_vret hf hs (by decide +kernel) rfl (Nat.le_refl _) (Nat.le_refl _)
              · rw [if_neg e6] at hf
                by_cases e7 : q1 = (110 : Int32)
                · rw [if_pos e7] at hf
                  have ex : Int32.toInt q1 = 110 := by rw [e7]; rfl
                  refine x_tabIn (dflt := 208) (lo := 103) (hi := 115) (offs := #[68, 208, 208, 85, 208, 208, 208, 208, 208, 121, 137, 153, 180]) (len := 68) (off := 208) (tgt := 212) (by decide +kernel) (by rw [ex]; decide) (by rw [ex]; decide) (by rw [ex]; rfl) (by decide) ?_
                  refine g_aload_n (i := 0) (by decide +kernel) rfl ?_
                  refine g_iconst (z := 2) (v := 2) (by decide +kernel) rfl ?_
                  refine x_callVV (as := [.int (2 : Int32)]) Vi_Reader_blame Vs_Reader_blame (hs.k k_61) rfl hf (fun q hq => t_Reader_blame hs  hq) Y_Reader_blame L_Reader_95 (by decide +kernel) rfl rfl (Nat.le_of_ble_eq_true rfl) (by decide) (Nat.le_refl _) (Nat.le_refl _) (fun q13 hf hs => ?_)
                  exact x_vret hf hs (by decide +kernel) rfl (Nat.le_refl _) (Nat.le_refl _)
                · rw [if_neg e7] at hf
                  by_cases e8 : q1 = (111 : Int32)
                  · rw [if_pos e8] at hf
                    have ex : Int32.toInt q1 = 111 := by rw [e8]; rfl
                    refine x_tabIn (dflt := 208) (lo := 103) (hi := 115) (offs := #[68, 208, 208, 85, 208, 208, 208, 208, 208, 121, 137, 153, 180]) (len := 68) (off := 208) (tgt := 212) (by decide +kernel) (by rw [ex]; decide) (by rw [ex]; decide) (by rw [ex]; rfl) (by decide) ?_
                    refine g_aload_n (i := 0) (by decide +kernel) rfl ?_
                    refine g_iconst (z := 2) (v := 2) (by decide +kernel) rfl ?_
                    refine x_callVV (as := [.int (2 : Int32)]) Vi_Reader_blame Vs_Reader_blame (hs.k k_61) rfl hf (fun q hq => t_Reader_blame hs  hq) Y_Reader_blame L_Reader_95 (by decide +kernel) rfl rfl (Nat.le_of_ble_eq_true rfl) (by decide) (Nat.le_refl _) (Nat.le_refl _) (fun q14 hf hs => ?_)
                    exact x_vret hf hs (by decide +kernel) rfl (Nat.le_refl _) (Nat.le_refl _)
                  · rw [if_neg e8] at hf
                    by_cases e9 : q1 = (112 : Int32)
                    · rw [if_pos e9] at hf
                      have ex : Int32.toInt q1 = 112 := by rw [e9]; rfl
                      refine x_tabIn (dflt := 208) (lo := 103) (hi := 115) (offs := #[68, 208, 208, 85, 208, 208, 208, 208, 208, 121, 137, 153, 180]) (len := 68) (off := 121) (tgt := 125) (by decide +kernel) (by rw [ex]; decide) (by rw [ex]; decide) (by rw [ex]; rfl) (by decide) ?_
                      refine g_aload_n (i := 0) (by decide +kernel) rfl ?_
                      refine g_aload_n (i := 0) (by decide +kernel) rfl ?_
                      refine x_getr (hs.k k_61) F_Reader_40 (by decide +kernel) rfl (hs.r r_61_5) ?_
                      refine x_callVV (as := [.ref 75]) Vi_Reader_beginLaw Vs_Reader_beginLaw (hs.k k_61) rfl hf (fun q hq => t_Reader_beginLaw hs (by decide) hq) Y_Reader_beginLaw L_Reader_101 (by decide +kernel) rfl rfl (Nat.le_of_ble_eq_true rfl) (by decide) (Nat.le_refl _) (Nat.le_refl _) (fun q15 hf hs => ?_)
                      refine g_aload_n (i := 0) (by decide +kernel) rfl ?_
                      refine g_iconst (z := 0) (v := 0) (by decide +kernel) rfl ?_
                      refine x_callVV (as := [.int (0 : Int32)]) Vi_Reader_readTruth Vs_Reader_readTruth (hs.k k_61) rfl hf (fun q hq => t_Reader_readTruth hs  hq) Y_Reader_readTruth L_Reader_105 (by decide +kernel) rfl rfl (Nat.le_of_ble_eq_true rfl) (by decide) (Nat.le_refl _) (Nat.le_refl _) (fun q16 hf hs => ?_)
                      refine g_goto (off := 79) (tgt := 217) (by decide +kernel) (by decide) ?_
                      exact x_vret hf hs (by decide +kernel) rfl (Nat.le_refl _) (Nat.le_refl _)
                    · rw [if_neg e9] at hf
                      by_cases e10 : q1 = (113 : Int32)
                      · rw [if_pos e10] at hf
                        have ex : Int32.toInt q1 = 113 := by rw [e10]; rfl
                        refine x_tabIn (dflt := 208) (lo := 103) (hi := 115) (offs := #[68, 208, 208, 85, 208, 208, 208, 208, 208, 121, 137, 153, 180]) (len := 68) (off := 137) (tgt := 141) (by decide +kernel) (by rw [ex]; decide) (by rw [ex]; decide) (by rw [ex]; rfl) (by decide) ?_
                        refine g_aload_n (i := 0) (by decide +kernel) rfl ?_
                        refine g_aload_n (i := 0) (by decide +kernel) rfl ?_
                        refine x_getr (hs.k k_61) F_Reader_44 (by decide +kernel) rfl (hs.r r_61_6) ?_
                        refine x_callVV (as := [.ref 79]) Vi_Reader_beginLaw Vs_Reader_beginLaw (hs.k k_61) rfl hf (fun q hq => t_Reader_beginLaw hs (by decide) hq) Y_Reader_beginLaw L_Reader_101 (by decide +kernel) rfl rfl (Nat.le_of_ble_eq_true rfl) (by decide) (Nat.le_refl _) (Nat.le_refl _) (fun q17 hf hs => ?_)
                        refine g_aload_n (i := 0) (by decide +kernel) rfl ?_
                        refine g_iconst (z := 0) (v := 0) (by decide +kernel) rfl ?_
                        refine x_callVV (as := [.int (0 : Int32)]) Vi_Reader_readTruth Vs_Reader_readTruth (hs.k k_61) rfl hf (fun q hq => t_Reader_readTruth hs  hq) Y_Reader_readTruth L_Reader_105 (by decide +kernel) rfl rfl (Nat.le_of_ble_eq_true rfl) (by decide) (Nat.le_refl _) (Nat.le_refl _) (fun q18 hf hs => ?_)
                        refine g_goto (off := 63) (tgt := 217) (by decide +kernel) (by decide) ?_
                        exact x_vret hf hs (by decide +kernel) rfl (Nat.le_refl _) (Nat.le_refl _)
                      · rw [if_neg e10] at hf
                        by_cases e11 : q1 = (114 : Int32)
                        · rw [if_pos e11] at hf
                          have ex : Int32.toInt q1 = 114 := by rw [e11]; rfl
                          refine x_tabIn (dflt := 208) (lo := 103) (hi := 115) (offs := #[68, 208, 208, 85, 208, 208, 208, 208, 208, 121, 137, 153, 180]) (len := 68) (off := 153) (tgt := 157) (by decide +kernel) (by rw [ex]; decide) (by rw [ex]; decide) (by rw [ex]; rfl) (by decide) ?_
                          refine g_aload_n (i := 0) (by decide +kernel) rfl ?_
                          refine g_dup (by decide +kernel) rfl ?_
                          refine x_geti (hs.k k_61) F_Reader_25 (by decide +kernel) rfl ?_
                          refine g_iconst (z := 1) (v := 1) (by decide +kernel) rfl ?_
                          refine g_iadd (by decide +kernel) ?_
                          refine x_puti hf hs (hs.k k_61) F_Reader_25 (by decide +kernel) rfl rfl rfl rfl (fun h19 hf hs => ?_)
                          refine g_aload_n (i := 0) (by decide +kernel) rfl ?_
                          refine x_getr (hs.k k_61) F_Reader_12 (by decide +kernel) rfl (hs.r r_61_0) ?_
                          refine g_aload_n (i := 0) (by decide +kernel) rfl ?_
                          refine g_iconst (z := 0) (v := 0) (by decide +kernel) rfl ?_
                          refine g_bipush (z := 10) (v := 10) (by decide +kernel) rfl ?_
                          refine x_callVI (as := [.int (0 : Int32), .int (10 : Int32)]) Vi_Reader_readNumber Vs_Reader_readNumber (hs.k k_61) rfl hf (fun q hq => t_Reader_readNumber hs  hq) Y_Reader_readNumber L_Reader_79 (by decide +kernel) rfl rfl (Nat.le_of_ble_eq_true rfl) (by decide) (Nat.le_refl _) (Nat.le_refl _) (fun q20 hf hs => ?_)
                          refine x_puti hf hs (hs.k k_62) F_Reader_108 (by decide +kernel) rfl rfl rfl rfl (fun h21 hf hs => ?_)
                          refine g_goto (off := 36) (tgt := 217) (by decide +kernel) (by decide) ?_
                          exact x_vret hf hs (by decide +kernel) rfl (Nat.le_refl _) (Nat.le_refl _)
                        · rw [if_neg e11] at hf
                          by_cases e12 : q1 = (115 : Int32)
                          · rw [if_pos e12] at hf
                            have ex : Int32.toInt q1 = 115 := by rw [e12]; rfl
                            refine x_tabIn (dflt := 208) (lo := 103) (hi := 115) (offs := #[68, 208, 208, 85, 208, 208, 208, 208, 208, 121, 137, 153, 180]) (len := 68) (off := 180) (tgt := 184) (by decide +kernel) (by rw [ex]; decide) (by rw [ex]; decide) (by rw [ex]; rfl) (by decide) ?_
                            refine g_aload_n (i := 0) (by decide +kernel) rfl ?_
                            refine g_dup (by decide +kernel) rfl ?_
                            refine x_geti (hs.k k_61) F_Reader_25 (by decide +kernel) rfl ?_
                            refine g_iconst (z := 1) (v := 1) (by decide +kernel) rfl ?_
                            refine g_iadd (by decide +kernel) ?_
                            refine x_puti hf hs (hs.k k_61) F_Reader_25 (by decide +kernel) rfl rfl rfl rfl (fun h22 hf hs => ?_)
                            refine g_aload_n (i := 0) (by decide +kernel) rfl ?_
                            refine x_getr (hs.k k_61) F_Reader_12 (by decide +kernel) rfl (hs.r r_61_0) ?_
                            refine g_aload_n (i := 0) (by decide +kernel) rfl ?_
                            refine g_iconst (z := 0) (v := 0) (by decide +kernel) rfl ?_
                            refine g_sipush (z := 999) (v := 999) (by decide +kernel) rfl ?_
                            refine x_callVI (as := [.int (0 : Int32), .int (999 : Int32)]) Vi_Reader_readNumber Vs_Reader_readNumber (hs.k k_61) rfl hf (fun q hq => t_Reader_readNumber hs  hq) Y_Reader_readNumber L_Reader_79 (by decide +kernel) rfl rfl (Nat.le_of_ble_eq_true rfl) (by decide) (Nat.le_refl _) (Nat.le_refl _) (fun q23 hf hs => ?_)
                            refine x_puti hf hs (hs.k k_62) F_Reader_111 (by decide +kernel) rfl rfl rfl rfl (fun h24 hf hs => ?_)
                            refine g_goto (off := 8) (tgt := 217) (by decide +kernel) (by decide) ?_
                            exact x_vret hf hs (by decide +kernel) rfl (Nat.le_refl _) (Nat.le_refl _)
                          · rw [if_neg e12] at hf
                            refine x_tabOut (dflt := 208) (lo := 103) (hi := 115) (offs := #[68, 208, 208, 85, 208, 208, 208, 208, 208, 121, 137, 153, 180]) (len := 68) (tgt := 212) (by decide +kernel) (am_tabNe ⟨by decide, by decide⟩ (fun z hz => ?_)) (by decide) ?_
                            · have hz : z < 13 := hz
                              have : z = 0 ∨ z = 1 ∨ z = 2 ∨ z = 3 ∨ z = 4 ∨ z = 5 ∨ z = 6 ∨ z = 7 ∨ z = 8 ∨ z = 9 ∨ z = 10 ∨ z = 11 ∨ z = 12 := by omega
                              rcases this with rfl | rfl | rfl | rfl | rfl | rfl | rfl | rfl | rfl | rfl | rfl | rfl | rfl
                              · exact e0
                              · exact e1
                              · exact e2
                              · exact e3
                              · exact e4
                              · exact e5
                              · exact e6
                              · exact e7
                              · exact e8
                              · exact e9
                              · exact e10
                              · exact e11
                              · exact e12
                            · refine g_aload_n (i := 0) (by decide +kernel) rfl ?_
                              refine g_iconst (z := 2) (v := 2) (by decide +kernel) rfl ?_
                              refine x_callVV (as := [.int (2 : Int32)]) Vi_Reader_blame Vs_Reader_blame (hs.k k_61) rfl hf (fun q hq => t_Reader_blame hs  hq) Y_Reader_blame L_Reader_95 (by decide +kernel) rfl rfl (Nat.le_of_ble_eq_true rfl) (by decide) (Nat.le_refl _) (Nat.le_refl _) (fun q25 hf hs => ?_)
                              exact x_vret hf hs (by decide +kernel) rfl (Nat.le_refl _) (Nat.le_refl _)
def f_River_row (p0 : Int32) (p1 : Int32) (p2 : Int32) (h : am_H) : Option (Int32) :=
  (if p2 = 0 then
    some ((((p0 * (6 : Int32)) + p1) * (2 : Int32)) + (0 : Int32))
  else
    some ((((p0 * (6 : Int32)) + p1) * (2 : Int32)) + (1 : Int32)))
set_option maxRecDepth 100000 in
set_option maxHeartbeats 4000000 in
theorem t_River_row {p0 : Int32} {p1 : Int32} {p2 : Int32} {h : am_H} (hs : am_Sh h)  {r : Int32} (hf : f_River_row p0 p1 p2 h = some r) : am_Ct 0 M_River_row [.int p0, .int p1, .int p2] h 0 0 (am_pI h r) := by
  unfold f_River_row at hf
  refine am_Ct.of (by decide) rfl (Nat.le_of_ble_eq_true rfl) (ls := [(0, .int p0), (1, .int p1), (2, .int p2)]) rfl ?_
  refine g_iload_n (i := 0) (by decide +kernel) rfl ?_
  refine g_bipush (z := 6) (v := 6) (by decide +kernel) rfl ?_
  refine g_imul (by decide +kernel) ?_
  refine g_iload_n (i := 1) (by decide +kernel) rfl ?_
  refine g_iadd (by decide +kernel) ?_
  refine g_iconst (z := 2) (v := 2) (by decide +kernel) rfl ?_
  refine g_imul (by decide +kernel) ?_
  refine g_iload_n (i := 2) (by decide +kernel) rfl ?_
  refine x_if_eq (off := 7) (tgt := 16) hf (by decide +kernel) (by decide) (fun c1 hf => ?_) (fun c1 hf => ?_)
  · refine g_iconst (z := 0) (v := 0) (by decide +kernel) rfl ?_
    refine g_iadd (by decide +kernel) ?_
    exact x_iretp hf (by decide +kernel) rfl (Nat.le_refl _) (Nat.le_refl _)
  · refine g_iconst (z := 1) (v := 1) (by decide +kernel) rfl ?_
    refine g_goto (off := 4) (tgt := 17) (by decide +kernel) (by decide) ?_
    refine g_iadd (by decide +kernel) ?_
    exact x_iretp hf (by decide +kernel) rfl (Nat.le_refl _) (Nat.le_refl _)
def f_Law_ask (o : Nat) (p1 : Int32) (p2 : Int32) (p3 : Int32) (p4 : Int32) (p5 : Int32) (p6 : Int32) (h : am_H) : Option (am_H) :=
  (am_wr h (o + 2) 6 (0 : Int32) p1).bind fun h1 =>
  (am_wr h1 (o + 2) 6 (1 : Int32) p2).bind fun h2 =>
  (am_wr h2 (o + 2) 6 (2 : Int32) p3).bind fun h3 =>
  (am_wr h3 (o + 2) 6 (3 : Int32) p4).bind fun h4 =>
  (am_wr h4 (o + 2) 6 (4 : Int32) p5).bind fun h5 =>
  (am_wr h5 (o + 2) 6 (5 : Int32) p6).bind fun h6 =>
  some h6
set_option maxRecDepth 100000 in
set_option maxHeartbeats 4000000 in
theorem t_Law_ask {o : Nat} {p1 : Int32} {p2 : Int32} {p3 : Int32} {p4 : Int32} {p5 : Int32} {p6 : Int32} {h : am_H} (hs : am_Sh h) (ho : o ∈ am_lwL) {r : am_H} (hf : f_Law_ask o p1 p2 p3 p4 p5 p6 h = some r) : am_Ct 0 M_Law_ask [.ref o, .int p1, .int p2, .int p3, .int p4, .int p5, .int p6] h 0 0 (am_qV r) := by
  unfold f_Law_ask at hf
  refine am_Ct.of (by decide) rfl (Nat.le_of_ble_eq_true rfl) (ls := [(0, .ref o), (1, .int p1), (2, .int p2), (3, .int p3), (4, .int p4), (5, .int p5), (6, .int p6)]) rfl ?_
  refine g_aload_n (i := 0) (by decide +kernel) rfl ?_
  refine x_getr (hs.k (k_Lw ho)) F_Law_23 (by decide +kernel) rfl (hs.r (r_Lw_3 ho)) ?_
  refine g_iconst (z := 0) (v := 0) (by decide +kernel) rfl ?_
  refine g_iload_n (i := 1) (by decide +kernel) rfl ?_
  refine x_iast hf hs (hs.k (k_Lw_3 ho)) (by decide +kernel) (fun h1 hf hs => ?_)
  refine g_aload_n (i := 0) (by decide +kernel) rfl ?_
  refine x_getr (hs.k (k_Lw ho)) F_Law_23 (by decide +kernel) rfl (hs.r (r_Lw_3 ho)) ?_
  refine g_iconst (z := 1) (v := 1) (by decide +kernel) rfl ?_
  refine g_iload_n (i := 2) (by decide +kernel) rfl ?_
  refine x_iast hf hs (hs.k (k_Lw_3 ho)) (by decide +kernel) (fun h2 hf hs => ?_)
  refine g_aload_n (i := 0) (by decide +kernel) rfl ?_
  refine x_getr (hs.k (k_Lw ho)) F_Law_23 (by decide +kernel) rfl (hs.r (r_Lw_3 ho)) ?_
  refine g_iconst (z := 2) (v := 2) (by decide +kernel) rfl ?_
  refine g_iload_n (i := 3) (by decide +kernel) rfl ?_
  refine x_iast hf hs (hs.k (k_Lw_3 ho)) (by decide +kernel) (fun h3 hf hs => ?_)
  refine g_aload_n (i := 0) (by decide +kernel) rfl ?_
  refine x_getr (hs.k (k_Lw ho)) F_Law_23 (by decide +kernel) rfl (hs.r (r_Lw_3 ho)) ?_
  refine g_iconst (z := 3) (v := 3) (by decide +kernel) rfl ?_
  refine g_iload (i := 4) (by decide +kernel) rfl ?_
  refine x_iast hf hs (hs.k (k_Lw_3 ho)) (by decide +kernel) (fun h4 hf hs => ?_)
  refine g_aload_n (i := 0) (by decide +kernel) rfl ?_
  refine x_getr (hs.k (k_Lw ho)) F_Law_23 (by decide +kernel) rfl (hs.r (r_Lw_3 ho)) ?_
  refine g_iconst (z := 4) (v := 4) (by decide +kernel) rfl ?_
  refine g_iload (i := 5) (by decide +kernel) rfl ?_
  refine x_iast hf hs (hs.k (k_Lw_3 ho)) (by decide +kernel) (fun h5 hf hs => ?_)
  refine g_aload_n (i := 0) (by decide +kernel) rfl ?_
  refine x_getr (hs.k (k_Lw ho)) F_Law_23 (by decide +kernel) rfl (hs.r (r_Lw_3 ho)) ?_
  refine g_iconst (z := 5) (v := 5) (by decide +kernel) rfl ?_
  refine g_iload (i := 6) (by decide +kernel) rfl ?_
  refine x_iast hf hs (hs.k (k_Lw_3 ho)) (by decide +kernel) (fun h6 hf hs => ?_)
  exact x_vret hf hs (by decide +kernel) rfl (Nat.le_refl _) (Nat.le_refl _)
