def am_M_Rm (t : Nat) : am_M := match t with
  | 0 => M_Mod_readTruth
  | 1 => M_Mod_readBoth
  | 2 => M_Mod_readUnit
  | 3 => M_Mod_readSum
  | 4 => M_Mod_readTerm
  | _ => M_Mod_readAtom
def f_Mod_readTruth_L5 (rec : Nat → Int32 → am_H → Option (am_H)) (p1 : Int32) : Nat → am_H → Option (am_H)
  | 0, _ => none
  | n + 1, h =>
    (f_Mod_eats (20 : Int32) h).bind fun q2 =>
    (if q2.1 = true then
      (rec 1 p1 q2.2).bind fun q4 =>
      (f_Mod_codes (3008 : Int32) q4).bind fun q5 =>
      f_Mod_readTruth_L5 rec p1 n  q5
    else
      some q2.2)
set_option maxRecDepth 100000 in
set_option maxHeartbeats 4000000 in
theorem t_Mod_readTruth_L5 {rec : Nat → Int32 → am_H → Option (am_H)} {e : Nat} (hrec : ∀ (t : Nat) (a0 : Int32) (h : am_H), am_Sh h → ∀ q, rec t a0 h = some q → am_Ct e (am_M_Rm t) [.ref 136, .int a0] h 0 0 (am_qV q)) (he : 7 ≤ e) {p1 : Int32}  {Q : Option Value → am_H → Prop} : ∀ (n : Nat)  (h : am_H) (q : am_H), am_Sh h → f_Mod_readTruth_L5 rec p1 n  h = some q → (am_Sh q → am_G (e + 1) M_Mod_readTruth 0 0 Q 29 [(0, .ref 136), (1, .int p1)] [] q 0 0) → am_G (e + 1) M_Mod_readTruth 0 0 Q 5 [(0, .ref 136), (1, .int p1)] [] h 0 0 := by
  intro n
  induction n with
  | zero =>
    intro  h q hs hf kont
    rw [f_Mod_readTruth_L5] at hf
    cases hf
  | succ n ih =>
    intro  h q hs hf kont
    rw [f_Mod_readTruth_L5] at hf
    refine g_aload_n (i := 0) (by decide +kernel) rfl ?_
    refine g_bipush (z := 20) (v := 20) (by decide +kernel) rfl ?_
    refine x_callVB (as := [.int (20 : Int32)]) Vi_Mod_eats Vs_Mod_eats (hs.k k_136) rfl hf (fun q hq => t_Mod_eats hs  hq) Y_Mod_eats L_Mod_176 (by decide +kernel) rfl rfl (Nat.le_of_ble_eq_true rfl) (by omega) (Nat.le_refl _) (Nat.le_refl _) (fun q2 hf hs => ?_)
    refine x_ifb_eq (off := 18) (tgt := 29) hf (by decide +kernel) (by decide) (fun c3 hf => ?_) (fun c3 hf => ?_)
    · cases hf
      exact am_G.forget (am_subp [0, 1] rfl) (kont hs)
    · refine g_aload_n (i := 0) (by decide +kernel) rfl ?_
      refine g_iload_n (i := 1) (by decide +kernel) rfl ?_
      refine x_callVV (as := [.int p1]) Vi_Mod_readBoth Vs_Mod_readBoth (hs.k k_136) rfl hf (fun q hq => hrec 1 _ _ hs q hq) Y_Mod_readBoth L_Mod_191 (by decide +kernel) rfl rfl (Nat.le_of_ble_eq_true rfl) (by omega) (Nat.le_refl _) (Nat.le_refl _) (fun q4 hf hs => ?_)
      refine g_aload_n (i := 0) (by decide +kernel) rfl ?_
      refine g_sipush (z := 3008) (v := 3008) (by decide +kernel) rfl ?_
      refine x_callVV (as := [.int (3008 : Int32)]) Vi_Mod_codes Vs_Mod_codes (hs.k k_136) rfl hf (fun q hq => t_Mod_codes hs  hq) Y_Mod_codes L_Mod_164 (by decide +kernel) rfl rfl (Nat.le_of_ble_eq_true rfl) (by omega) (Nat.le_refl _) (Nat.le_refl _) (fun q5 hf hs => ?_)
      refine g_goto (off := (-21)) (tgt := 5) (by decide +kernel) (by decide) ?_
      exact am_G.forget (am_subp [0, 1] rfl) (ih  _ _ hs hf kont)
def b_Mod_readTruth (rec : Nat → Int32 → am_H → Option (am_H)) (p1 : Int32) (h : am_H) : Option (am_H) :=
  (rec 1 p1 h).bind fun q1 =>
  (f_Mod_readTruth_L5 rec p1 am_fu  q1).bind fun q6 =>
  some q6
set_option maxRecDepth 100000 in
set_option maxHeartbeats 4000000 in
theorem tb_Mod_readTruth {rec : Nat → Int32 → am_H → Option (am_H)} {e : Nat} (hrec : ∀ (t : Nat) (a0 : Int32) (h : am_H), am_Sh h → ∀ q, rec t a0 h = some q → am_Ct e (am_M_Rm t) [.ref 136, .int a0] h 0 0 (am_qV q)) (he : 7 ≤ e) {p1 : Int32} {h : am_H} (hs : am_Sh h)  {r : am_H} (hf : b_Mod_readTruth rec p1 h = some r) : am_Ct (e + 1) M_Mod_readTruth [.ref 136, .int p1] h 0 0 (am_qV r) := by
  unfold b_Mod_readTruth at hf
  refine am_Ct.of (by decide) rfl (Nat.le_of_ble_eq_true rfl) (ls := [(0, .ref 136), (1, .int p1)]) rfl ?_
  refine g_aload_n (i := 0) (by decide +kernel) rfl ?_
  refine g_iload_n (i := 1) (by decide +kernel) rfl ?_
  refine x_callVV (as := [.int p1]) Vi_Mod_readBoth Vs_Mod_readBoth (hs.k k_136) rfl hf (fun q hq => hrec 1 _ _ hs q hq) Y_Mod_readBoth L_Mod_191 (by decide +kernel) rfl rfl (Nat.le_of_ble_eq_true rfl) (by omega) (Nat.le_refl _) (Nat.le_refl _) (fun q1 hf hs => ?_)
  obtain ⟨q6, hqq6, hf⟩ := Option.bind_eq_some_iff.mp hf
  refine am_G.forget (am_subp [0, 1] rfl) (t_Mod_readTruth_L5 hrec he  am_fu  _ q6 hs hqq6 (fun hs => ?_))
  exact x_vret hf hs (by decide +kernel) rfl (Nat.le_refl _) (Nat.le_refl _)
def f_Mod_readBoth_L5 (rec : Nat → Int32 → am_H → Option (am_H)) (p1 : Int32) : Nat → am_H → Option (am_H)
  | 0, _ => none
  | n + 1, h =>
    (f_Mod_eats (19 : Int32) h).bind fun q2 =>
    (if q2.1 = true then
      (rec 2 p1 q2.2).bind fun q4 =>
      (f_Mod_codes (3007 : Int32) q4).bind fun q5 =>
      f_Mod_readBoth_L5 rec p1 n  q5
    else
      some q2.2)
set_option maxRecDepth 100000 in
set_option maxHeartbeats 4000000 in
theorem t_Mod_readBoth_L5 {rec : Nat → Int32 → am_H → Option (am_H)} {e : Nat} (hrec : ∀ (t : Nat) (a0 : Int32) (h : am_H), am_Sh h → ∀ q, rec t a0 h = some q → am_Ct e (am_M_Rm t) [.ref 136, .int a0] h 0 0 (am_qV q)) (he : 7 ≤ e) {p1 : Int32}  {Q : Option Value → am_H → Prop} : ∀ (n : Nat)  (h : am_H) (q : am_H), am_Sh h → f_Mod_readBoth_L5 rec p1 n  h = some q → (am_Sh q → am_G (e + 1) M_Mod_readBoth 0 0 Q 29 [(0, .ref 136), (1, .int p1)] [] q 0 0) → am_G (e + 1) M_Mod_readBoth 0 0 Q 5 [(0, .ref 136), (1, .int p1)] [] h 0 0 := by
  intro n
  induction n with
  | zero =>
    intro  h q hs hf kont
    rw [f_Mod_readBoth_L5] at hf
    cases hf
  | succ n ih =>
    intro  h q hs hf kont
    rw [f_Mod_readBoth_L5] at hf
    refine g_aload_n (i := 0) (by decide +kernel) rfl ?_
    refine g_bipush (z := 19) (v := 19) (by decide +kernel) rfl ?_
    refine x_callVB (as := [.int (19 : Int32)]) Vi_Mod_eats Vs_Mod_eats (hs.k k_136) rfl hf (fun q hq => t_Mod_eats hs  hq) Y_Mod_eats L_Mod_176 (by decide +kernel) rfl rfl (Nat.le_of_ble_eq_true rfl) (by omega) (Nat.le_refl _) (Nat.le_refl _) (fun q2 hf hs => ?_)
    refine x_ifb_eq (off := 18) (tgt := 29) hf (by decide +kernel) (by decide) (fun c3 hf => ?_) (fun c3 hf => ?_)
    · cases hf
      exact am_G.forget (am_subp [0, 1] rfl) (kont hs)
    · refine g_aload_n (i := 0) (by decide +kernel) rfl ?_
      refine g_iload_n (i := 1) (by decide +kernel) rfl ?_
      refine x_callVV (as := [.int p1]) Vi_Mod_readUnit Vs_Mod_readUnit (hs.k k_136) rfl hf (fun q hq => hrec 2 _ _ hs q hq) Y_Mod_readUnit L_Mod_185 (by decide +kernel) rfl rfl (Nat.le_of_ble_eq_true rfl) (by omega) (Nat.le_refl _) (Nat.le_refl _) (fun q4 hf hs => ?_)
      refine g_aload_n (i := 0) (by decide +kernel) rfl ?_
      refine g_sipush (z := 3007) (v := 3007) (by decide +kernel) rfl ?_
      refine x_callVV (as := [.int (3007 : Int32)]) Vi_Mod_codes Vs_Mod_codes (hs.k k_136) rfl hf (fun q hq => t_Mod_codes hs  hq) Y_Mod_codes L_Mod_164 (by decide +kernel) rfl rfl (Nat.le_of_ble_eq_true rfl) (by omega) (Nat.le_refl _) (Nat.le_refl _) (fun q5 hf hs => ?_)
      refine g_goto (off := (-21)) (tgt := 5) (by decide +kernel) (by decide) ?_
      exact am_G.forget (am_subp [0, 1] rfl) (ih  _ _ hs hf kont)
def b_Mod_readBoth (rec : Nat → Int32 → am_H → Option (am_H)) (p1 : Int32) (h : am_H) : Option (am_H) :=
  (rec 2 p1 h).bind fun q1 =>
  (f_Mod_readBoth_L5 rec p1 am_fu  q1).bind fun q6 =>
  some q6
set_option maxRecDepth 100000 in
set_option maxHeartbeats 4000000 in
theorem tb_Mod_readBoth {rec : Nat → Int32 → am_H → Option (am_H)} {e : Nat} (hrec : ∀ (t : Nat) (a0 : Int32) (h : am_H), am_Sh h → ∀ q, rec t a0 h = some q → am_Ct e (am_M_Rm t) [.ref 136, .int a0] h 0 0 (am_qV q)) (he : 7 ≤ e) {p1 : Int32} {h : am_H} (hs : am_Sh h)  {r : am_H} (hf : b_Mod_readBoth rec p1 h = some r) : am_Ct (e + 1) M_Mod_readBoth [.ref 136, .int p1] h 0 0 (am_qV r) := by
  unfold b_Mod_readBoth at hf
  refine am_Ct.of (by decide) rfl (Nat.le_of_ble_eq_true rfl) (ls := [(0, .ref 136), (1, .int p1)]) rfl ?_
  refine g_aload_n (i := 0) (by decide +kernel) rfl ?_
  refine g_iload_n (i := 1) (by decide +kernel) rfl ?_
  refine x_callVV (as := [.int p1]) Vi_Mod_readUnit Vs_Mod_readUnit (hs.k k_136) rfl hf (fun q hq => hrec 2 _ _ hs q hq) Y_Mod_readUnit L_Mod_185 (by decide +kernel) rfl rfl (Nat.le_of_ble_eq_true rfl) (by omega) (Nat.le_refl _) (Nat.le_refl _) (fun q1 hf hs => ?_)
  obtain ⟨q6, hqq6, hf⟩ := Option.bind_eq_some_iff.mp hf
  refine am_G.forget (am_subp [0, 1] rfl) (t_Mod_readBoth_L5 hrec he  am_fu  _ q6 hs hqq6 (fun hs => ?_))
  exact x_vret hf hs (by decide +kernel) rfl (Nat.le_refl _) (Nat.le_refl _)
def b_Mod_readUnit (rec : Nat → Int32 → am_H → Option (am_H)) (p1 : Int32) (h : am_H) : Option (am_H) :=
  (f_Mod_is (21 : Int32) h).bind fun q1 =>
  (if q1 = true then
    (f_Mod_goesIn p1 h).bind fun q30 =>
    (if q30.1 = true then
      (rec 2 (p1 + (1 : Int32)) q30.2).bind fun q32 =>
      (f_Mod_codes (3006 : Int32) q32).bind fun q33 =>
      some q33
    else
      some q30.2)
  else
    (f_Mod_is (37 : Int32) h).bind fun q3 =>
    (if q3 = true then
      (f_Mod_goesIn p1 h).bind fun q24 =>
      (if q24.1 = true then
        (rec 0 (p1 + (1 : Int32)) q24.2).bind fun q26 =>
        (f_Mod_eats (38 : Int32) q26).bind fun q27 =>
        (if q27.1 = true then
          some q27.2
        else
          (f_Mod_fails (2 : Int32) q27.2).bind fun q29 =>
          some q29)
      else
        some q24.2)
    else
      (rec 3 p1 h).bind fun q5 =>
      (f_Mod_is (39 : Int32) q5).bind fun q6 =>
      ((if q6 = true then
          some (3003 : Int32)
        else
          (f_Mod_is (40 : Int32) q5).bind fun q8 =>
          (if q8 = true then
            some (3004 : Int32)
          else
            some (3005 : Int32))) : Option (Int32)).bind fun m10 =>
      (f_Mod_is (39 : Int32) q5).bind fun q11 =>
      ((if q11 = true then
          (f_Mod_next  q5).bind fun q13 =>
          some q13
        else
          (f_Mod_is (40 : Int32) q5).bind fun q14 =>
          (if q14 = true then
            (f_Mod_next  q5).bind fun q16 =>
            some q16
          else
            (f_Mod_is (41 : Int32) q5).bind fun q17 =>
            (if q17 = true then
              (f_Mod_next  q5).bind fun q20 =>
              some q20
            else
              (f_Mod_fails (2 : Int32) q5).bind fun q19 =>
              some q19))) : Option (am_H)).bind fun m21 =>
      (rec 3 p1 m21).bind fun q22 =>
      (f_Mod_codes m10 q22).bind fun q23 =>
      some q23))
set_option maxRecDepth 100000 in
set_option maxHeartbeats 4000000 in
theorem tb_Mod_readUnit {rec : Nat → Int32 → am_H → Option (am_H)} {e : Nat} (hrec : ∀ (t : Nat) (a0 : Int32) (h : am_H), am_Sh h → ∀ q, rec t a0 h = some q → am_Ct e (am_M_Rm t) [.ref 136, .int a0] h 0 0 (am_qV q)) (he : 7 ≤ e) {p1 : Int32} {h : am_H} (hs : am_Sh h)  {r : am_H} (hf : b_Mod_readUnit rec p1 h = some r) : am_Ct (e + 1) M_Mod_readUnit [.ref 136, .int p1] h 0 0 (am_qV r) := by
  unfold b_Mod_readUnit at hf
  refine am_Ct.of (by decide) rfl (Nat.le_of_ble_eq_true rfl) (ls := [(0, .ref 136), (1, .int p1)]) rfl ?_
  refine g_aload_n (i := 0) (by decide +kernel) rfl ?_
  refine g_bipush (z := 21) (v := 21) (by decide +kernel) rfl ?_
  refine x_callVBp (as := [.int (21 : Int32)]) Vi_Mod_is Vs_Mod_is (hs.k k_136) rfl hf (fun q hq => t_Mod_is hs  hq) Y_Mod_is L_Mod_147 (by decide +kernel) rfl rfl (Nat.le_of_ble_eq_true rfl) (by omega) (Nat.le_refl _) (Nat.le_refl _) (fun q1 hf => ?_)
  refine x_ifb_eq (off := 27) (tgt := 33) hf (by decide +kernel) (by decide) (fun c2 hf => ?_) (fun c2 hf => ?_)
  · refine g_aload_n (i := 0) (by decide +kernel) rfl ?_
    refine g_bipush (z := 37) (v := 37) (by decide +kernel) rfl ?_
    refine x_callVBp (as := [.int (37 : Int32)]) Vi_Mod_is Vs_Mod_is (hs.k k_136) rfl hf (fun q hq => t_Mod_is hs  hq) Y_Mod_is L_Mod_147 (by decide +kernel) rfl rfl (Nat.le_of_ble_eq_true rfl) (by omega) (Nat.le_refl _) (Nat.le_refl _) (fun q3 hf => ?_)
    refine x_ifb_eq (off := 34) (tgt := 73) hf (by decide +kernel) (by decide) (fun c4 hf => ?_) (fun c4 hf => ?_)
    · refine g_aload_n (i := 0) (by decide +kernel) rfl ?_
      refine g_iload_n (i := 1) (by decide +kernel) rfl ?_
      refine x_callVV (as := [.int p1]) Vi_Mod_readSum Vs_Mod_readSum (hs.k k_136) rfl hf (fun q hq => hrec 3 _ _ hs q hq) Y_Mod_readSum L_Mod_173 (by decide +kernel) rfl rfl (Nat.le_of_ble_eq_true rfl) (by omega) (Nat.le_refl _) (Nat.le_refl _) (fun q5 hf hs => ?_)
      refine g_aload_n (i := 0) (by decide +kernel) rfl ?_
      refine g_bipush (z := 39) (v := 39) (by decide +kernel) rfl ?_
      refine x_callVBp (as := [.int (39 : Int32)]) Vi_Mod_is Vs_Mod_is (hs.k k_136) rfl hf (fun q hq => t_Mod_is hs  hq) Y_Mod_is L_Mod_147 (by decide +kernel) rfl rfl (Nat.le_of_ble_eq_true rfl) (by omega) (Nat.le_refl _) (Nat.le_refl _) (fun q6 hf => ?_)
      obtain ⟨m10, hm111, hf⟩ := Option.bind_eq_some_iff.mp hf
      refine am_cut (J := 111) (ls' := [(0, .ref 136), (1, .int p1)]) (st' := [.int m10]) ?_ (fun K111 => ?_)
      · refine g_istore_n (i := 2) (by decide +kernel) rfl (by decide) (ls1 := [(0, .ref 136), (1, .int p1), (2, .int m10)]) rfl ?_
        refine g_aload_n (i := 0) (by decide +kernel) rfl ?_
        refine g_bipush (z := 39) (v := 39) (by decide +kernel) rfl ?_
        refine x_callVBp (as := [.int (39 : Int32)]) Vi_Mod_is Vs_Mod_is (hs.k k_136) rfl hf (fun q hq => t_Mod_is hs  hq) Y_Mod_is L_Mod_147 (by decide +kernel) rfl rfl (Nat.le_of_ble_eq_true rfl) (by omega) (Nat.le_refl _) (Nat.le_refl _) (fun q11 hf => ?_)
        obtain ⟨m21, hm151, hf⟩ := Option.bind_eq_some_iff.mp hf
        refine am_cutS (J := 151) (ls' := [(0, .ref 136), (1, .int p1), (2, .int m10)]) (st' := []) (h' := m21) (fun hs => ?_) (fun K151 => ?_)
        · refine g_aload_n (i := 0) (by decide +kernel) rfl ?_
          refine g_iload_n (i := 1) (by decide +kernel) rfl ?_
          refine x_callVV (as := [.int p1]) Vi_Mod_readSum Vs_Mod_readSum (hs.k k_136) rfl hf (fun q hq => hrec 3 _ _ hs q hq) Y_Mod_readSum L_Mod_173 (by decide +kernel) rfl rfl (Nat.le_of_ble_eq_true rfl) (by omega) (Nat.le_refl _) (Nat.le_refl _) (fun q22 hf hs => ?_)
          refine g_aload_n (i := 0) (by decide +kernel) rfl ?_
          refine g_iload_n (i := 2) (by decide +kernel) rfl ?_
          refine x_callVV (as := [.int m10]) Vi_Mod_codes Vs_Mod_codes (hs.k k_136) rfl hf (fun q hq => t_Mod_codes hs  hq) Y_Mod_codes L_Mod_164 (by decide +kernel) rfl rfl (Nat.le_of_ble_eq_true rfl) (by omega) (Nat.le_refl _) (Nat.le_refl _) (fun q23 hf hs => ?_)
          exact x_vret hf hs (by decide +kernel) rfl (Nat.le_refl _) (Nat.le_refl _)
        refine x_ifb_ne (off := 21) (tgt := 139) hm151 (by decide +kernel) (by decide) (fun c12 hm151 => ?_) (fun c12 hm151 => ?_)
        · refine g_aload_n (i := 0) (by decide +kernel) rfl ?_
          refine x_callVV (as := []) Vi_Mod_next Vs_Mod_next (hs.k k_136) rfl hm151 (fun q hq => t_Mod_next hs  hq) Y_Mod_next L_Mod_150 (by decide +kernel) rfl rfl (Nat.le_of_ble_eq_true rfl) (by omega) (Nat.le_refl _) (Nat.le_refl _) (fun q13 hm151 hs => ?_)
          refine g_goto (off := 8) (tgt := 151) (by decide +kernel) (by decide) ?_
          cases hm151
          exact am_G.forget (am_subp [0, 1, 2] rfl) (K151 hs)
        · refine g_aload_n (i := 0) (by decide +kernel) rfl ?_
          refine g_bipush (z := 40) (v := 40) (by decide +kernel) rfl ?_
          refine x_callVBp (as := [.int (40 : Int32)]) Vi_Mod_is Vs_Mod_is (hs.k k_136) rfl hm151 (fun q hq => t_Mod_is hs  hq) Y_Mod_is L_Mod_147 (by decide +kernel) rfl rfl (Nat.le_of_ble_eq_true rfl) (by omega) (Nat.le_refl _) (Nat.le_refl _) (fun q14 hm151 => ?_)
          refine x_ifb_ne (off := 12) (tgt := 139) hm151 (by decide +kernel) (by decide) (fun c15 hm151 => ?_) (fun c15 hm151 => ?_)
          · refine g_aload_n (i := 0) (by decide +kernel) rfl ?_
            refine x_callVV (as := []) Vi_Mod_next Vs_Mod_next (hs.k k_136) rfl hm151 (fun q hq => t_Mod_next hs  hq) Y_Mod_next L_Mod_150 (by decide +kernel) rfl rfl (Nat.le_of_ble_eq_true rfl) (by omega) (Nat.le_refl _) (Nat.le_refl _) (fun q16 hm151 hs => ?_)
            refine g_goto (off := 8) (tgt := 151) (by decide +kernel) (by decide) ?_
            cases hm151
            exact am_G.forget (am_subp [0, 1, 2] rfl) (K151 hs)
          · refine g_aload_n (i := 0) (by decide +kernel) rfl ?_
            refine g_bipush (z := 41) (v := 41) (by decide +kernel) rfl ?_
            refine x_callVBp (as := [.int (41 : Int32)]) Vi_Mod_is Vs_Mod_is (hs.k k_136) rfl hm151 (fun q hq => t_Mod_is hs  hq) Y_Mod_is L_Mod_147 (by decide +kernel) rfl rfl (Nat.le_of_ble_eq_true rfl) (by omega) (Nat.le_refl _) (Nat.le_refl _) (fun q17 hm151 => ?_)
            refine x_ifb_eq (off := 10) (tgt := 146) hm151 (by decide +kernel) (by decide) (fun c18 hm151 => ?_) (fun c18 hm151 => ?_)
            · refine g_aload_n (i := 0) (by decide +kernel) rfl ?_
              refine g_iconst (z := 2) (v := 2) (by decide +kernel) rfl ?_
              refine x_callVV (as := [.int (2 : Int32)]) Vi_Mod_fails Vs_Mod_fails (hs.k k_136) rfl hm151 (fun q hq => t_Mod_fails hs  hq) Y_Mod_fails L_Mod_153 (by decide +kernel) rfl rfl (Nat.le_of_ble_eq_true rfl) (by omega) (Nat.le_refl _) (Nat.le_refl _) (fun q19 hm151 hs => ?_)
              cases hm151
              exact am_G.forget (am_subp [0, 1, 2] rfl) (K151 hs)
            · refine g_aload_n (i := 0) (by decide +kernel) rfl ?_
              refine x_callVV (as := []) Vi_Mod_next Vs_Mod_next (hs.k k_136) rfl hm151 (fun q hq => t_Mod_next hs  hq) Y_Mod_next L_Mod_150 (by decide +kernel) rfl rfl (Nat.le_of_ble_eq_true rfl) (by omega) (Nat.le_refl _) (Nat.le_refl _) (fun q20 hm151 hs => ?_)
              refine g_goto (off := 8) (tgt := 151) (by decide +kernel) (by decide) ?_
              cases hm151
              exact am_G.forget (am_subp [0, 1, 2] rfl) (K151 hs)
      refine x_ifb_eq (off := 9) (tgt := 93) hm111 (by decide +kernel) (by decide) (fun c7 hm111 => ?_) (fun c7 hm111 => ?_)
      · refine g_aload_n (i := 0) (by decide +kernel) rfl ?_
        refine g_bipush (z := 40) (v := 40) (by decide +kernel) rfl ?_
        refine x_callVBp (as := [.int (40 : Int32)]) Vi_Mod_is Vs_Mod_is (hs.k k_136) rfl hm111 (fun q hq => t_Mod_is hs  hq) Y_Mod_is L_Mod_147 (by decide +kernel) rfl rfl (Nat.le_of_ble_eq_true rfl) (by omega) (Nat.le_refl _) (Nat.le_refl _) (fun q8 hm111 => ?_)
        refine x_ifb_eq (off := 9) (tgt := 108) hm111 (by decide +kernel) (by decide) (fun c9 hm111 => ?_) (fun c9 hm111 => ?_)
        · refine g_sipush (z := 3005) (v := 3005) (by decide +kernel) rfl ?_
          cases hm111
          exact am_G.forget (am_subp [0, 1] rfl) K111
        · refine g_sipush (z := 3004) (v := 3004) (by decide +kernel) rfl ?_
          refine g_goto (off := 6) (tgt := 111) (by decide +kernel) (by decide) ?_
          cases hm111
          exact am_G.forget (am_subp [0, 1] rfl) K111
      · refine g_sipush (z := 3003) (v := 3003) (by decide +kernel) rfl ?_
        refine g_goto (off := 21) (tgt := 111) (by decide +kernel) (by decide) ?_
        cases hm111
        exact am_G.forget (am_subp [0, 1] rfl) K111
    · refine g_aload_n (i := 0) (by decide +kernel) rfl ?_
      refine g_iload_n (i := 1) (by decide +kernel) rfl ?_
      refine x_callVB (as := [.int p1]) Vi_Mod_goesIn Vs_Mod_goesIn (hs.k k_136) rfl hf (fun q hq => t_Mod_goesIn hs  hq) Y_Mod_goesIn L_Mod_170 (by decide +kernel) rfl rfl (Nat.le_of_ble_eq_true rfl) (by omega) (Nat.le_refl _) (Nat.le_refl _) (fun q24 hf hs => ?_)
      refine x_ifb_ne (off := 4) (tgt := 51) hf (by decide +kernel) (by decide) (fun c25 hf => ?_) (fun c25 hf => ?_)
      · refine g_aload_n (i := 0) (by decide +kernel) rfl ?_
        refine g_iload_n (i := 1) (by decide +kernel) rfl ?_
        refine g_iconst (z := 1) (v := 1) (by decide +kernel) rfl ?_
        refine g_iadd (by decide +kernel) ?_
        refine x_callVV (as := [.int (p1 + (1 : Int32))]) Vi_Mod_readTruth Vs_Mod_readTruth (hs.k k_136) rfl hf (fun q hq => hrec 0 _ _ hs q hq) Y_Mod_readTruth L_Mod_188 (by decide +kernel) rfl rfl (Nat.le_of_ble_eq_true rfl) (by omega) (Nat.le_refl _) (Nat.le_refl _) (fun q26 hf hs => ?_)
        refine g_aload_n (i := 0) (by decide +kernel) rfl ?_
        refine g_bipush (z := 38) (v := 38) (by decide +kernel) rfl ?_
        refine x_callVB (as := [.int (38 : Int32)]) Vi_Mod_eats Vs_Mod_eats (hs.k k_136) rfl hf (fun q hq => t_Mod_eats hs  hq) Y_Mod_eats L_Mod_176 (by decide +kernel) rfl rfl (Nat.le_of_ble_eq_true rfl) (by omega) (Nat.le_refl _) (Nat.le_refl _) (fun q27 hf hs => ?_)
        refine x_ifb_ne (off := 8) (tgt := 72) hf (by decide +kernel) (by decide) (fun c28 hf => ?_) (fun c28 hf => ?_)
        · exact x_vret hf hs (by decide +kernel) rfl (Nat.le_refl _) (Nat.le_refl _)
        · refine g_aload_n (i := 0) (by decide +kernel) rfl ?_
          refine g_iconst (z := 2) (v := 2) (by decide +kernel) rfl ?_
          refine x_callVV (as := [.int (2 : Int32)]) Vi_Mod_fails Vs_Mod_fails (hs.k k_136) rfl hf (fun q hq => t_Mod_fails hs  hq) Y_Mod_fails L_Mod_153 (by decide +kernel) rfl rfl (Nat.le_of_ble_eq_true rfl) (by omega) (Nat.le_refl _) (Nat.le_refl _) (fun q29 hf hs => ?_)
          exact x_vret hf hs (by decide +kernel) rfl (Nat.le_refl _) (Nat.le_refl _)
      · exact x_vret hf hs (by decide +kernel) rfl (Nat.le_refl _) (Nat.le_refl _)
  · refine g_aload_n (i := 0) (by decide +kernel) rfl ?_
    refine g_iload_n (i := 1) (by decide +kernel) rfl ?_
    refine x_callVB (as := [.int p1]) Vi_Mod_goesIn Vs_Mod_goesIn (hs.k k_136) rfl hf (fun q hq => t_Mod_goesIn hs  hq) Y_Mod_goesIn L_Mod_170 (by decide +kernel) rfl rfl (Nat.le_of_ble_eq_true rfl) (by omega) (Nat.le_refl _) (Nat.le_refl _) (fun q30 hf hs => ?_)
    refine x_ifb_ne (off := 4) (tgt := 18) hf (by decide +kernel) (by decide) (fun c31 hf => ?_) (fun c31 hf => ?_)
    · refine g_aload_n (i := 0) (by decide +kernel) rfl ?_
      refine g_iload_n (i := 1) (by decide +kernel) rfl ?_
      refine g_iconst (z := 1) (v := 1) (by decide +kernel) rfl ?_
      refine g_iadd (by decide +kernel) ?_
      refine x_callVV (as := [.int (p1 + (1 : Int32))]) Vi_Mod_readUnit Vs_Mod_readUnit (hs.k k_136) rfl hf (fun q hq => hrec 2 _ _ hs q hq) Y_Mod_readUnit L_Mod_185 (by decide +kernel) rfl rfl (Nat.le_of_ble_eq_true rfl) (by omega) (Nat.le_refl _) (Nat.le_refl _) (fun q32 hf hs => ?_)
      refine g_aload_n (i := 0) (by decide +kernel) rfl ?_
      refine g_sipush (z := 3006) (v := 3006) (by decide +kernel) rfl ?_
      refine x_callVV (as := [.int (3006 : Int32)]) Vi_Mod_codes Vs_Mod_codes (hs.k k_136) rfl hf (fun q hq => t_Mod_codes hs  hq) Y_Mod_codes L_Mod_164 (by decide +kernel) rfl rfl (Nat.le_of_ble_eq_true rfl) (by omega) (Nat.le_refl _) (Nat.le_refl _) (fun q33 hf hs => ?_)
      exact x_vret hf hs (by decide +kernel) rfl (Nat.le_refl _) (Nat.le_refl _)
    · exact x_vret hf hs (by decide +kernel) rfl (Nat.le_refl _) (Nat.le_refl _)
def f_Mod_readSum_L5 (rec : Nat → Int32 → am_H → Option (am_H)) (p1 : Int32) : Nat → am_H → Option (am_H)
  | 0, _ => none
  | n + 1, h =>
    (f_Mod_is (32 : Int32) h).bind fun q2 =>
    (if q2 = true then
      am_let (if (h.2.1 136 9) = (32 : Int32) then (3000 : Int32) else (3001 : Int32)) fun y10 =>
      (f_Mod_next  h).bind fun q11 =>
      (rec 4 p1 q11).bind fun q12 =>
      (f_Mod_codes y10 q12).bind fun q13 =>
      f_Mod_readSum_L5 rec p1 n  q13
    else
      (f_Mod_is (33 : Int32) h).bind fun q14 =>
      (if q14 = true then
        am_let (if (h.2.1 136 9) = (32 : Int32) then (3000 : Int32) else (3001 : Int32)) fun y17 =>
        (f_Mod_next  h).bind fun q18 =>
        (rec 4 p1 q18).bind fun q19 =>
        (f_Mod_codes y17 q19).bind fun q20 =>
        f_Mod_readSum_L5 rec p1 n  q20
      else
        some h))
set_option maxRecDepth 100000 in
set_option maxHeartbeats 4000000 in
theorem t_Mod_readSum_L5 {rec : Nat → Int32 → am_H → Option (am_H)} {e : Nat} (hrec : ∀ (t : Nat) (a0 : Int32) (h : am_H), am_Sh h → ∀ q, rec t a0 h = some q → am_Ct e (am_M_Rm t) [.ref 136, .int a0] h 0 0 (am_qV q)) (he : 7 ≤ e) {p1 : Int32}  {Q : Option Value → am_H → Prop} : ∀ (n : Nat)  (h : am_H) (q : am_H), am_Sh h → f_Mod_readSum_L5 rec p1 n  h = some q → (am_Sh q → am_G (e + 1) M_Mod_readSum 0 0 Q 59 [(0, .ref 136), (1, .int p1)] [] q 0 0) → am_G (e + 1) M_Mod_readSum 0 0 Q 5 [(0, .ref 136), (1, .int p1)] [] h 0 0 := by
  intro n
  induction n with
  | zero =>
    intro  h q hs hf kont
    rw [f_Mod_readSum_L5] at hf
    cases hf
  | succ n ih =>
    intro  h q hs hf kont
    rw [f_Mod_readSum_L5] at hf
    refine g_aload_n (i := 0) (by decide +kernel) rfl ?_
    refine g_bipush (z := 32) (v := 32) (by decide +kernel) rfl ?_
    refine x_callVBp (as := [.int (32 : Int32)]) Vi_Mod_is Vs_Mod_is (hs.k k_136) rfl hf (fun q hq => t_Mod_is hs  hq) Y_Mod_is L_Mod_147 (by decide +kernel) rfl rfl (Nat.le_of_ble_eq_true rfl) (by omega) (Nat.le_refl _) (Nat.le_refl _) (fun q2 hf => ?_)
    refine x_ifb_ne (off := 12) (tgt := 23) hf (by decide +kernel) (by decide) (fun c3 hf => ?_) (fun c3 hf => ?_)
    · refine g_aload_n (i := 0) (by decide +kernel) rfl ?_
      refine x_geti (hs.k k_136) F_Mod_123 (by decide +kernel) rfl ?_
      refine g_bipush (z := 32) (v := 32) (by decide +kernel) rfl ?_
      refine am_cut (J := 41) (ls' := [(0, .ref 136), (1, .int p1)]) (st' := [.int (if (h.2.1 136 9) = (32 : Int32) then (3000 : Int32) else (3001 : Int32))]) ?_ (fun K41 => ?_)
      · refine x_nmI hf (fun y10 hf => ?_)
        refine g_istore_n (i := 2) (by decide +kernel) rfl (by decide) (ls1 := [(0, .ref 136), (1, .int p1), (2, .int y10)]) rfl ?_
        refine g_aload_n (i := 0) (by decide +kernel) rfl ?_
        refine x_callVV (as := []) Vi_Mod_next Vs_Mod_next (hs.k k_136) rfl hf (fun q hq => t_Mod_next hs  hq) Y_Mod_next L_Mod_150 (by decide +kernel) rfl rfl (Nat.le_of_ble_eq_true rfl) (by omega) (Nat.le_refl _) (Nat.le_refl _) (fun q11 hf hs => ?_)
        refine g_aload_n (i := 0) (by decide +kernel) rfl ?_
        refine g_iload_n (i := 1) (by decide +kernel) rfl ?_
        refine x_callVV (as := [.int p1]) Vi_Mod_readTerm Vs_Mod_readTerm (hs.k k_136) rfl hf (fun q hq => hrec 4 _ _ hs q hq) Y_Mod_readTerm L_Mod_182 (by decide +kernel) rfl rfl (Nat.le_of_ble_eq_true rfl) (by omega) (Nat.le_refl _) (Nat.le_refl _) (fun q12 hf hs => ?_)
        refine g_aload_n (i := 0) (by decide +kernel) rfl ?_
        refine g_iload_n (i := 2) (by decide +kernel) rfl ?_
        refine x_callVV (as := [.int y10]) Vi_Mod_codes Vs_Mod_codes (hs.k k_136) rfl hf (fun q hq => t_Mod_codes hs  hq) Y_Mod_codes L_Mod_164 (by decide +kernel) rfl rfl (Nat.le_of_ble_eq_true rfl) (by omega) (Nat.le_refl _) (Nat.le_refl _) (fun q13 hf hs => ?_)
        refine g_goto (off := (-51)) (tgt := 5) (by decide +kernel) (by decide) ?_
        exact am_G.forget (am_subp [0, 1] rfl) (ih  _ _ hs hf kont)
      refine p_icmp_ne (off := 9) (tgt := 38) (by decide +kernel) (by decide) (fun c9 => ?_) (fun c9 => ?_)
      · refine g_sipush (z := 3001) (v := 3001) (by decide +kernel) rfl ?_
        have K1 := K41
        simp only [if_neg c9] at K1
        exact am_G.forget (am_subp [0, 1] rfl) K1
      · refine g_sipush (z := 3000) (v := 3000) (by decide +kernel) rfl ?_
        refine g_goto (off := 6) (tgt := 41) (by decide +kernel) (by decide) ?_
        have K1 := K41
        simp only [if_pos c9] at K1
        exact am_G.forget (am_subp [0, 1] rfl) K1
    · refine g_aload_n (i := 0) (by decide +kernel) rfl ?_
      refine g_bipush (z := 33) (v := 33) (by decide +kernel) rfl ?_
      refine x_callVBp (as := [.int (33 : Int32)]) Vi_Mod_is Vs_Mod_is (hs.k k_136) rfl hf (fun q hq => t_Mod_is hs  hq) Y_Mod_is L_Mod_147 (by decide +kernel) rfl rfl (Nat.le_of_ble_eq_true rfl) (by omega) (Nat.le_refl _) (Nat.le_refl _) (fun q14 hf => ?_)
      refine x_ifb_eq (off := 39) (tgt := 59) hf (by decide +kernel) (by decide) (fun c15 hf => ?_) (fun c15 hf => ?_)
      · cases hf
        exact am_G.forget (am_subp [0, 1] rfl) (kont hs)
      · refine g_aload_n (i := 0) (by decide +kernel) rfl ?_
        refine x_geti (hs.k k_136) F_Mod_123 (by decide +kernel) rfl ?_
        refine g_bipush (z := 32) (v := 32) (by decide +kernel) rfl ?_
        refine am_cut (J := 41) (ls' := [(0, .ref 136), (1, .int p1)]) (st' := [.int (if (h.2.1 136 9) = (32 : Int32) then (3000 : Int32) else (3001 : Int32))]) ?_ (fun K41 => ?_)
        · refine x_nmI hf (fun y17 hf => ?_)
          refine g_istore_n (i := 2) (by decide +kernel) rfl (by decide) (ls1 := [(0, .ref 136), (1, .int p1), (2, .int y17)]) rfl ?_
          refine g_aload_n (i := 0) (by decide +kernel) rfl ?_
          refine x_callVV (as := []) Vi_Mod_next Vs_Mod_next (hs.k k_136) rfl hf (fun q hq => t_Mod_next hs  hq) Y_Mod_next L_Mod_150 (by decide +kernel) rfl rfl (Nat.le_of_ble_eq_true rfl) (by omega) (Nat.le_refl _) (Nat.le_refl _) (fun q18 hf hs => ?_)
          refine g_aload_n (i := 0) (by decide +kernel) rfl ?_
          refine g_iload_n (i := 1) (by decide +kernel) rfl ?_
          refine x_callVV (as := [.int p1]) Vi_Mod_readTerm Vs_Mod_readTerm (hs.k k_136) rfl hf (fun q hq => hrec 4 _ _ hs q hq) Y_Mod_readTerm L_Mod_182 (by decide +kernel) rfl rfl (Nat.le_of_ble_eq_true rfl) (by omega) (Nat.le_refl _) (Nat.le_refl _) (fun q19 hf hs => ?_)
          refine g_aload_n (i := 0) (by decide +kernel) rfl ?_
          refine g_iload_n (i := 2) (by decide +kernel) rfl ?_
          refine x_callVV (as := [.int y17]) Vi_Mod_codes Vs_Mod_codes (hs.k k_136) rfl hf (fun q hq => t_Mod_codes hs  hq) Y_Mod_codes L_Mod_164 (by decide +kernel) rfl rfl (Nat.le_of_ble_eq_true rfl) (by omega) (Nat.le_refl _) (Nat.le_refl _) (fun q20 hf hs => ?_)
          refine g_goto (off := (-51)) (tgt := 5) (by decide +kernel) (by decide) ?_
          exact am_G.forget (am_subp [0, 1] rfl) (ih  _ _ hs hf kont)
        refine p_icmp_ne (off := 9) (tgt := 38) (by decide +kernel) (by decide) (fun c16 => ?_) (fun c16 => ?_)
        · refine g_sipush (z := 3001) (v := 3001) (by decide +kernel) rfl ?_
          have K1 := K41
          simp only [if_neg c16] at K1
          exact am_G.forget (am_subp [0, 1] rfl) K1
        · refine g_sipush (z := 3000) (v := 3000) (by decide +kernel) rfl ?_
          refine g_goto (off := 6) (tgt := 41) (by decide +kernel) (by decide) ?_
          have K1 := K41
          simp only [if_pos c16] at K1
          exact am_G.forget (am_subp [0, 1] rfl) K1
def b_Mod_readSum (rec : Nat → Int32 → am_H → Option (am_H)) (p1 : Int32) (h : am_H) : Option (am_H) :=
  (rec 4 p1 h).bind fun q1 =>
  (f_Mod_readSum_L5 rec p1 am_fu  q1).bind fun q21 =>
  some q21
set_option maxRecDepth 100000 in
set_option maxHeartbeats 4000000 in
theorem tb_Mod_readSum {rec : Nat → Int32 → am_H → Option (am_H)} {e : Nat} (hrec : ∀ (t : Nat) (a0 : Int32) (h : am_H), am_Sh h → ∀ q, rec t a0 h = some q → am_Ct e (am_M_Rm t) [.ref 136, .int a0] h 0 0 (am_qV q)) (he : 7 ≤ e) {p1 : Int32} {h : am_H} (hs : am_Sh h)  {r : am_H} (hf : b_Mod_readSum rec p1 h = some r) : am_Ct (e + 1) M_Mod_readSum [.ref 136, .int p1] h 0 0 (am_qV r) := by
  unfold b_Mod_readSum at hf
  refine am_Ct.of (by decide) rfl (Nat.le_of_ble_eq_true rfl) (ls := [(0, .ref 136), (1, .int p1)]) rfl ?_
  refine g_aload_n (i := 0) (by decide +kernel) rfl ?_
  refine g_iload_n (i := 1) (by decide +kernel) rfl ?_
  refine x_callVV (as := [.int p1]) Vi_Mod_readTerm Vs_Mod_readTerm (hs.k k_136) rfl hf (fun q hq => hrec 4 _ _ hs q hq) Y_Mod_readTerm L_Mod_182 (by decide +kernel) rfl rfl (Nat.le_of_ble_eq_true rfl) (by omega) (Nat.le_refl _) (Nat.le_refl _) (fun q1 hf hs => ?_)
  obtain ⟨q21, hqq21, hf⟩ := Option.bind_eq_some_iff.mp hf
  refine am_G.forget (am_subp [0, 1] rfl) (t_Mod_readSum_L5 hrec he  am_fu  _ q21 hs hqq21 (fun hs => ?_))
  exact x_vret hf hs (by decide +kernel) rfl (Nat.le_refl _) (Nat.le_refl _)
def f_Mod_readTerm_L5 (rec : Nat → Int32 → am_H → Option (am_H)) (p1 : Int32) : Nat → am_H → Option (am_H)
  | 0, _ => none
  | n + 1, h =>
    (f_Mod_eats (34 : Int32) h).bind fun q2 =>
    (if q2.1 = true then
      (rec 5 p1 q2.2).bind fun q4 =>
      (f_Mod_codes (3002 : Int32) q4).bind fun q5 =>
      f_Mod_readTerm_L5 rec p1 n  q5
    else
      some q2.2)
set_option maxRecDepth 100000 in
set_option maxHeartbeats 4000000 in
theorem t_Mod_readTerm_L5 {rec : Nat → Int32 → am_H → Option (am_H)} {e : Nat} (hrec : ∀ (t : Nat) (a0 : Int32) (h : am_H), am_Sh h → ∀ q, rec t a0 h = some q → am_Ct e (am_M_Rm t) [.ref 136, .int a0] h 0 0 (am_qV q)) (he : 7 ≤ e) {p1 : Int32}  {Q : Option Value → am_H → Prop} : ∀ (n : Nat)  (h : am_H) (q : am_H), am_Sh h → f_Mod_readTerm_L5 rec p1 n  h = some q → (am_Sh q → am_G (e + 1) M_Mod_readTerm 0 0 Q 29 [(0, .ref 136), (1, .int p1)] [] q 0 0) → am_G (e + 1) M_Mod_readTerm 0 0 Q 5 [(0, .ref 136), (1, .int p1)] [] h 0 0 := by
  intro n
  induction n with
  | zero =>
    intro  h q hs hf kont
    rw [f_Mod_readTerm_L5] at hf
    cases hf
  | succ n ih =>
    intro  h q hs hf kont
    rw [f_Mod_readTerm_L5] at hf
    refine g_aload_n (i := 0) (by decide +kernel) rfl ?_
    refine g_bipush (z := 34) (v := 34) (by decide +kernel) rfl ?_
    refine x_callVB (as := [.int (34 : Int32)]) Vi_Mod_eats Vs_Mod_eats (hs.k k_136) rfl hf (fun q hq => t_Mod_eats hs  hq) Y_Mod_eats L_Mod_176 (by decide +kernel) rfl rfl (Nat.le_of_ble_eq_true rfl) (by omega) (Nat.le_refl _) (Nat.le_refl _) (fun q2 hf hs => ?_)
    refine x_ifb_eq (off := 18) (tgt := 29) hf (by decide +kernel) (by decide) (fun c3 hf => ?_) (fun c3 hf => ?_)
    · cases hf
      exact am_G.forget (am_subp [0, 1] rfl) (kont hs)
    · refine g_aload_n (i := 0) (by decide +kernel) rfl ?_
      refine g_iload_n (i := 1) (by decide +kernel) rfl ?_
      refine x_callVV (as := [.int p1]) Vi_Mod_readAtom Vs_Mod_readAtom (hs.k k_136) rfl hf (fun q hq => hrec 5 _ _ hs q hq) Y_Mod_readAtom L_Mod_179 (by decide +kernel) rfl rfl (Nat.le_of_ble_eq_true rfl) (by omega) (Nat.le_refl _) (Nat.le_refl _) (fun q4 hf hs => ?_)
      refine g_aload_n (i := 0) (by decide +kernel) rfl ?_
      refine g_sipush (z := 3002) (v := 3002) (by decide +kernel) rfl ?_
      refine x_callVV (as := [.int (3002 : Int32)]) Vi_Mod_codes Vs_Mod_codes (hs.k k_136) rfl hf (fun q hq => t_Mod_codes hs  hq) Y_Mod_codes L_Mod_164 (by decide +kernel) rfl rfl (Nat.le_of_ble_eq_true rfl) (by omega) (Nat.le_refl _) (Nat.le_refl _) (fun q5 hf hs => ?_)
      refine g_goto (off := (-21)) (tgt := 5) (by decide +kernel) (by decide) ?_
      exact am_G.forget (am_subp [0, 1] rfl) (ih  _ _ hs hf kont)
def b_Mod_readTerm (rec : Nat → Int32 → am_H → Option (am_H)) (p1 : Int32) (h : am_H) : Option (am_H) :=
  (rec 5 p1 h).bind fun q1 =>
  (f_Mod_readTerm_L5 rec p1 am_fu  q1).bind fun q6 =>
  some q6
set_option maxRecDepth 100000 in
set_option maxHeartbeats 4000000 in
theorem tb_Mod_readTerm {rec : Nat → Int32 → am_H → Option (am_H)} {e : Nat} (hrec : ∀ (t : Nat) (a0 : Int32) (h : am_H), am_Sh h → ∀ q, rec t a0 h = some q → am_Ct e (am_M_Rm t) [.ref 136, .int a0] h 0 0 (am_qV q)) (he : 7 ≤ e) {p1 : Int32} {h : am_H} (hs : am_Sh h)  {r : am_H} (hf : b_Mod_readTerm rec p1 h = some r) : am_Ct (e + 1) M_Mod_readTerm [.ref 136, .int p1] h 0 0 (am_qV r) := by
  unfold b_Mod_readTerm at hf
  refine am_Ct.of (by decide) rfl (Nat.le_of_ble_eq_true rfl) (ls := [(0, .ref 136), (1, .int p1)]) rfl ?_
  refine g_aload_n (i := 0) (by decide +kernel) rfl ?_
  refine g_iload_n (i := 1) (by decide +kernel) rfl ?_
  refine x_callVV (as := [.int p1]) Vi_Mod_readAtom Vs_Mod_readAtom (hs.k k_136) rfl hf (fun q hq => hrec 5 _ _ hs q hq) Y_Mod_readAtom L_Mod_179 (by decide +kernel) rfl rfl (Nat.le_of_ble_eq_true rfl) (by omega) (Nat.le_refl _) (Nat.le_refl _) (fun q1 hf hs => ?_)
  obtain ⟨q6, hqq6, hf⟩ := Option.bind_eq_some_iff.mp hf
  refine am_G.forget (am_subp [0, 1] rfl) (t_Mod_readTerm_L5 hrec he  am_fu  _ q6 hs hqq6 (fun hs => ?_))
  exact x_vret hf hs (by decide +kernel) rfl (Nat.le_refl _) (Nat.le_refl _)
def b_Mod_readAtom (rec : Nat → Int32 → am_H → Option (am_H)) (p1 : Int32) (h : am_H) : Option (am_H) :=
  (f_Mod_is (23 : Int32) h).bind fun q1 =>
  (if q1 = true then
    (f_Mod_codes (h.2.1 136 10) h).bind fun q27 =>
    (f_Mod_next  q27).bind fun q28 =>
    some q28
  else
    (if (h.2.1 136 11) = 0 then
      (f_Mod_wordOf (h.2.1 136 9) h).bind fun q13 =>
      (if q13 = (-1 : Int32) then
        (f_Mod_is (35 : Int32) h).bind fun q15 =>
        (if q15 = true then
          (f_Mod_goesIn p1 h).bind fun q18 =>
          (if q18.1 = true then
            (rec 3 (p1 + (1 : Int32)) q18.2).bind fun q20 =>
            (f_Mod_eats (36 : Int32) q20).bind fun q21 =>
            (if q21.1 = true then
              some q21.2
            else
              (f_Mod_fails (2 : Int32) q21.2).bind fun q23 =>
              some q23)
          else
            some q18.2)
        else
          (f_Mod_fails (2 : Int32) h).bind fun q17 =>
          some q17)
      else
        (f_Mod_wordOf (h.2.1 136 9) h).bind fun q24 =>
        (f_Mod_codes ((1000 : Int32) + q24) h).bind fun q25 =>
        (f_Mod_next  q25).bind fun q26 =>
        some q26)
    else
      (f_Mod_is (35 : Int32) h).bind fun q4 =>
      (if q4 = true then
        (f_Mod_goesIn p1 h).bind fun q7 =>
        (if q7.1 = true then
          (rec 3 (p1 + (1 : Int32)) q7.2).bind fun q9 =>
          (f_Mod_eats (36 : Int32) q9).bind fun q10 =>
          (if q10.1 = true then
            some q10.2
          else
            (f_Mod_fails (2 : Int32) q10.2).bind fun q12 =>
            some q12)
        else
          some q7.2)
      else
        (f_Mod_fails (2 : Int32) h).bind fun q6 =>
        some q6)))
set_option maxRecDepth 100000 in
set_option maxHeartbeats 4000000 in
theorem tb_Mod_readAtom {rec : Nat → Int32 → am_H → Option (am_H)} {e : Nat} (hrec : ∀ (t : Nat) (a0 : Int32) (h : am_H), am_Sh h → ∀ q, rec t a0 h = some q → am_Ct e (am_M_Rm t) [.ref 136, .int a0] h 0 0 (am_qV q)) (he : 7 ≤ e) {p1 : Int32} {h : am_H} (hs : am_Sh h)  {r : am_H} (hf : b_Mod_readAtom rec p1 h = some r) : am_Ct (e + 1) M_Mod_readAtom [.ref 136, .int p1] h 0 0 (am_qV r) := by
  unfold b_Mod_readAtom at hf
  refine am_Ct.of (by decide) rfl (Nat.le_of_ble_eq_true rfl) (ls := [(0, .ref 136), (1, .int p1)]) rfl ?_
  refine g_aload_n (i := 0) (by decide +kernel) rfl ?_
  refine g_bipush (z := 23) (v := 23) (by decide +kernel) rfl ?_
  refine x_callVBp (as := [.int (23 : Int32)]) Vi_Mod_is Vs_Mod_is (hs.k k_136) rfl hf (fun q hq => t_Mod_is hs  hq) Y_Mod_is L_Mod_147 (by decide +kernel) rfl rfl (Nat.le_of_ble_eq_true rfl) (by omega) (Nat.le_refl _) (Nat.le_refl _) (fun q1 hf => ?_)
  refine x_ifb_eq (off := 18) (tgt := 24) hf (by decide +kernel) (by decide) (fun c2 hf => ?_) (fun c2 hf => ?_)
  · refine g_aload_n (i := 0) (by decide +kernel) rfl ?_
    refine x_geti (hs.k k_136) F_Mod_141 (by decide +kernel) rfl ?_
    refine x_if_ne (off := 38) (tgt := 66) hf (by decide +kernel) (by decide) (fun c3 hf => ?_) (fun c3 hf => ?_)
    · refine g_aload_n (i := 0) (by decide +kernel) rfl ?_
      refine g_bipush (z := 35) (v := 35) (by decide +kernel) rfl ?_
      refine x_callVBp (as := [.int (35 : Int32)]) Vi_Mod_is Vs_Mod_is (hs.k k_136) rfl hf (fun q hq => t_Mod_is hs  hq) Y_Mod_is L_Mod_147 (by decide +kernel) rfl rfl (Nat.le_of_ble_eq_true rfl) (by omega) (Nat.le_refl _) (Nat.le_refl _) (fun q4 hf => ?_)
      refine x_ifb_eq (off := 36) (tgt := 108) hf (by decide +kernel) (by decide) (fun c5 hf => ?_) (fun c5 hf => ?_)
      · refine g_aload_n (i := 0) (by decide +kernel) rfl ?_
        refine g_iconst (z := 2) (v := 2) (by decide +kernel) rfl ?_
        refine x_callVV (as := [.int (2 : Int32)]) Vi_Mod_fails Vs_Mod_fails (hs.k k_136) rfl hf (fun q hq => t_Mod_fails hs  hq) Y_Mod_fails L_Mod_153 (by decide +kernel) rfl rfl (Nat.le_of_ble_eq_true rfl) (by omega) (Nat.le_refl _) (Nat.le_refl _) (fun q6 hf hs => ?_)
        exact x_vret hf hs (by decide +kernel) rfl (Nat.le_refl _) (Nat.le_refl _)
      · refine g_aload_n (i := 0) (by decide +kernel) rfl ?_
        refine g_iload_n (i := 1) (by decide +kernel) rfl ?_
        refine x_callVB (as := [.int p1]) Vi_Mod_goesIn Vs_Mod_goesIn (hs.k k_136) rfl hf (fun q hq => t_Mod_goesIn hs  hq) Y_Mod_goesIn L_Mod_170 (by decide +kernel) rfl rfl (Nat.le_of_ble_eq_true rfl) (by omega) (Nat.le_refl _) (Nat.le_refl _) (fun q7 hf hs => ?_)
        refine x_ifb_ne (off := 4) (tgt := 84) hf (by decide +kernel) (by decide) (fun c8 hf => ?_) (fun c8 hf => ?_)
        · refine g_aload_n (i := 0) (by decide +kernel) rfl ?_
          refine g_iload_n (i := 1) (by decide +kernel) rfl ?_
          refine g_iconst (z := 1) (v := 1) (by decide +kernel) rfl ?_
          refine g_iadd (by decide +kernel) ?_
          refine x_callVV (as := [.int (p1 + (1 : Int32))]) Vi_Mod_readSum Vs_Mod_readSum (hs.k k_136) rfl hf (fun q hq => hrec 3 _ _ hs q hq) Y_Mod_readSum L_Mod_173 (by decide +kernel) rfl rfl (Nat.le_of_ble_eq_true rfl) (by omega) (Nat.le_refl _) (Nat.le_refl _) (fun q9 hf hs => ?_)
          refine g_aload_n (i := 0) (by decide +kernel) rfl ?_
          refine g_bipush (z := 36) (v := 36) (by decide +kernel) rfl ?_
          refine x_callVB (as := [.int (36 : Int32)]) Vi_Mod_eats Vs_Mod_eats (hs.k k_136) rfl hf (fun q hq => t_Mod_eats hs  hq) Y_Mod_eats L_Mod_176 (by decide +kernel) rfl rfl (Nat.le_of_ble_eq_true rfl) (by omega) (Nat.le_refl _) (Nat.le_refl _) (fun q10 hf hs => ?_)
          refine x_ifb_ne (off := 16) (tgt := 113) hf (by decide +kernel) (by decide) (fun c11 hf => ?_) (fun c11 hf => ?_)
          · exact x_vret hf hs (by decide +kernel) rfl (Nat.le_refl _) (Nat.le_refl _)
          · refine g_aload_n (i := 0) (by decide +kernel) rfl ?_
            refine g_iconst (z := 2) (v := 2) (by decide +kernel) rfl ?_
            refine x_callVV (as := [.int (2 : Int32)]) Vi_Mod_fails Vs_Mod_fails (hs.k k_136) rfl hf (fun q hq => t_Mod_fails hs  hq) Y_Mod_fails L_Mod_153 (by decide +kernel) rfl rfl (Nat.le_of_ble_eq_true rfl) (by omega) (Nat.le_refl _) (Nat.le_refl _) (fun q12 hf hs => ?_)
            refine g_goto (off := 8) (tgt := 113) (by decide +kernel) (by decide) ?_
            exact x_vret hf hs (by decide +kernel) rfl (Nat.le_refl _) (Nat.le_refl _)
        · exact x_vret hf hs (by decide +kernel) rfl (Nat.le_refl _) (Nat.le_refl _)
    · refine g_aload_n (i := 0) (by decide +kernel) rfl ?_
      refine g_aload_n (i := 0) (by decide +kernel) rfl ?_
      refine x_geti (hs.k k_136) F_Mod_123 (by decide +kernel) rfl ?_
      refine x_callVIp (as := [.int (h.2.1 136 9)]) Vi_Mod_wordOf Vs_Mod_wordOf (hs.k k_136) rfl hf (fun q hq => t_Mod_wordOf hs  hq) Y_Mod_wordOf L_Mod_167 (by decide +kernel) rfl rfl (Nat.le_of_ble_eq_true rfl) (by omega) (Nat.le_refl _) (Nat.le_refl _) (fun q13 hf => ?_)
      refine g_iconst (z := (-1)) (v := (-1)) (by decide +kernel) rfl ?_
      refine x_icmp_eq (off := 26) (tgt := 66) hf (by decide +kernel) (by decide) (fun c14 hf => ?_) (fun c14 hf => ?_)
      · refine g_aload_n (i := 0) (by decide +kernel) rfl ?_
        refine g_bipush (z := 35) (v := 35) (by decide +kernel) rfl ?_
        refine x_callVBp (as := [.int (35 : Int32)]) Vi_Mod_is Vs_Mod_is (hs.k k_136) rfl hf (fun q hq => t_Mod_is hs  hq) Y_Mod_is L_Mod_147 (by decide +kernel) rfl rfl (Nat.le_of_ble_eq_true rfl) (by omega) (Nat.le_refl _) (Nat.le_refl _) (fun q15 hf => ?_)
        refine x_ifb_eq (off := 36) (tgt := 108) hf (by decide +kernel) (by decide) (fun c16 hf => ?_) (fun c16 hf => ?_)
        · refine g_aload_n (i := 0) (by decide +kernel) rfl ?_
          refine g_iconst (z := 2) (v := 2) (by decide +kernel) rfl ?_
          refine x_callVV (as := [.int (2 : Int32)]) Vi_Mod_fails Vs_Mod_fails (hs.k k_136) rfl hf (fun q hq => t_Mod_fails hs  hq) Y_Mod_fails L_Mod_153 (by decide +kernel) rfl rfl (Nat.le_of_ble_eq_true rfl) (by omega) (Nat.le_refl _) (Nat.le_refl _) (fun q17 hf hs => ?_)
          exact x_vret hf hs (by decide +kernel) rfl (Nat.le_refl _) (Nat.le_refl _)
        · refine g_aload_n (i := 0) (by decide +kernel) rfl ?_
          refine g_iload_n (i := 1) (by decide +kernel) rfl ?_
          refine x_callVB (as := [.int p1]) Vi_Mod_goesIn Vs_Mod_goesIn (hs.k k_136) rfl hf (fun q hq => t_Mod_goesIn hs  hq) Y_Mod_goesIn L_Mod_170 (by decide +kernel) rfl rfl (Nat.le_of_ble_eq_true rfl) (by omega) (Nat.le_refl _) (Nat.le_refl _) (fun q18 hf hs => ?_)
          refine x_ifb_ne (off := 4) (tgt := 84) hf (by decide +kernel) (by decide) (fun c19 hf => ?_) (fun c19 hf => ?_)
          · refine g_aload_n (i := 0) (by decide +kernel) rfl ?_
            refine g_iload_n (i := 1) (by decide +kernel) rfl ?_
            refine g_iconst (z := 1) (v := 1) (by decide +kernel) rfl ?_
            refine g_iadd (by decide +kernel) ?_
            refine x_callVV (as := [.int (p1 + (1 : Int32))]) Vi_Mod_readSum Vs_Mod_readSum (hs.k k_136) rfl hf (fun q hq => hrec 3 _ _ hs q hq) Y_Mod_readSum L_Mod_173 (by decide +kernel) rfl rfl (Nat.le_of_ble_eq_true rfl) (by omega) (Nat.le_refl _) (Nat.le_refl _) (fun q20 hf hs => ?_)
            refine g_aload_n (i := 0) (by decide +kernel) rfl ?_
            refine g_bipush (z := 36) (v := 36) (by decide +kernel) rfl ?_
            refine x_callVB (as := [.int (36 : Int32)]) Vi_Mod_eats Vs_Mod_eats (hs.k k_136) rfl hf (fun q hq => t_Mod_eats hs  hq) Y_Mod_eats L_Mod_176 (by decide +kernel) rfl rfl (Nat.le_of_ble_eq_true rfl) (by omega) (Nat.le_refl _) (Nat.le_refl _) (fun q21 hf hs => ?_)
            refine x_ifb_ne (off := 16) (tgt := 113) hf (by decide +kernel) (by decide) (fun c22 hf => ?_) (fun c22 hf => ?_)
            · exact x_vret hf hs (by decide +kernel) rfl (Nat.le_refl _) (Nat.le_refl _)
            · refine g_aload_n (i := 0) (by decide +kernel) rfl ?_
              refine g_iconst (z := 2) (v := 2) (by decide +kernel) rfl ?_
              refine x_callVV (as := [.int (2 : Int32)]) Vi_Mod_fails Vs_Mod_fails (hs.k k_136) rfl hf (fun q hq => t_Mod_fails hs  hq) Y_Mod_fails L_Mod_153 (by decide +kernel) rfl rfl (Nat.le_of_ble_eq_true rfl) (by omega) (Nat.le_refl _) (Nat.le_refl _) (fun q23 hf hs => ?_)
              refine g_goto (off := 8) (tgt := 113) (by decide +kernel) (by decide) ?_
              exact x_vret hf hs (by decide +kernel) rfl (Nat.le_refl _) (Nat.le_refl _)
          · exact x_vret hf hs (by decide +kernel) rfl (Nat.le_refl _) (Nat.le_refl _)
      · refine g_aload_n (i := 0) (by decide +kernel) rfl ?_
        refine g_sipush (z := 1000) (v := 1000) (by decide +kernel) rfl ?_
        refine g_aload_n (i := 0) (by decide +kernel) rfl ?_
        refine g_aload_n (i := 0) (by decide +kernel) rfl ?_
        refine x_geti (hs.k k_136) F_Mod_123 (by decide +kernel) rfl ?_
        refine x_callVIp (as := [.int (h.2.1 136 9)]) Vi_Mod_wordOf Vs_Mod_wordOf (hs.k k_136) rfl hf (fun q hq => t_Mod_wordOf hs  hq) Y_Mod_wordOf L_Mod_167 (by decide +kernel) rfl rfl (Nat.le_of_ble_eq_true rfl) (by omega) (Nat.le_refl _) (Nat.le_refl _) (fun q24 hf => ?_)
        refine g_iadd (by decide +kernel) ?_
        refine x_callVV (as := [.int ((1000 : Int32) + q24)]) Vi_Mod_codes Vs_Mod_codes (hs.k k_136) rfl hf (fun q hq => t_Mod_codes hs  hq) Y_Mod_codes L_Mod_164 (by decide +kernel) rfl rfl (Nat.le_of_ble_eq_true rfl) (by omega) (Nat.le_refl _) (Nat.le_refl _) (fun q25 hf hs => ?_)
        refine g_aload_n (i := 0) (by decide +kernel) rfl ?_
        refine x_callVV (as := []) Vi_Mod_next Vs_Mod_next (hs.k k_136) rfl hf (fun q hq => t_Mod_next hs  hq) Y_Mod_next L_Mod_150 (by decide +kernel) rfl rfl (Nat.le_of_ble_eq_true rfl) (by omega) (Nat.le_refl _) (Nat.le_refl _) (fun q26 hf hs => ?_)
        refine g_goto (off := 50) (tgt := 113) (by decide +kernel) (by decide) ?_
        exact x_vret hf hs (by decide +kernel) rfl (Nat.le_refl _) (Nat.le_refl _)
  · refine g_aload_n (i := 0) (by decide +kernel) rfl ?_
    refine g_aload_n (i := 0) (by decide +kernel) rfl ?_
    refine x_geti (hs.k k_136) F_Mod_136 (by decide +kernel) rfl ?_
    refine x_callVV (as := [.int (h.2.1 136 10)]) Vi_Mod_codes Vs_Mod_codes (hs.k k_136) rfl hf (fun q hq => t_Mod_codes hs  hq) Y_Mod_codes L_Mod_164 (by decide +kernel) rfl rfl (Nat.le_of_ble_eq_true rfl) (by omega) (Nat.le_refl _) (Nat.le_refl _) (fun q27 hf hs => ?_)
    refine g_aload_n (i := 0) (by decide +kernel) rfl ?_
    refine x_callVV (as := []) Vi_Mod_next Vs_Mod_next (hs.k k_136) rfl hf (fun q hq => t_Mod_next hs  hq) Y_Mod_next L_Mod_150 (by decide +kernel) rfl rfl (Nat.le_of_ble_eq_true rfl) (by omega) (Nat.le_refl _) (Nat.le_refl _) (fun q28 hf hs => ?_)
    refine g_goto (off := 92) (tgt := 113) (by decide +kernel) (by decide) ?_
    exact x_vret hf hs (by decide +kernel) rfl (Nat.le_refl _) (Nat.le_refl _)
def f_Rm : Nat → Nat → Int32 → am_H → Option (am_H)
  | 0, _, _, _ => none
  | n + 1, t, a0, h => match t with
    | 0 => b_Mod_readTruth (f_Rm n) a0 h
    | 1 => b_Mod_readBoth (f_Rm n) a0 h
    | 2 => b_Mod_readUnit (f_Rm n) a0 h
    | 3 => b_Mod_readSum (f_Rm n) a0 h
    | 4 => b_Mod_readTerm (f_Rm n) a0 h
    | _ => b_Mod_readAtom (f_Rm n) a0 h
theorem t_Rm : ∀ (n t : Nat) (a0 : Int32) (h : am_H), am_Sh h → ∀ q, f_Rm n t a0 h = some q → am_Ct (7 + n) (am_M_Rm t) [.ref 136, .int a0] h 0 0 (am_qV q)
  | 0, t, a0, h, hs, q, hq => by
    rw [f_Rm] at hq
    cases hq
  | n + 1, t, a0, h, hs, q, hq => by
    have hrec := t_Rm n
    match t, hq with
    | 0, hq => exact tb_Mod_readTruth hrec (by omega) hs hq
    | 1, hq => exact tb_Mod_readBoth hrec (by omega) hs hq
    | 2, hq => exact tb_Mod_readUnit hrec (by omega) hs hq
    | 3, hq => exact tb_Mod_readSum hrec (by omega) hs hq
    | 4, hq => exact tb_Mod_readTerm hrec (by omega) hs hq
    | _ + 5, hq => exact tb_Mod_readAtom hrec (by omega) hs hq
def f_Mod_readTruth (a0 : Int32) (h : am_H) : Option (am_H) := f_Rm 60 0 a0 h
theorem t_Mod_readTruth {a0 : Int32} {h : am_H} (hs : am_Sh h) {r : am_H} (hf : f_Mod_readTruth a0 h = some r) : am_Ct 67 M_Mod_readTruth [.ref 136, .int a0] h 0 0 (am_qV r) := t_Rm 60 0 a0 h hs r hf
def f_Mod_readBoth (a0 : Int32) (h : am_H) : Option (am_H) := f_Rm 60 1 a0 h
theorem t_Mod_readBoth {a0 : Int32} {h : am_H} (hs : am_Sh h) {r : am_H} (hf : f_Mod_readBoth a0 h = some r) : am_Ct 67 M_Mod_readBoth [.ref 136, .int a0] h 0 0 (am_qV r) := t_Rm 60 1 a0 h hs r hf
def f_Mod_readUnit (a0 : Int32) (h : am_H) : Option (am_H) := f_Rm 60 2 a0 h
theorem t_Mod_readUnit {a0 : Int32} {h : am_H} (hs : am_Sh h) {r : am_H} (hf : f_Mod_readUnit a0 h = some r) : am_Ct 67 M_Mod_readUnit [.ref 136, .int a0] h 0 0 (am_qV r) := t_Rm 60 2 a0 h hs r hf
def f_Mod_readSum (a0 : Int32) (h : am_H) : Option (am_H) := f_Rm 60 3 a0 h
theorem t_Mod_readSum {a0 : Int32} {h : am_H} (hs : am_Sh h) {r : am_H} (hf : f_Mod_readSum a0 h = some r) : am_Ct 67 M_Mod_readSum [.ref 136, .int a0] h 0 0 (am_qV r) := t_Rm 60 3 a0 h hs r hf
def f_Mod_readTerm (a0 : Int32) (h : am_H) : Option (am_H) := f_Rm 60 4 a0 h
theorem t_Mod_readTerm {a0 : Int32} {h : am_H} (hs : am_Sh h) {r : am_H} (hf : f_Mod_readTerm a0 h = some r) : am_Ct 67 M_Mod_readTerm [.ref 136, .int a0] h 0 0 (am_qV r) := t_Rm 60 4 a0 h hs r hf
def f_Mod_readAtom (a0 : Int32) (h : am_H) : Option (am_H) := f_Rm 60 5 a0 h
theorem t_Mod_readAtom {a0 : Int32} {h : am_H} (hs : am_Sh h) {r : am_H} (hf : f_Mod_readAtom a0 h = some r) : am_Ct 67 M_Mod_readAtom [.ref 136, .int a0] h 0 0 (am_qV r) := t_Rm 60 5 a0 h hs r hf
def f_Mod_readSpan  (h : am_H) : Option (am_H) :=
  (f_Mod_next  h).bind fun q1 =>
  (am_rd (q1.2.1 140) 1137 (2 : Int32)).bind fun x2 =>
  (f_Mod_takes (0 : Int32) (x2 - (1 : Int32)) q1).bind fun q3 =>
  (f_Mod_eats (3 : Int32) q3.2).bind fun q4 =>
  ((if q4.1 = true then
      (am_rd (q4.2.2.1 140) 1137 (1 : Int32)).bind fun x9 =>
      (f_Mod_takes (0 : Int32) (x9 - (1 : Int32)) q4.2).bind fun q10 =>
      some (q10.1, q10.2)
    else
      (f_Mod_eats (4 : Int32) q4.2).bind fun q6 =>
      (if q6.1 = true then
        some ((-1 : Int32), q6.2)
      else
        (f_Mod_fails (2 : Int32) q6.2).bind fun q8 =>
        some ((-1 : Int32), q8))) : Option (Int32 × am_H)).bind fun m11 =>
  (if (m11.2.2.1 136 11) = 0 then
    (am_wr m11.2 140 1137 ((29 : Int32) + q3.1) m11.1).bind fun h13 =>
    some h13
  else
    some m11.2)
set_option maxRecDepth 100000 in
set_option maxHeartbeats 4000000 in
theorem t_Mod_readSpan  {h : am_H} (hs : am_Sh h)  {r : am_H} (hf : f_Mod_readSpan  h = some r) : am_Ct 7 M_Mod_readSpan [.ref 136] h 0 0 (am_qV r) := by
  unfold f_Mod_readSpan at hf
  refine am_Ct.of (by decide) rfl (Nat.le_of_ble_eq_true rfl) (ls := [(0, .ref 136)]) rfl ?_
  refine g_aload_n (i := 0) (by decide +kernel) rfl ?_
  refine x_callVV (as := []) Vi_Mod_next Vs_Mod_next (hs.k k_136) rfl hf (fun q hq => t_Mod_next hs  hq) Y_Mod_next L_Mod_150 (by decide +kernel) rfl rfl (Nat.le_of_ble_eq_true rfl) (by decide) (Nat.le_refl _) (Nat.le_refl _) (fun q1 hf hs => ?_)
  refine g_aload_n (i := 0) (by decide +kernel) rfl ?_
  refine g_iconst (z := 0) (v := 0) (by decide +kernel) rfl ?_
  refine g_aload_n (i := 0) (by decide +kernel) rfl ?_
  refine x_getr (hs.k k_136) F_Mod_24 (by decide +kernel) rfl (hs.r r_136_4) ?_
  refine g_iconst (z := 2) (v := 2) (by decide +kernel) rfl ?_
  refine x_iald hf (hs.k k_140) (by decide +kernel) (fun x2 hf => ?_)
  refine g_iconst (z := 1) (v := 1) (by decide +kernel) rfl ?_
  refine g_isub (by decide +kernel) ?_
  refine x_callVI (as := [.int (0 : Int32), .int (x2 - (1 : Int32))]) Vi_Mod_takes Vs_Mod_takes (hs.k k_136) rfl hf (fun q hq => t_Mod_takes hs  hq) Y_Mod_takes L_Mod_194 (by decide +kernel) rfl rfl (Nat.le_of_ble_eq_true rfl) (by decide) (Nat.le_refl _) (Nat.le_refl _) (fun q3 hf hs => ?_)
  refine g_istore_n (i := 1) (by decide +kernel) rfl (by decide) (ls1 := [(0, .ref 136), (1, .int q3.1)]) rfl ?_
  refine g_iconst (z := (-1)) (v := (-1)) (by decide +kernel) rfl ?_
  refine g_istore_n (i := 2) (by decide +kernel) rfl (by decide) (ls1 := [(0, .ref 136), (1, .int q3.1), (2, .int (-1 : Int32))]) rfl ?_
  refine g_aload_n (i := 0) (by decide +kernel) rfl ?_
  refine g_iconst (z := 3) (v := 3) (by decide +kernel) rfl ?_
  refine x_callVB (as := [.int (3 : Int32)]) Vi_Mod_eats Vs_Mod_eats (hs.k k_136) rfl hf (fun q hq => t_Mod_eats hs  hq) Y_Mod_eats L_Mod_176 (by decide +kernel) rfl rfl (Nat.le_of_ble_eq_true rfl) (by decide) (Nat.le_refl _) (Nat.le_refl _) (fun q4 hf hs => ?_)
  obtain ⟨m11, hm58, hf⟩ := Option.bind_eq_some_iff.mp hf
  refine am_cutS (J := 58) (ls' := [(0, .ref 136), (1, .int q3.1), (2, .int m11.1)]) (st' := []) (h' := m11.2) (fun hs => ?_) (fun K58 => ?_)
  · refine g_aload_n (i := 0) (by decide +kernel) rfl ?_
    refine x_geti (hs.k k_136) F_Mod_141 (by decide +kernel) rfl ?_
    refine x_if_ne (off := 13) (tgt := 75) hf (by decide +kernel) (by decide) (fun c12 hf => ?_) (fun c12 hf => ?_)
    · exact x_vret hf hs (by decide +kernel) rfl (Nat.le_refl _) (Nat.le_refl _)
    · refine g_aload_n (i := 0) (by decide +kernel) rfl ?_
      refine x_getr (hs.k k_136) F_Mod_24 (by decide +kernel) rfl (hs.r r_136_4) ?_
      refine g_bipush (z := 29) (v := 29) (by decide +kernel) rfl ?_
      refine g_iload_n (i := 1) (by decide +kernel) rfl ?_
      refine g_iadd (by decide +kernel) ?_
      refine g_iload_n (i := 2) (by decide +kernel) rfl ?_
      refine x_iast hf hs (hs.k k_140) (by decide +kernel) (fun h13 hf hs => ?_)
      exact x_vret hf hs (by decide +kernel) rfl (Nat.le_refl _) (Nat.le_refl _)
  refine x_ifb_eq (off := 20) (tgt := 45) hm58 (by decide +kernel) (by decide) (fun c5 hm58 => ?_) (fun c5 hm58 => ?_)
  · refine g_aload_n (i := 0) (by decide +kernel) rfl ?_
    refine g_iconst (z := 4) (v := 4) (by decide +kernel) rfl ?_
    refine x_callVB (as := [.int (4 : Int32)]) Vi_Mod_eats Vs_Mod_eats (hs.k k_136) rfl hm58 (fun q hq => t_Mod_eats hs  hq) Y_Mod_eats L_Mod_176 (by decide +kernel) rfl rfl (Nat.le_of_ble_eq_true rfl) (by decide) (Nat.le_refl _) (Nat.le_refl _) (fun q6 hm58 hs => ?_)
    refine x_ifb_ne (off := 8) (tgt := 58) hm58 (by decide +kernel) (by decide) (fun c7 hm58 => ?_) (fun c7 hm58 => ?_)
    · cases hm58
      exact am_G.forget (am_subp [0, 1, 2] rfl) (K58 hs)
    · refine g_aload_n (i := 0) (by decide +kernel) rfl ?_
      refine g_iconst (z := 2) (v := 2) (by decide +kernel) rfl ?_
      refine x_callVV (as := [.int (2 : Int32)]) Vi_Mod_fails Vs_Mod_fails (hs.k k_136) rfl hm58 (fun q hq => t_Mod_fails hs  hq) Y_Mod_fails L_Mod_153 (by decide +kernel) rfl rfl (Nat.le_of_ble_eq_true rfl) (by decide) (Nat.le_refl _) (Nat.le_refl _) (fun q8 hm58 hs => ?_)
      cases hm58
      exact am_G.forget (am_subp [0, 1, 2] rfl) (K58 hs)
  · refine g_aload_n (i := 0) (by decide +kernel) rfl ?_
    refine g_iconst (z := 0) (v := 0) (by decide +kernel) rfl ?_
    refine g_aload_n (i := 0) (by decide +kernel) rfl ?_
    refine x_getr (hs.k k_136) F_Mod_24 (by decide +kernel) rfl (hs.r r_136_4) ?_
    refine g_iconst (z := 1) (v := 1) (by decide +kernel) rfl ?_
    refine x_iald hm58 (hs.k k_140) (by decide +kernel) (fun x9 hm58 => ?_)
    refine g_iconst (z := 1) (v := 1) (by decide +kernel) rfl ?_
    refine g_isub (by decide +kernel) ?_
    refine x_callVI (as := [.int (0 : Int32), .int (x9 - (1 : Int32))]) Vi_Mod_takes Vs_Mod_takes (hs.k k_136) rfl hm58 (fun q hq => t_Mod_takes hs  hq) Y_Mod_takes L_Mod_194 (by decide +kernel) rfl rfl (Nat.le_of_ble_eq_true rfl) (by decide) (Nat.le_refl _) (Nat.le_refl _) (fun q10 hm58 hs => ?_)
    refine g_istore_n (i := 2) (by decide +kernel) rfl (by decide) (ls1 := [(0, .ref 136), (1, .int q3.1), (2, .int q10.1)]) rfl ?_
    refine g_goto (off := 16) (tgt := 58) (by decide +kernel) (by decide) ?_
    cases hm58
    exact am_G.forget (am_subp [0, 1, 2] rfl) (K58 hs)
def f_Mod_readSpot  (h : am_H) : Option (Int32 × am_H) :=
  (am_rd (h.2.1 140) 1137 (1 : Int32)).bind fun x1 =>
  (f_Mod_takes (0 : Int32) (x1 - (1 : Int32)) h).bind fun q2 =>
  (f_Mod_is (7 : Int32) q2.2).bind fun q3 =>
  am_let (if q3 = true then (1 : Int32) else (0 : Int32)) fun y5 =>
  (f_Mod_eats (7 : Int32) q2.2).bind fun q6 =>
  (if q6.1 = true then
    some ((((2 : Int32) * q2.1) + y5), q6.2)
  else
    (f_Mod_eats (6 : Int32) q6.2).bind fun q8 =>
    (if q8.1 = true then
      some ((((2 : Int32) * q2.1) + y5), q8.2)
    else
      (f_Mod_fails (2 : Int32) q8.2).bind fun q10 =>
      some ((((2 : Int32) * q2.1) + y5), q10)))
set_option maxRecDepth 100000 in
set_option maxHeartbeats 4000000 in
theorem t_Mod_readSpot  {h : am_H} (hs : am_Sh h)  {r : Int32 × am_H} (hf : f_Mod_readSpot  h = some r) : am_Ct 7 M_Mod_readSpot [.ref 136] h 0 0 (am_qI r) := by
  unfold f_Mod_readSpot at hf
  refine am_Ct.of (by decide) rfl (Nat.le_of_ble_eq_true rfl) (ls := [(0, .ref 136)]) rfl ?_
  refine g_aload_n (i := 0) (by decide +kernel) rfl ?_
  refine g_iconst (z := 0) (v := 0) (by decide +kernel) rfl ?_
  refine g_aload_n (i := 0) (by decide +kernel) rfl ?_
  refine x_getr (hs.k k_136) F_Mod_24 (by decide +kernel) rfl (hs.r r_136_4) ?_
  refine g_iconst (z := 1) (v := 1) (by decide +kernel) rfl ?_
  refine x_iald hf (hs.k k_140) (by decide +kernel) (fun x1 hf => ?_)
  refine g_iconst (z := 1) (v := 1) (by decide +kernel) rfl ?_
  refine g_isub (by decide +kernel) ?_
  refine x_callVI (as := [.int (0 : Int32), .int (x1 - (1 : Int32))]) Vi_Mod_takes Vs_Mod_takes (hs.k k_136) rfl hf (fun q hq => t_Mod_takes hs  hq) Y_Mod_takes L_Mod_194 (by decide +kernel) rfl rfl (Nat.le_of_ble_eq_true rfl) (by decide) (Nat.le_refl _) (Nat.le_refl _) (fun q2 hf hs => ?_)
  refine g_istore_n (i := 1) (by decide +kernel) rfl (by decide) (ls1 := [(0, .ref 136), (1, .int q2.1)]) rfl ?_
  refine g_aload_n (i := 0) (by decide +kernel) rfl ?_
  refine g_bipush (z := 7) (v := 7) (by decide +kernel) rfl ?_
  refine x_callVBp (as := [.int (7 : Int32)]) Vi_Mod_is Vs_Mod_is (hs.k k_136) rfl hf (fun q hq => t_Mod_is hs  hq) Y_Mod_is L_Mod_147 (by decide +kernel) rfl rfl (Nat.le_of_ble_eq_true rfl) (by decide) (Nat.le_refl _) (Nat.le_refl _) (fun q3 hf => ?_)
  refine am_cut (J := 28) (ls' := [(0, .ref 136), (1, .int q2.1)]) (st' := [.int (if q3 = true then (1 : Int32) else (0 : Int32))]) ?_ (fun K28 => ?_)
  · refine x_nmI hf (fun y5 hf => ?_)
    refine g_istore_n (i := 2) (by decide +kernel) rfl (by decide) (ls1 := [(0, .ref 136), (1, .int q2.1), (2, .int y5)]) rfl ?_
    refine g_aload_n (i := 0) (by decide +kernel) rfl ?_
    refine g_bipush (z := 7) (v := 7) (by decide +kernel) rfl ?_
    refine x_callVB (as := [.int (7 : Int32)]) Vi_Mod_eats Vs_Mod_eats (hs.k k_136) rfl hf (fun q hq => t_Mod_eats hs  hq) Y_Mod_eats L_Mod_176 (by decide +kernel) rfl rfl (Nat.le_of_ble_eq_true rfl) (by decide) (Nat.le_refl _) (Nat.le_refl _) (fun q6 hf hs => ?_)
    refine x_ifb_ne (off := 17) (tgt := 52) hf (by decide +kernel) (by decide) (fun c7 hf => ?_) (fun c7 hf => ?_)
    · refine g_iconst (z := 2) (v := 2) (by decide +kernel) rfl ?_
      refine g_iload_n (i := 1) (by decide +kernel) rfl ?_
      refine g_imul (by decide +kernel) ?_
      refine g_iload_n (i := 2) (by decide +kernel) rfl ?_
      refine g_iadd (by decide +kernel) ?_
      exact x_iret hf hs (by decide +kernel) rfl (Nat.le_refl _) (Nat.le_refl _)
    · refine g_aload_n (i := 0) (by decide +kernel) rfl ?_
      refine g_bipush (z := 6) (v := 6) (by decide +kernel) rfl ?_
      refine x_callVB (as := [.int (6 : Int32)]) Vi_Mod_eats Vs_Mod_eats (hs.k k_136) rfl hf (fun q hq => t_Mod_eats hs  hq) Y_Mod_eats L_Mod_176 (by decide +kernel) rfl rfl (Nat.le_of_ble_eq_true rfl) (by decide) (Nat.le_refl _) (Nat.le_refl _) (fun q8 hf hs => ?_)
      refine x_ifb_ne (off := 8) (tgt := 52) hf (by decide +kernel) (by decide) (fun c9 hf => ?_) (fun c9 hf => ?_)
      · refine g_iconst (z := 2) (v := 2) (by decide +kernel) rfl ?_
        refine g_iload_n (i := 1) (by decide +kernel) rfl ?_
        refine g_imul (by decide +kernel) ?_
        refine g_iload_n (i := 2) (by decide +kernel) rfl ?_
        refine g_iadd (by decide +kernel) ?_
        exact x_iret hf hs (by decide +kernel) rfl (Nat.le_refl _) (Nat.le_refl _)
      · refine g_aload_n (i := 0) (by decide +kernel) rfl ?_
        refine g_iconst (z := 2) (v := 2) (by decide +kernel) rfl ?_
        refine x_callVV (as := [.int (2 : Int32)]) Vi_Mod_fails Vs_Mod_fails (hs.k k_136) rfl hf (fun q hq => t_Mod_fails hs  hq) Y_Mod_fails L_Mod_153 (by decide +kernel) rfl rfl (Nat.le_of_ble_eq_true rfl) (by decide) (Nat.le_refl _) (Nat.le_refl _) (fun q10 hf hs => ?_)
        refine g_iconst (z := 2) (v := 2) (by decide +kernel) rfl ?_
        refine g_iload_n (i := 1) (by decide +kernel) rfl ?_
        refine g_imul (by decide +kernel) ?_
        refine g_iload_n (i := 2) (by decide +kernel) rfl ?_
        refine g_iadd (by decide +kernel) ?_
        exact x_iret hf hs (by decide +kernel) rfl (Nat.le_refl _) (Nat.le_refl _)
  refine p_ifb_eq (off := 7) (tgt := 27) (by decide +kernel) (by decide) (fun c4 => ?_) (fun c4 => ?_)
  · refine g_iconst (z := 0) (v := 0) (by decide +kernel) rfl ?_
    have K1 := K28
    simp only [if_neg c4] at K1
    exact am_G.forget (am_subp [0, 1] rfl) K1
  · refine g_iconst (z := 1) (v := 1) (by decide +kernel) rfl ?_
    refine g_goto (off := 4) (tgt := 28) (by decide +kernel) (by decide) ?_
    have K1 := K28
    simp only [if_pos c4] at K1
    exact am_G.forget (am_subp [0, 1] rfl) K1
def f_Mod_readFlag (p1 : Int32) (h : am_H) : Option (Bool × am_H) :=
  (f_Mod_eats (8 : Int32) h).bind fun q1 =>
  (if q1.1 = true then
    (f_Mod_takes (0 : Int32) (99 : Int32) q1.2).bind fun q14 =>
    (am_wr q14.2 140 1137 ((11 : Int32) + p1) q14.1).bind fun h15 =>
    (if (h15.2.1 136 11) = 0 then
      some (true, h15)
    else
      some (false, h15))
  else
    (f_Mod_eats (9 : Int32) q1.2).bind fun q3 =>
    (if q3.1 = true then
      (f_Mod_readSpot  q3.2).bind fun q5 =>
      (f_Mod_eats (10 : Int32) q5.2).bind fun q6 =>
      ((if q6.1 = true then
          some q6.2
        else
          (f_Mod_fails (2 : Int32) q6.2).bind fun q8 =>
          some q8) : Option (am_H)).bind fun m9 =>
      (f_Mod_takes (0 : Int32) (999 : Int32) m9).bind fun q10 =>
      (am_wr q10.2 140 1137 ((16 : Int32) + p1) q5.1).bind fun h11 =>
      (am_wr h11 140 1137 ((21 : Int32) + p1) q10.1).bind fun h12 =>
      (if (h12.2.1 136 11) = 0 then
        some (true, h12)
      else
        some (false, h12))
    else
      some (false, q3.2)))
set_option maxRecDepth 100000 in
set_option maxHeartbeats 4000000 in
theorem t_Mod_readFlag {p1 : Int32} {h : am_H} (hs : am_Sh h)  {r : Bool × am_H} (hf : f_Mod_readFlag p1 h = some r) : am_Ct 8 M_Mod_readFlag [.ref 136, .int p1] h 0 0 (am_qB r) := by
  unfold f_Mod_readFlag at hf
  refine am_Ct.of (by decide) rfl (Nat.le_of_ble_eq_true rfl) (ls := [(0, .ref 136), (1, .int p1)]) rfl ?_
  refine g_aload_n (i := 0) (by decide +kernel) rfl ?_
  refine g_bipush (z := 8) (v := 8) (by decide +kernel) rfl ?_
  refine x_callVB (as := [.int (8 : Int32)]) Vi_Mod_eats Vs_Mod_eats (hs.k k_136) rfl hf (fun q hq => t_Mod_eats hs  hq) Y_Mod_eats L_Mod_176 (by decide +kernel) rfl rfl (Nat.le_of_ble_eq_true rfl) (by decide) (Nat.le_refl _) (Nat.le_refl _) (fun q1 hf hs => ?_)
  refine x_ifb_eq (off := 22) (tgt := 28) hf (by decide +kernel) (by decide) (fun c2 hf => ?_) (fun c2 hf => ?_)
  · refine g_aload_n (i := 0) (by decide +kernel) rfl ?_
    refine g_bipush (z := 9) (v := 9) (by decide +kernel) rfl ?_
    refine x_callVB (as := [.int (9 : Int32)]) Vi_Mod_eats Vs_Mod_eats (hs.k k_136) rfl hf (fun q hq => t_Mod_eats hs  hq) Y_Mod_eats L_Mod_176 (by decide +kernel) rfl rfl (Nat.le_of_ble_eq_true rfl) (by decide) (Nat.le_refl _) (Nat.le_refl _) (fun q3 hf hs => ?_)
    refine x_ifb_eq (off := 54) (tgt := 88) hf (by decide +kernel) (by decide) (fun c4 hf => ?_) (fun c4 hf => ?_)
    · refine g_iconst (z := 0) (v := 0) (by decide +kernel) rfl ?_
      exact x_zret rfl hf hs (by decide +kernel) rfl (Nat.le_refl _) (Nat.le_refl _)
    · refine g_aload_n (i := 0) (by decide +kernel) rfl ?_
      refine x_callVI (as := []) Vi_Mod_readSpot Vs_Mod_readSpot (hs.k k_136) rfl hf (fun q hq => t_Mod_readSpot hs  hq) Y_Mod_readSpot L_Mod_198 (by decide +kernel) rfl rfl (Nat.le_of_ble_eq_true rfl) (by decide) (Nat.le_refl _) (Nat.le_refl _) (fun q5 hf hs => ?_)
      refine g_istore_n (i := 2) (by decide +kernel) rfl (by decide) (ls1 := [(0, .ref 136), (1, .int p1), (2, .int q5.1)]) rfl ?_
      refine g_aload_n (i := 0) (by decide +kernel) rfl ?_
      refine g_bipush (z := 10) (v := 10) (by decide +kernel) rfl ?_
      refine x_callVB (as := [.int (10 : Int32)]) Vi_Mod_eats Vs_Mod_eats (hs.k k_136) rfl hf (fun q hq => t_Mod_eats hs  hq) Y_Mod_eats L_Mod_176 (by decide +kernel) rfl rfl (Nat.le_of_ble_eq_true rfl) (by decide) (Nat.le_refl _) (Nat.le_refl _) (fun q6 hf hs => ?_)
      obtain ⟨m9, hm56, hf⟩ := Option.bind_eq_some_iff.mp hf
      refine am_cutS (J := 56) (ls' := [(0, .ref 136), (1, .int p1), (2, .int q5.1)]) (st' := []) (h' := m9) (fun hs => ?_) (fun K56 => ?_)
      · refine g_aload_n (i := 0) (by decide +kernel) rfl ?_
        refine g_iconst (z := 0) (v := 0) (by decide +kernel) rfl ?_
        refine g_sipush (z := 999) (v := 999) (by decide +kernel) rfl ?_
        refine x_callVI (as := [.int (0 : Int32), .int (999 : Int32)]) Vi_Mod_takes Vs_Mod_takes (hs.k k_136) rfl hf (fun q hq => t_Mod_takes hs  hq) Y_Mod_takes L_Mod_194 (by decide +kernel) rfl rfl (Nat.le_of_ble_eq_true rfl) (by decide) (Nat.le_refl _) (Nat.le_refl _) (fun q10 hf hs => ?_)
        refine g_istore_n (i := 3) (by decide +kernel) rfl (by decide) (ls1 := [(0, .ref 136), (1, .int p1), (2, .int q5.1), (3, .int q10.1)]) rfl ?_
        refine g_aload_n (i := 0) (by decide +kernel) rfl ?_
        refine x_getr (hs.k k_136) F_Mod_24 (by decide +kernel) rfl (hs.r r_136_4) ?_
        refine g_bipush (z := 16) (v := 16) (by decide +kernel) rfl ?_
        refine g_iload_n (i := 1) (by decide +kernel) rfl ?_
        refine g_iadd (by decide +kernel) ?_
        refine g_iload_n (i := 2) (by decide +kernel) rfl ?_
        refine x_iast hf hs (hs.k k_140) (by decide +kernel) (fun h11 hf hs => ?_)
        refine g_aload_n (i := 0) (by decide +kernel) rfl ?_
        refine x_getr (hs.k k_136) F_Mod_24 (by decide +kernel) rfl (hs.r r_136_4) ?_
        refine g_bipush (z := 21) (v := 21) (by decide +kernel) rfl ?_
        refine g_iload_n (i := 1) (by decide +kernel) rfl ?_
        refine g_iadd (by decide +kernel) ?_
        refine g_iload_n (i := 3) (by decide +kernel) rfl ?_
        refine x_iast hf hs (hs.k k_140) (by decide +kernel) (fun h12 hf hs => ?_)
        refine g_goto (off := 5) (tgt := 90) (by decide +kernel) (by decide) ?_
        refine g_aload_n (i := 0) (by decide +kernel) rfl ?_
        refine x_geti (hs.k k_136) F_Mod_141 (by decide +kernel) rfl ?_
        refine x_if_ne (off := 7) (tgt := 101) hf (by decide +kernel) (by decide) (fun c13 hf => ?_) (fun c13 hf => ?_)
        · refine g_iconst (z := 0) (v := 0) (by decide +kernel) rfl ?_
          exact x_zret rfl hf hs (by decide +kernel) rfl (Nat.le_refl _) (Nat.le_refl _)
        · refine g_iconst (z := 1) (v := 1) (by decide +kernel) rfl ?_
          refine g_goto (off := 4) (tgt := 102) (by decide +kernel) (by decide) ?_
          exact x_zret rfl hf hs (by decide +kernel) rfl (Nat.le_refl _) (Nat.le_refl _)
      refine x_ifb_ne (off := 8) (tgt := 56) hm56 (by decide +kernel) (by decide) (fun c7 hm56 => ?_) (fun c7 hm56 => ?_)
      · cases hm56
        exact am_G.forget (am_subp [0, 1, 2] rfl) (K56 hs)
      · refine g_aload_n (i := 0) (by decide +kernel) rfl ?_
        refine g_iconst (z := 2) (v := 2) (by decide +kernel) rfl ?_
        refine x_callVV (as := [.int (2 : Int32)]) Vi_Mod_fails Vs_Mod_fails (hs.k k_136) rfl hm56 (fun q hq => t_Mod_fails hs  hq) Y_Mod_fails L_Mod_153 (by decide +kernel) rfl rfl (Nat.le_of_ble_eq_true rfl) (by decide) (Nat.le_refl _) (Nat.le_refl _) (fun q8 hm56 hs => ?_)
        cases hm56
        exact am_G.forget (am_subp [0, 1, 2] rfl) (K56 hs)
  · refine g_aload_n (i := 0) (by decide +kernel) rfl ?_
    refine x_getr (hs.k k_136) F_Mod_24 (by decide +kernel) rfl (hs.r r_136_4) ?_
    refine g_bipush (z := 11) (v := 11) (by decide +kernel) rfl ?_
    refine g_iload_n (i := 1) (by decide +kernel) rfl ?_
    refine g_iadd (by decide +kernel) ?_
    refine g_aload_n (i := 0) (by decide +kernel) rfl ?_
    refine g_iconst (z := 0) (v := 0) (by decide +kernel) rfl ?_
    refine g_bipush (z := 99) (v := 99) (by decide +kernel) rfl ?_
    refine x_callVI (as := [.int (0 : Int32), .int (99 : Int32)]) Vi_Mod_takes Vs_Mod_takes (hs.k k_136) rfl hf (fun q hq => t_Mod_takes hs  hq) Y_Mod_takes L_Mod_194 (by decide +kernel) rfl rfl (Nat.le_of_ble_eq_true rfl) (by decide) (Nat.le_refl _) (Nat.le_refl _) (fun q14 hf hs => ?_)
    refine x_iast hf hs (hs.k k_140) (by decide +kernel) (fun h15 hf hs => ?_)
    refine g_goto (off := 65) (tgt := 90) (by decide +kernel) (by decide) ?_
    refine g_aload_n (i := 0) (by decide +kernel) rfl ?_
    refine x_geti (hs.k k_136) F_Mod_141 (by decide +kernel) rfl ?_
    refine x_if_ne (off := 7) (tgt := 101) hf (by decide +kernel) (by decide) (fun c16 hf => ?_) (fun c16 hf => ?_)
    · refine g_iconst (z := 0) (v := 0) (by decide +kernel) rfl ?_
      exact x_zret rfl hf hs (by decide +kernel) rfl (Nat.le_refl _) (Nat.le_refl _)
    · refine g_iconst (z := 1) (v := 1) (by decide +kernel) rfl ?_
      refine g_goto (off := 4) (tgt := 102) (by decide +kernel) (by decide) ?_
      exact x_zret rfl hf hs (by decide +kernel) rfl (Nat.le_refl _) (Nat.le_refl _)
def f_Mod_readPerson_L55  : Nat → Int32 → am_H → Option (am_H)
  | 0, _, _ => none
  | n + 1, v1, h =>
    (if (h.2.1 136 11) = 0 then
      (f_Mod_readFlag v1 h).bind fun q14 =>
      (if q14.1 = true then
        f_Mod_readPerson_L55  n v1 q14.2
      else
        some q14.2)
    else
      some h)
set_option maxRecDepth 100000 in
set_option maxHeartbeats 4000000 in
theorem t_Mod_readPerson_L55   {Q : Option Value → am_H → Prop} : ∀ (n : Nat) (v1 : Int32) (h : am_H) (q : am_H), am_Sh h → f_Mod_readPerson_L55  n v1 h = some q → (am_Sh q → am_G 9 M_Mod_readPerson 0 0 Q 73 [(0, .ref 136), (1, .int v1)] [] q 0 0) → am_G 9 M_Mod_readPerson 0 0 Q 55 [(0, .ref 136), (1, .int v1)] [] h 0 0 := by
  intro n
  induction n with
  | zero =>
    intro v1 h q hs hf kont
    rw [f_Mod_readPerson_L55] at hf
    cases hf
  | succ n ih =>
    intro v1 h q hs hf kont
    rw [f_Mod_readPerson_L55] at hf
    refine g_aload_n (i := 0) (by decide +kernel) rfl ?_
    refine x_geti (hs.k k_136) F_Mod_141 (by decide +kernel) rfl ?_
    refine x_if_ne (off := 14) (tgt := 73) hf (by decide +kernel) (by decide) (fun c13 hf => ?_) (fun c13 hf => ?_)
    · cases hf
      exact am_G.forget (am_subp [0, 1] rfl) (kont hs)
    · refine g_aload_n (i := 0) (by decide +kernel) rfl ?_
      refine g_iload_n (i := 1) (by decide +kernel) rfl ?_
      refine x_callVB (as := [.int v1]) Vi_Mod_readFlag Vs_Mod_readFlag (hs.k k_136) rfl hf (fun q hq => t_Mod_readFlag hs  hq) Y_Mod_readFlag L_Mod_201 (by decide +kernel) rfl rfl (Nat.le_of_ble_eq_true rfl) (by decide) (Nat.le_refl _) (Nat.le_refl _) (fun q14 hf hs => ?_)
      refine x_ifb_eq (off := 6) (tgt := 73) hf (by decide +kernel) (by decide) (fun c15 hf => ?_) (fun c15 hf => ?_)
      · cases hf
        exact am_G.forget (am_subp [0, 1] rfl) (kont hs)
      · refine g_goto (off := (-15)) (tgt := 55) (by decide +kernel) (by decide) ?_
        exact am_G.forget (am_subp [0, 1] rfl) (ih _ _ _ hs hf kont)
def f_Mod_readPerson  (h : am_H) : Option (am_H) :=
  (am_rd (h.2.1 140) 1137 (3 : Int32)).bind fun x1 =>
  ((if x1 = (5 : Int32) then
      (f_Mod_fails (4 : Int32) h).bind fun q3 =>
      some q3
    else
      some h) : Option (am_H)).bind fun m4 =>
  (if (m4.2.1 136 11) = 0 then
    (f_Mod_next  m4).bind fun q6 =>
    (f_Mod_eats (3 : Int32) q6).bind fun q7 =>
    ((if q7.1 = true then
        some q7.2
      else
        (f_Mod_fails (2 : Int32) q7.2).bind fun q9 =>
        some q9) : Option (am_H)).bind fun m10 =>
    (f_Mod_readSpot  m10).bind fun q11 =>
    (am_wr q11.2 140 1137 ((35 : Int32) + x1) q11.1).bind fun h12 =>
    (f_Mod_readPerson_L55  am_fu x1 h12).bind fun q16 =>
    (if (q16.2.1 136 11) = 0 then
      (am_rd (q16.2.1 140) 1137 (3 : Int32)).bind fun x18 =>
      (am_wr q16 140 1137 (3 : Int32) (x18 + (1 : Int32))).bind fun h19 =>
      some h19
    else
      some q16)
  else
    some m4)
set_option maxRecDepth 100000 in
set_option maxHeartbeats 4000000 in
theorem t_Mod_readPerson  {h : am_H} (hs : am_Sh h)  {r : am_H} (hf : f_Mod_readPerson  h = some r) : am_Ct 9 M_Mod_readPerson [.ref 136] h 0 0 (am_qV r) := by
  unfold f_Mod_readPerson at hf
  refine am_Ct.of (by decide) rfl (Nat.le_of_ble_eq_true rfl) (ls := [(0, .ref 136)]) rfl ?_
  refine g_aload_n (i := 0) (by decide +kernel) rfl ?_
  refine x_getr (hs.k k_136) F_Mod_24 (by decide +kernel) rfl (hs.r r_136_4) ?_
  refine g_iconst (z := 3) (v := 3) (by decide +kernel) rfl ?_
  refine x_iald hf (hs.k k_140) (by decide +kernel) (fun x1 hf => ?_)
  refine g_istore_n (i := 1) (by decide +kernel) rfl (by decide) (ls1 := [(0, .ref 136), (1, .int x1)]) rfl ?_
  refine g_iload_n (i := 1) (by decide +kernel) rfl ?_
  refine g_iconst (z := 5) (v := 5) (by decide +kernel) rfl ?_
  obtain ⟨m4, hm17, hf⟩ := Option.bind_eq_some_iff.mp hf
  refine am_cutS (J := 17) (ls' := [(0, .ref 136), (1, .int x1)]) (st' := []) (h' := m4) (fun hs => ?_) (fun K17 => ?_)
  · refine g_aload_n (i := 0) (by decide +kernel) rfl ?_
    refine x_geti (hs.k k_136) F_Mod_141 (by decide +kernel) rfl ?_
    refine x_if_eq (off := 4) (tgt := 25) hf (by decide +kernel) (by decide) (fun c5 hf => ?_) (fun c5 hf => ?_)
    · refine g_aload_n (i := 0) (by decide +kernel) rfl ?_
      refine x_callVV (as := []) Vi_Mod_next Vs_Mod_next (hs.k k_136) rfl hf (fun q hq => t_Mod_next hs  hq) Y_Mod_next L_Mod_150 (by decide +kernel) rfl rfl (Nat.le_of_ble_eq_true rfl) (by decide) (Nat.le_refl _) (Nat.le_refl _) (fun q6 hf hs => ?_)
      refine g_aload_n (i := 0) (by decide +kernel) rfl ?_
      refine g_iconst (z := 3) (v := 3) (by decide +kernel) rfl ?_
      refine x_callVB (as := [.int (3 : Int32)]) Vi_Mod_eats Vs_Mod_eats (hs.k k_136) rfl hf (fun q hq => t_Mod_eats hs  hq) Y_Mod_eats L_Mod_176 (by decide +kernel) rfl rfl (Nat.le_of_ble_eq_true rfl) (by decide) (Nat.le_refl _) (Nat.le_refl _) (fun q7 hf hs => ?_)
      obtain ⟨m10, hm42, hf⟩ := Option.bind_eq_some_iff.mp hf
      refine am_cutS (J := 42) (ls' := [(0, .ref 136), (1, .int x1)]) (st' := []) (h' := m10) (fun hs => ?_) (fun K42 => ?_)
      · refine g_aload_n (i := 0) (by decide +kernel) rfl ?_
        refine x_getr (hs.k k_136) F_Mod_24 (by decide +kernel) rfl (hs.r r_136_4) ?_
        refine g_bipush (z := 35) (v := 35) (by decide +kernel) rfl ?_
        refine g_iload_n (i := 1) (by decide +kernel) rfl ?_
        refine g_iadd (by decide +kernel) ?_
        refine g_aload_n (i := 0) (by decide +kernel) rfl ?_
        refine x_callVI (as := []) Vi_Mod_readSpot Vs_Mod_readSpot (hs.k k_136) rfl hf (fun q hq => t_Mod_readSpot hs  hq) Y_Mod_readSpot L_Mod_198 (by decide +kernel) rfl rfl (Nat.le_of_ble_eq_true rfl) (by decide) (Nat.le_refl _) (Nat.le_refl _) (fun q11 hf hs => ?_)
        refine x_iast hf hs (hs.k k_140) (by decide +kernel) (fun h12 hf hs => ?_)
        obtain ⟨q16, hqq16, hf⟩ := Option.bind_eq_some_iff.mp hf
        refine am_G.forget (am_subp [0, 1] rfl) (t_Mod_readPerson_L55  am_fu _ _ q16 hs hqq16 (fun hs => ?_))
        refine g_aload_n (i := 0) (by decide +kernel) rfl ?_
        refine x_geti (hs.k k_136) F_Mod_141 (by decide +kernel) rfl ?_
        refine x_if_ne (off := 13) (tgt := 90) hf (by decide +kernel) (by decide) (fun c17 hf => ?_) (fun c17 hf => ?_)
        · exact x_vret hf hs (by decide +kernel) rfl (Nat.le_refl _) (Nat.le_refl _)
        · refine g_aload_n (i := 0) (by decide +kernel) rfl ?_
          refine x_getr (hs.k k_136) F_Mod_24 (by decide +kernel) rfl (hs.r r_136_4) ?_
          refine g_iconst (z := 3) (v := 3) (by decide +kernel) rfl ?_
          refine g_dup2_11 (by decide +kernel) rfl rfl ?_
          refine x_iald hf (hs.k k_140) (by decide +kernel) (fun x18 hf => ?_)
          refine g_iconst (z := 1) (v := 1) (by decide +kernel) rfl ?_
          refine g_iadd (by decide +kernel) ?_
          refine x_iast hf hs (hs.k k_140) (by decide +kernel) (fun h19 hf hs => ?_)
          exact x_vret hf hs (by decide +kernel) rfl (Nat.le_refl _) (Nat.le_refl _)
      refine x_ifb_ne (off := 8) (tgt := 42) hm42 (by decide +kernel) (by decide) (fun c8 hm42 => ?_) (fun c8 hm42 => ?_)
      · cases hm42
        exact am_G.forget (am_subp [0, 1] rfl) (K42 hs)
      · refine g_aload_n (i := 0) (by decide +kernel) rfl ?_
        refine g_iconst (z := 2) (v := 2) (by decide +kernel) rfl ?_
        refine x_callVV (as := [.int (2 : Int32)]) Vi_Mod_fails Vs_Mod_fails (hs.k k_136) rfl hm42 (fun q hq => t_Mod_fails hs  hq) Y_Mod_fails L_Mod_153 (by decide +kernel) rfl rfl (Nat.le_of_ble_eq_true rfl) (by decide) (Nat.le_refl _) (Nat.le_refl _) (fun q9 hm42 hs => ?_)
        cases hm42
        exact am_G.forget (am_subp [0, 1] rfl) (K42 hs)
    · exact x_vret hf hs (by decide +kernel) rfl (Nat.le_refl _) (Nat.le_refl _)
  refine x_icmp_ne (off := 8) (tgt := 17) hm17 (by decide +kernel) (by decide) (fun c2 hm17 => ?_) (fun c2 hm17 => ?_)
  · cases hm17
    exact am_G.forget (am_subp [0, 1] rfl) (K17 hs)
  · refine g_aload_n (i := 0) (by decide +kernel) rfl ?_
    refine g_iconst (z := 4) (v := 4) (by decide +kernel) rfl ?_
    refine x_callVV (as := [.int (4 : Int32)]) Vi_Mod_fails Vs_Mod_fails (hs.k k_136) rfl hm17 (fun q hq => t_Mod_fails hs  hq) Y_Mod_fails L_Mod_153 (by decide +kernel) rfl rfl (Nat.le_of_ble_eq_true rfl) (by decide) (Nat.le_refl _) (Nat.le_refl _) (fun q3 hm17 hs => ?_)
    cases hm17
    exact am_G.forget (am_subp [0, 1] rfl) (K17 hs)
def f_Mod_readLaw (p1 : Int32) (h : am_H) : Option (am_H) :=
  (f_Mod_next  h).bind fun q1 =>
  (f_Mod_eats (31 : Int32) q1).bind fun q2 =>
  ((if q2.1 = true then
      some q2.2
    else
      (f_Mod_fails (2 : Int32) q2.2).bind fun q4 =>
      some q4) : Option (am_H)).bind fun m5 =>
  (am_rd (m5.2.1 140) 1137 (236 : Int32)).bind fun x6 =>
  am_let (am_sI m5 136 15 p1) fun h7 =>
  (f_Mod_readTruth (0 : Int32) h7).bind fun q8 =>
  (if (q8.2.1 136 11) = 0 then
    (am_wr q8 140 1137 ((5 : Int32) + p1) (1 : Int32)).bind fun h10 =>
    (am_wr h10 140 1137 ((7 : Int32) + p1) x6).bind fun h11 =>
    (am_rd (h11.2.1 140) 1137 (236 : Int32)).bind fun x12 =>
    (am_wr h11 140 1137 ((9 : Int32) + p1) (x12 - x6)).bind fun h13 =>
    some h13
  else
    some q8)
set_option maxRecDepth 100000 in
set_option maxHeartbeats 4000000 in
theorem t_Mod_readLaw {p1 : Int32} {h : am_H} (hs : am_Sh h)  {r : am_H} (hf : f_Mod_readLaw p1 h = some r) : am_Ct 68 M_Mod_readLaw [.ref 136, .int p1] h 0 0 (am_qV r) := by
  unfold f_Mod_readLaw at hf
  refine am_Ct.of (by decide) rfl (Nat.le_of_ble_eq_true rfl) (ls := [(0, .ref 136), (1, .int p1)]) rfl ?_
  refine g_aload_n (i := 0) (by decide +kernel) rfl ?_
  refine x_callVV (as := []) Vi_Mod_next Vs_Mod_next (hs.k k_136) rfl hf (fun q hq => t_Mod_next hs  hq) Y_Mod_next L_Mod_150 (by decide +kernel) rfl rfl (Nat.le_of_ble_eq_true rfl) (by decide) (Nat.le_refl _) (Nat.le_refl _) (fun q1 hf hs => ?_)
  refine g_aload_n (i := 0) (by decide +kernel) rfl ?_
  refine g_bipush (z := 31) (v := 31) (by decide +kernel) rfl ?_
  refine x_callVB (as := [.int (31 : Int32)]) Vi_Mod_eats Vs_Mod_eats (hs.k k_136) rfl hf (fun q hq => t_Mod_eats hs  hq) Y_Mod_eats L_Mod_176 (by decide +kernel) rfl rfl (Nat.le_of_ble_eq_true rfl) (by decide) (Nat.le_refl _) (Nat.le_refl _) (fun q2 hf hs => ?_)
  obtain ⟨m5, hm18, hf⟩ := Option.bind_eq_some_iff.mp hf
  refine am_cutS (J := 18) (ls' := [(0, .ref 136), (1, .int p1)]) (st' := []) (h' := m5) (fun hs => ?_) (fun K18 => ?_)
  · refine g_aload_n (i := 0) (by decide +kernel) rfl ?_
    refine x_getr (hs.k k_136) F_Mod_24 (by decide +kernel) rfl (hs.r r_136_4) ?_
    refine g_sipush (z := 236) (v := 236) (by decide +kernel) rfl ?_
    refine x_iald hf (hs.k k_140) (by decide +kernel) (fun x6 hf => ?_)
    refine g_istore_n (i := 2) (by decide +kernel) rfl (by decide) (ls1 := [(0, .ref 136), (1, .int p1), (2, .int x6)]) rfl ?_
    refine g_aload_n (i := 0) (by decide +kernel) rfl ?_
    refine g_iload_n (i := 1) (by decide +kernel) rfl ?_
    refine x_puti hf hs (hs.k k_136) F_Mod_161 (by decide +kernel) rfl rfl rfl rfl (fun h7 hf hs => ?_)
    refine g_aload_n (i := 0) (by decide +kernel) rfl ?_
    refine g_iconst (z := 0) (v := 0) (by decide +kernel) rfl ?_
    refine x_callVV (as := [.int (0 : Int32)]) Vi_Mod_readTruth Vs_Mod_readTruth (hs.k k_136) rfl hf (fun q hq => t_Mod_readTruth hs  hq) Y_Mod_readTruth L_Mod_188 (by decide +kernel) rfl rfl (Nat.le_of_ble_eq_true rfl) (by decide) (Nat.le_refl _) (Nat.le_refl _) (fun q8 hf hs => ?_)
    refine g_aload_n (i := 0) (by decide +kernel) rfl ?_
    refine x_geti (hs.k k_136) F_Mod_141 (by decide +kernel) rfl ?_
    refine x_if_eq (off := 4) (tgt := 45) hf (by decide +kernel) (by decide) (fun c9 hf => ?_) (fun c9 hf => ?_)
    · refine g_aload_n (i := 0) (by decide +kernel) rfl ?_
      refine x_getr (hs.k k_136) F_Mod_24 (by decide +kernel) rfl (hs.r r_136_4) ?_
      refine g_iconst (z := 5) (v := 5) (by decide +kernel) rfl ?_
      refine g_iload_n (i := 1) (by decide +kernel) rfl ?_
      refine g_iadd (by decide +kernel) ?_
      refine g_iconst (z := 1) (v := 1) (by decide +kernel) rfl ?_
      refine x_iast hf hs (hs.k k_140) (by decide +kernel) (fun h10 hf hs => ?_)
      refine g_aload_n (i := 0) (by decide +kernel) rfl ?_
      refine x_getr (hs.k k_136) F_Mod_24 (by decide +kernel) rfl (hs.r r_136_4) ?_
      refine g_bipush (z := 7) (v := 7) (by decide +kernel) rfl ?_
      refine g_iload_n (i := 1) (by decide +kernel) rfl ?_
      refine g_iadd (by decide +kernel) ?_
      refine g_iload_n (i := 2) (by decide +kernel) rfl ?_
      refine x_iast hf hs (hs.k k_140) (by decide +kernel) (fun h11 hf hs => ?_)
      refine g_aload_n (i := 0) (by decide +kernel) rfl ?_
      refine x_getr (hs.k k_136) F_Mod_24 (by decide +kernel) rfl (hs.r r_136_4) ?_
      refine g_bipush (z := 9) (v := 9) (by decide +kernel) rfl ?_
      refine g_iload_n (i := 1) (by decide +kernel) rfl ?_
      refine g_iadd (by decide +kernel) ?_
      refine g_aload_n (i := 0) (by decide +kernel) rfl ?_
      refine x_getr (hs.k k_136) F_Mod_24 (by decide +kernel) rfl (hs.r r_136_4) ?_
      refine g_sipush (z := 236) (v := 236) (by decide +kernel) rfl ?_
      refine x_iald hf (hs.k k_140) (by decide +kernel) (fun x12 hf => ?_)
      refine g_iload_n (i := 2) (by decide +kernel) rfl ?_
      refine g_isub (by decide +kernel) ?_
      refine x_iast hf hs (hs.k k_140) (by decide +kernel) (fun h13 hf hs => ?_)
      exact x_vret hf hs (by decide +kernel) rfl (Nat.le_refl _) (Nat.le_refl _)
    · exact x_vret hf hs (by decide +kernel) rfl (Nat.le_refl _) (Nat.le_refl _)
  refine x_ifb_ne (off := 8) (tgt := 18) hm18 (by decide +kernel) (by decide) (fun c3 hm18 => ?_) (fun c3 hm18 => ?_)
  · cases hm18
    exact am_G.forget (am_subp [0, 1] rfl) (K18 hs)
  · refine g_aload_n (i := 0) (by decide +kernel) rfl ?_
    refine g_iconst (z := 2) (v := 2) (by decide +kernel) rfl ?_
    refine x_callVV (as := [.int (2 : Int32)]) Vi_Mod_fails Vs_Mod_fails (hs.k k_136) rfl hm18 (fun q hq => t_Mod_fails hs  hq) Y_Mod_fails L_Mod_153 (by decide +kernel) rfl rfl (Nat.le_of_ble_eq_true rfl) (by decide) (Nat.le_refl _) (Nat.le_refl _) (fun q4 hm18 hs => ?_)
    cases hm18
    exact am_G.forget (am_subp [0, 1] rfl) (K18 hs)
