def f_River_withErrands_L4 (o : Nat) : Nat → Int32 → Int32 → am_H → Option (Int32 × Int32)
  | 0, _, _, _ => none
  | n + 1, v1, v2, h =>
    (if (h.2.1 o 2) ≤ v2 then
      some (v1, v2)
    else
      (am_rd (h.2.1 (o + 4)) 5 v2).bind fun x2 =>
      (if x2 = (-1 : Int32) then
        f_River_withErrands_L4 o n v1 (v2 + (1 : Int32)) h
      else
        f_River_withErrands_L4 o n (v1 ||| ((1 : Int32) <<< (v2 &&& 31))) (v2 + (1 : Int32)) h))
set_option maxRecDepth 100000 in
set_option maxHeartbeats 4000000 in
theorem t_River_withErrands_L4 {o : Nat} (ho : o ∈ am_rvL) {Q : Option Value → am_H → Prop} : ∀ (n : Nat) (v1 : Int32) (v2 : Int32) (h : am_H) (q : Int32 × Int32), am_Sh h → f_River_withErrands_L4 o n v1 v2 h = some q → (am_G 0 M_River_withErrands 0 0 Q 34 [(0, .ref o), (1, .int q.1), (2, .int q.2)] [] h 0 0) → am_G 0 M_River_withErrands 0 0 Q 4 [(0, .ref o), (1, .int v1), (2, .int v2)] [] h 0 0 := by
  intro n
  induction n with
  | zero =>
    intro v1 v2 h q hs hf kont
    rw [f_River_withErrands_L4] at hf
    cases hf
  | succ n ih =>
    intro v1 v2 h q hs hf kont
    rw [f_River_withErrands_L4] at hf
    refine g_iload_n (i := 2) (by decide +kernel) rfl ?_
    refine g_aload_n (i := 0) (by decide +kernel) rfl ?_
    refine x_geti (hs.k (k_Rv ho)) F_River_18 (by decide +kernel) rfl ?_
    refine x_icmp_ge (off := 25) (tgt := 34) hf (by decide +kernel) (by decide) (fun c1 hf => ?_) (fun c1 hf => ?_)
    · cases hf
      exact am_G.forget (am_subp [0, 1, 2] rfl) kont
    · refine g_aload_n (i := 0) (by decide +kernel) rfl ?_
      refine x_getr (hs.k (k_Rv ho)) F_River_40 (by decide +kernel) rfl (hs.r (r_Rv_9 ho)) ?_
      refine g_iload_n (i := 2) (by decide +kernel) rfl ?_
      refine x_iald hf (hs.k (k_Rv_9 ho)) (by decide +kernel) (fun x2 hf => ?_)
      refine g_iconst (z := (-1)) (v := (-1)) (by decide +kernel) rfl ?_
      refine x_icmp_eq (off := 9) (tgt := 28) hf (by decide +kernel) (by decide) (fun c3 hf => ?_) (fun c3 hf => ?_)
      · refine g_iinc (i := 2) (z := 1) (v := (v2 + (1 : Int32))) (by decide +kernel) rfl rfl rfl (by decide) (ls1 := [(0, .ref o), (1, .int v1), (2, .int (v2 + (1 : Int32)))]) rfl ?_
        refine g_goto (off := (-27)) (tgt := 4) (by decide +kernel) (by decide) ?_
        exact am_G.forget (am_subp [0, 1, 2] rfl) (ih _ _ _ _ hs hf kont)
      · refine g_iload_n (i := 1) (by decide +kernel) rfl ?_
        refine g_iconst (z := 1) (v := 1) (by decide +kernel) rfl ?_
        refine g_iload_n (i := 2) (by decide +kernel) rfl ?_
        refine g_ishl (by decide +kernel) ?_
        refine g_ior (by decide +kernel) ?_
        refine g_istore_n (i := 1) (by decide +kernel) rfl (by decide) (ls1 := [(0, .ref o), (1, .int (v1 ||| ((1 : Int32) <<< (v2 &&& 31)))), (2, .int v2)]) rfl ?_
        refine g_iinc (i := 2) (z := 1) (v := (v2 + (1 : Int32))) (by decide +kernel) rfl rfl rfl (by decide) (ls1 := [(0, .ref o), (1, .int (v1 ||| ((1 : Int32) <<< (v2 &&& 31)))), (2, .int (v2 + (1 : Int32)))]) rfl ?_
        refine g_goto (off := (-27)) (tgt := 4) (by decide +kernel) (by decide) ?_
        exact am_G.forget (am_subp [0, 1, 2] rfl) (ih _ _ _ _ hs hf kont)
def f_River_withErrands (o : Nat) (h : am_H) : Option (Int32) :=
  (f_River_withErrands_L4 o am_fu (0 : Int32) (0 : Int32) h).bind fun q4 =>
  some q4.1
set_option maxRecDepth 100000 in
set_option maxHeartbeats 4000000 in
theorem t_River_withErrands {o : Nat} {h : am_H} (hs : am_Sh h) (ho : o ∈ am_rvL) {r : Int32} (hf : f_River_withErrands o h = some r) : am_Ct 0 M_River_withErrands [.ref o] h 0 0 (am_pI h r) := by
  unfold f_River_withErrands at hf
  refine am_Ct.of (by decide) rfl (Nat.le_of_ble_eq_true rfl) (ls := [(0, .ref o)]) rfl ?_
  refine g_iconst (z := 0) (v := 0) (by decide +kernel) rfl ?_
  refine g_istore_n (i := 1) (by decide +kernel) rfl (by decide) (ls1 := [(0, .ref o), (1, .int (0 : Int32))]) rfl ?_
  refine g_iconst (z := 0) (v := 0) (by decide +kernel) rfl ?_
  refine g_istore_n (i := 2) (by decide +kernel) rfl (by decide) (ls1 := [(0, .ref o), (1, .int (0 : Int32)), (2, .int (0 : Int32))]) rfl ?_
  obtain ⟨q4, hqq4, hf⟩ := Option.bind_eq_some_iff.mp hf
  refine am_G.forget (am_subp [0, 1, 2] rfl) (t_River_withErrands_L4 ho am_fu _ _ _ q4 hs hqq4 ?_)
  refine g_iload_n (i := 1) (by decide +kernel) rfl ?_
  exact x_iretp hf (by decide +kernel) rfl (Nat.le_refl _) (Nat.le_refl _)
def f_State_onSpan_L4 (o : Nat) (p1 : Nat) : Nat → Int32 → Int32 → am_H → Option (Int32 × Int32)
  | 0, _, _, _ => none
  | n + 1, v2, v3, h =>
    (if (h.2.1 p1 2) ≤ v3 then
      some (v2, v3)
    else
      (am_rd (h.2.1 (o + 2)) 5 v3).bind fun x2 =>
      (if x2 = (8 : Int32) then
        f_State_onSpan_L4 o p1 n (v2 ||| ((1 : Int32) <<< (v3 &&& 31))) (v3 + (1 : Int32)) h
      else
        f_State_onSpan_L4 o p1 n v2 (v3 + (1 : Int32)) h))
set_option maxRecDepth 100000 in
set_option maxHeartbeats 4000000 in
theorem t_State_onSpan_L4 {o : Nat} {p1 : Nat} (ho : o ∈ am_stL) (hp1 : p1 ∈ am_rvL) {Q : Option Value → am_H → Prop} : ∀ (n : Nat) (v2 : Int32) (v3 : Int32) (h : am_H) (q : Int32 × Int32), am_Sh h → f_State_onSpan_L4 o p1 n v2 v3 h = some q → (am_G 0 M_State_onSpan 0 0 Q 35 [(0, .ref o), (1, .ref p1), (2, .int q.1), (3, .int q.2)] [] h 0 0) → am_G 0 M_State_onSpan 0 0 Q 4 [(0, .ref o), (1, .ref p1), (2, .int v2), (3, .int v3)] [] h 0 0 := by
  intro n
  induction n with
  | zero =>
    intro v2 v3 h q hs hf kont
    rw [f_State_onSpan_L4] at hf
    cases hf
  | succ n ih =>
    intro v2 v3 h q hs hf kont
    rw [f_State_onSpan_L4] at hf
    refine g_iload_n (i := 3) (by decide +kernel) rfl ?_
    refine g_aload_n (i := 1) (by decide +kernel) rfl ?_
    refine x_geti (hs.k (k_Rv hp1)) F_State_58 (by decide +kernel) rfl ?_
    refine x_icmp_ge (off := 26) (tgt := 35) hf (by decide +kernel) (by decide) (fun c1 hf => ?_) (fun c1 hf => ?_)
    · cases hf
      exact am_G.forget (am_subp [0, 1, 2, 3] rfl) kont
    · refine g_aload_n (i := 0) (by decide +kernel) rfl ?_
      refine x_getr (hs.k (k_St ho)) F_State_25 (by decide +kernel) rfl (hs.r (r_St_4 ho)) ?_
      refine g_iload_n (i := 3) (by decide +kernel) rfl ?_
      refine x_iald hf (hs.k (k_St_4 ho)) (by decide +kernel) (fun x2 hf => ?_)
      refine g_bipush (z := 8) (v := 8) (by decide +kernel) rfl ?_
      refine x_icmp_ne (off := 9) (tgt := 29) hf (by decide +kernel) (by decide) (fun c3 hf => ?_) (fun c3 hf => ?_)
      · refine g_iinc (i := 3) (z := 1) (v := (v3 + (1 : Int32))) (by decide +kernel) rfl rfl rfl (by decide) (ls1 := [(0, .ref o), (1, .ref p1), (2, .int v2), (3, .int (v3 + (1 : Int32)))]) rfl ?_
        refine g_goto (off := (-28)) (tgt := 4) (by decide +kernel) (by decide) ?_
        exact am_G.forget (am_subp [0, 1, 2, 3] rfl) (ih _ _ _ _ hs hf kont)
      · refine g_iload_n (i := 2) (by decide +kernel) rfl ?_
        refine g_iconst (z := 1) (v := 1) (by decide +kernel) rfl ?_
        refine g_iload_n (i := 3) (by decide +kernel) rfl ?_
        refine g_ishl (by decide +kernel) ?_
        refine g_ior (by decide +kernel) ?_
        refine g_istore_n (i := 2) (by decide +kernel) rfl (by decide) (ls1 := [(0, .ref o), (1, .ref p1), (2, .int (v2 ||| ((1 : Int32) <<< (v3 &&& 31)))), (3, .int v3)]) rfl ?_
        refine g_iinc (i := 3) (z := 1) (v := (v3 + (1 : Int32))) (by decide +kernel) rfl rfl rfl (by decide) (ls1 := [(0, .ref o), (1, .ref p1), (2, .int (v2 ||| ((1 : Int32) <<< (v3 &&& 31)))), (3, .int (v3 + (1 : Int32)))]) rfl ?_
        refine g_goto (off := (-28)) (tgt := 4) (by decide +kernel) (by decide) ?_
        exact am_G.forget (am_subp [0, 1, 2, 3] rfl) (ih _ _ _ _ hs hf kont)
def f_State_onSpan (o : Nat) (p1 : Nat) (h : am_H) : Option (Int32) :=
  (f_State_onSpan_L4 o p1 am_fu (0 : Int32) (0 : Int32) h).bind fun q4 =>
  some q4.1
set_option maxRecDepth 100000 in
set_option maxHeartbeats 4000000 in
theorem t_State_onSpan {o : Nat} {p1 : Nat} {h : am_H} (hs : am_Sh h) (ho : o ∈ am_stL) (hp1 : p1 ∈ am_rvL) {r : Int32} (hf : f_State_onSpan o p1 h = some r) : am_Ct 0 M_State_onSpan [.ref o, .ref p1] h 0 0 (am_pI h r) := by
  unfold f_State_onSpan at hf
  refine am_Ct.of (by decide) rfl (Nat.le_of_ble_eq_true rfl) (ls := [(0, .ref o), (1, .ref p1)]) rfl ?_
  refine g_iconst (z := 0) (v := 0) (by decide +kernel) rfl ?_
  refine g_istore_n (i := 2) (by decide +kernel) rfl (by decide) (ls1 := [(0, .ref o), (1, .ref p1), (2, .int (0 : Int32))]) rfl ?_
  refine g_iconst (z := 0) (v := 0) (by decide +kernel) rfl ?_
  refine g_istore_n (i := 3) (by decide +kernel) rfl (by decide) (ls1 := [(0, .ref o), (1, .ref p1), (2, .int (0 : Int32)), (3, .int (0 : Int32))]) rfl ?_
  obtain ⟨q4, hqq4, hf⟩ := Option.bind_eq_some_iff.mp hf
  refine am_G.forget (am_subp [0, 1, 2, 3] rfl) (t_State_onSpan_L4 ho hp1 am_fu _ _ _ q4 hs hqq4 ?_)
  refine g_iload_n (i := 2) (by decide +kernel) rfl ?_
  exact x_iretp hf (by decide +kernel) rfl (Nat.le_refl _) (Nat.le_refl _)
def f_Top_count (p1 : Int32) (h : am_H) : Option (Int32) :=
  (if p1 = (0 : Int32) then
    some (h.2.1 1 0)
  else if p1 = (1 : Int32) then
    some (h.2.1 1 1)
  else if p1 = (2 : Int32) then
    some (h.2.1 1 2)
  else if p1 = (3 : Int32) then
    (f_River_withErrands 1 h).bind fun q1 =>
    some q1
  else if p1 = (4 : Int32) then
    some (h.2.1 10 2)
  else if p1 = (5 : Int32) then
    (f_State_onSpan 10 1 h).bind fun q2 =>
    some q2
  else if p1 = (6 : Int32) then
    some (h.2.1 10 0)
  else if p1 = (7 : Int32) then
    some (h.2.1 10 1)
  else if p1 = (8 : Int32) then
    some (h.2.1 1 3)
  else if p1 = (9 : Int32) then
    some (h.2.1 18 2)
  else if p1 = (10 : Int32) then
    some (h.2.1 0 13)
  else if p1 = (11 : Int32) then
    some (h.2.1 1 5)
  else 
    some (-1 : Int32))
set_option maxRecDepth 100000 in
set_option maxHeartbeats 4000000 in
theorem t_Top_count {p1 : Int32} {h : am_H} (hs : am_Sh h)  {r : Int32} (hf : f_Top_count p1 h = some r) : am_Ct 1 M_Top_count [.ref 0, .int p1] h 0 0 (am_pI h r) := by
  unfold f_Top_count at hf
  refine am_Ct.of (by decide) rfl (Nat.le_of_ble_eq_true rfl) (ls := [(0, .ref 0), (1, .int p1)]) rfl ?_
  refine g_iload_n (i := 1) (by decide +kernel) rfl ?_
  by_cases e0 : p1 = (0 : Int32)
  · rw [if_pos e0] at hf
    have ex : Int32.toInt p1 = 0 := by rw [e0]; rfl
    refine x_tabIn (dflt := 160) (lo := 0) (hi := 11) (offs := #[63, 71, 79, 87, 95, 103, 115, 123, 131, 139, 147, 152]) (len := 63) (off := 63) (tgt := 64) (by decide +kernel) (by rw [ex]; decide) (by rw [ex]; decide) (by rw [ex]; rfl) (by decide) ?_
    refine g_aload_n (i := 0) (by decide +kernel) rfl ?_
    refine x_getr (hs.k k_0) F_Top_10 (by decide +kernel) rfl (hs.r r_0_0) ?_
    refine x_geti (hs.k k_1) F_Top_344 (by decide +kernel) rfl ?_
    exact x_iretp hf (by decide +kernel) rfl (Nat.le_refl _) (Nat.le_refl _)
  · rw [if_neg e0] at hf
    by_cases e1 : p1 = (1 : Int32)
    · rw [if_pos e1] at hf
      have ex : Int32.toInt p1 = 1 := by rw [e1]; rfl
      refine x_tabIn (dflt := 160) (lo := 0) (hi := 11) (offs := #[63, 71, 79, 87, 95, 103, 115, 123, 131, 139, 147, 152]) (len := 63) (off := 71) (tgt := 72) (by decide +kernel) (by rw [ex]; decide) (by rw [ex]; decide) (by rw [ex]; rfl) (by decide) ?_
      refine g_aload_n (i := 0) (by decide +kernel) rfl ?_
      refine x_getr (hs.k k_0) F_Top_10 (by decide +kernel) rfl (hs.r r_0_0) ?_
      refine x_geti (hs.k k_1) F_Top_347 (by decide +kernel) rfl ?_
      exact x_iretp hf (by decide +kernel) rfl (Nat.le_refl _) (Nat.le_refl _)
    · rw [if_neg e1] at hf
      by_cases e2 : p1 = (2 : Int32)
      · rw [if_pos e2] at hf
        have ex : Int32.toInt p1 = 2 := by rw [e2]; rfl
        refine x_tabIn (dflt := 160) (lo := 0) (hi := 11) (offs := #[63, 71, 79, 87, 95, 103, 115, 123, 131, 139, 147, 152]) (len := 63) (off := 79) (tgt := 80) (by decide +kernel) (by rw [ex]; decide) (by rw [ex]; decide) (by rw [ex]; rfl) (by decide) ?_
        refine g_aload_n (i := 0) (by decide +kernel) rfl ?_
        refine x_getr (hs.k k_0) F_Top_10 (by decide +kernel) rfl (hs.r r_0_0) ?_
        refine x_geti (hs.k k_1) F_Top_350 (by decide +kernel) rfl ?_
        exact x_iretp hf (by decide +kernel) rfl (Nat.le_refl _) (Nat.le_refl _)
      · rw [if_neg e2] at hf
        by_cases e3 : p1 = (3 : Int32)
        · rw [if_pos e3] at hf
          have ex : Int32.toInt p1 = 3 := by rw [e3]; rfl
          refine x_tabIn (dflt := 160) (lo := 0) (hi := 11) (offs := #[63, 71, 79, 87, 95, 103, 115, 123, 131, 139, 147, 152]) (len := 63) (off := 87) (tgt := 88) (by decide +kernel) (by rw [ex]; decide) (by rw [ex]; decide) (by rw [ex]; rfl) (by decide) ?_
          refine g_aload_n (i := 0) (by decide +kernel) rfl ?_
          refine x_getr (hs.k k_0) F_Top_10 (by decide +kernel) rfl (hs.r r_0_0) ?_
          refine x_callVIp (as := []) Vi_River_withErrands Vs_River_withErrands (hs.k k_1) rfl hf (fun q hq => t_River_withErrands hs (by decide) hq) Y_River_withErrands L_Top_353 (by decide +kernel) rfl rfl (Nat.le_of_ble_eq_true rfl) (by decide) (Nat.le_refl _) (Nat.le_refl _) (fun q1 hf => ?_)
          exact x_iretp hf (by decide +kernel) rfl (Nat.le_refl _) (Nat.le_refl _)
        · rw [if_neg e3] at hf
          by_cases e4 : p1 = (4 : Int32)
          · rw [if_pos e4] at hf
            have ex : Int32.toInt p1 = 4 := by rw [e4]; rfl
            refine x_tabIn (dflt := 160) (lo := 0) (hi := 11) (offs := #[63, 71, 79, 87, 95, 103, 115, 123, 131, 139, 147, 152]) (len := 63) (off := 95) (tgt := 96) (by decide +kernel) (by rw [ex]; decide) (by rw [ex]; decide) (by rw [ex]; rfl) (by decide) ?_
            refine g_aload_n (i := 0) (by decide +kernel) rfl ?_
            refine x_getr (hs.k k_0) F_Top_19 (by decide +kernel) rfl (hs.r r_0_1) ?_
            refine x_geti (hs.k k_10) F_Top_156 (by decide +kernel) rfl ?_
            exact x_iretp hf (by decide +kernel) rfl (Nat.le_refl _) (Nat.le_refl _)
          · rw [if_neg e4] at hf
            by_cases e5 : p1 = (5 : Int32)
            · rw [if_pos e5] at hf
              have ex : Int32.toInt p1 = 5 := by rw [e5]; rfl
              refine x_tabIn (dflt := 160) (lo := 0) (hi := 11) (offs := #[63, 71, 79, 87, 95, 103, 115, 123, 131, 139, 147, 152]) (len := 63) (off := 103) (tgt := 104) (by decide +kernel) (by rw [ex]; decide) (by rw [ex]; decide) (by rw [ex]; rfl) (by decide) ?_
              refine g_aload_n (i := 0) (by decide +kernel) rfl ?_
              refine x_getr (hs.k k_0) F_Top_19 (by decide +kernel) rfl (hs.r r_0_1) ?_
              refine g_aload_n (i := 0) (by decide +kernel) rfl ?_
              refine x_getr (hs.k k_0) F_Top_10 (by decide +kernel) rfl (hs.r r_0_0) ?_
              refine x_callVIp (as := [.ref 1]) Vi_State_onSpan Vs_State_onSpan (hs.k k_10) rfl hf (fun q hq => t_State_onSpan hs (by decide) (by decide) hq) Y_State_onSpan L_Top_356 (by decide +kernel) rfl rfl (Nat.le_of_ble_eq_true rfl) (by decide) (Nat.le_refl _) (Nat.le_refl _) (fun q2 hf => ?_)
              exact x_iretp hf (by decide +kernel) rfl (Nat.le_refl _) (Nat.le_refl _)
            · rw [if_neg e5] at hf
              by_cases e6 : p1 = (6 : Int32)
              · rw [if_pos e6] at hf
                have ex : Int32.toInt p1 = 6 := by rw [e6]; rfl
                refine x_tabIn (dflt := 160) (lo := 0) (hi := 11) (offs := #[63, 71, 79, 87, 95, 103, 115, 123, 131, 139, 147, 152]) (len := 63) (off := 115) (tgt := 116) (by decide +kernel) (by rw [ex]; decide) (by rw [ex]; decide) (by rw [ex]; rfl) (by decide) ?_
                refine g_aload_n (i := 0) (by decide +kernel) rfl ?_
                refine x_getr (hs.k k_0) F_Top_19 (by decide +kernel) rfl (hs.r r_0_1) ?_
                refine x_geti (hs.k k_10) F_Top_133 (by decide +kernel) rfl ?_
                exact x_iretp hf (by decide +kernel) rfl (Nat.le_refl _) (Nat.le_refl _)
              · rw [if_neg e6] at hf
                by_cases e7 : p1 = (7 : Int32)
                · rw [if_pos e7] at hf
                  have ex : Int32.toInt p1 = 7 := by rw [e7]; rfl
                  refine x_tabIn (dflt := 160) (lo := 0) (hi := 11) (offs := #[63, 71, 79, 87, 95, 103, 115, 123, 131, 139, 147, 152]) (len := 63) (off := 123) (tgt := 124) (by decide +kernel) (by rw [ex]; decide) (by rw [ex]; decide) (by rw [ex]; rfl) (by decide) ?_
                  refine g_aload_n (i := 0) (by decide +kernel) rfl ?_
                  refine x_getr (hs.k k_0) F_Top_19 (by decide +kernel) rfl (hs.r r_0_1) ?_
                  refine x_geti (hs.k k_10) F_Top_183 (by decide +kernel) rfl ?_
                  exact x_iretp hf (by decide +kernel) rfl (Nat.le_refl _) (Nat.le_refl _)
                · rw [if_neg e7] at hf
                  by_cases e8 : p1 = (8 : Int32)
                  · rw [if_pos e8] at hf
                    have ex : Int32.toInt p1 = 8 := by rw [e8]; rfl
                    refine x_tabIn (dflt := 160) (lo := 0) (hi := 11) (offs := #[63, 71, 79, 87, 95, 103, 115, 123, 131, 139, 147, 152]) (len := 63) (off := 131) (tgt := 132) (by decide +kernel) (by rw [ex]; decide) (by rw [ex]; decide) (by rw [ex]; rfl) (by decide) ?_
                    refine g_aload_n (i := 0) (by decide +kernel) rfl ?_
                    refine x_getr (hs.k k_0) F_Top_10 (by decide +kernel) rfl (hs.r r_0_0) ?_
                    refine x_geti (hs.k k_1) F_Top_359 (by decide +kernel) rfl ?_
                    exact x_iretp hf (by decide +kernel) rfl (Nat.le_refl _) (Nat.le_refl _)
                  · rw [if_neg e8] at hf
                    by_cases e9 : p1 = (9 : Int32)
                    · rw [if_pos e9] at hf
                      have ex : Int32.toInt p1 = 9 := by rw [e9]; rfl
                      refine x_tabIn (dflt := 160) (lo := 0) (hi := 11) (offs := #[63, 71, 79, 87, 95, 103, 115, 123, 131, 139, 147, 152]) (len := 63) (off := 139) (tgt := 140) (by decide +kernel) (by rw [ex]; decide) (by rw [ex]; decide) (by rw [ex]; rfl) (by decide) ?_
                      refine g_aload_n (i := 0) (by decide +kernel) rfl ?_
                      refine x_getr (hs.k k_0) F_Top_29 (by decide +kernel) rfl (hs.r r_0_3) ?_
                      refine x_geti (hs.k k_18) F_Top_194 (by decide +kernel) rfl ?_
                      exact x_iretp hf (by decide +kernel) rfl (Nat.le_refl _) (Nat.le_refl _)
                    · rw [if_neg e9] at hf
                      by_cases e10 : p1 = (10 : Int32)
                      · rw [if_pos e10] at hf
                        have ex : Int32.toInt p1 = 10 := by rw [e10]; rfl
                        refine x_tabIn (dflt := 160) (lo := 0) (hi := 11) (offs := #[63, 71, 79, 87, 95, 103, 115, 123, 131, 139, 147, 152]) (len := 63) (off := 147) (tgt := 148) (by decide +kernel) (by rw [ex]; decide) (by rw [ex]; decide) (by rw [ex]; rfl) (by decide) ?_
                        refine g_aload_n (i := 0) (by decide +kernel) rfl ?_
                        refine x_geti (hs.k k_0) F_Top_90 (by decide +kernel) rfl ?_
                        exact x_iretp hf (by decide +kernel) rfl (Nat.le_refl _) (Nat.le_refl _)
                      · rw [if_neg e10] at hf
                        by_cases e11 : p1 = (11 : Int32)
                        · rw [if_pos e11] at hf
                          have ex : Int32.toInt p1 = 11 := by rw [e11]; rfl
                          refine x_tabIn (dflt := 160) (lo := 0) (hi := 11) (offs := #[63, 71, 79, 87, 95, 103, 115, 123, 131, 139, 147, 152]) (len := 63) (off := 152) (tgt := 153) (by decide +kernel) (by rw [ex]; decide) (by rw [ex]; decide) (by rw [ex]; rfl) (by decide) ?_
                          refine g_aload_n (i := 0) (by decide +kernel) rfl ?_
                          refine x_getr (hs.k k_0) F_Top_10 (by decide +kernel) rfl (hs.r r_0_0) ?_
                          refine x_geti (hs.k k_1) F_Top_120 (by decide +kernel) rfl ?_
                          exact x_iretp hf (by decide +kernel) rfl (Nat.le_refl _) (Nat.le_refl _)
                        · rw [if_neg e11] at hf
                          refine x_tabOut (dflt := 160) (lo := 0) (hi := 11) (offs := #[63, 71, 79, 87, 95, 103, 115, 123, 131, 139, 147, 152]) (len := 63) (tgt := 161) (by decide +kernel) (am_tabNe ⟨by decide, by decide⟩ (fun z hz => ?_)) (by decide) ?_
                          · have hz : z < 12 := hz
                            have : z = 0 ∨ z = 1 ∨ z = 2 ∨ z = 3 ∨ z = 4 ∨ z = 5 ∨ z = 6 ∨ z = 7 ∨ z = 8 ∨ z = 9 ∨ z = 10 ∨ z = 11 := by omega
                            rcases this with rfl | rfl | rfl | rfl | rfl | rfl | rfl | rfl | rfl | rfl | rfl | rfl
                            · exact e0
                            · exact e1
                            · exact e2
                            · exact e3
                            · exact e4
                            · exact e5
                            · exact e6
                            · exact e7
                            · exact e8
                            · exact e9
                            · exact e10
                            · exact e11
                          · refine g_iconst (z := (-1)) (v := (-1)) (by decide +kernel) rfl ?_
                            exact x_iretp hf (by decide +kernel) rfl (Nat.le_refl _) (Nat.le_refl _)
