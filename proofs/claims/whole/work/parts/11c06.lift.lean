def f_State_doYear_L9 (o : Nat) (p1 : Nat) (p2 : Int32) (p3 : Int32) : Nat → Int32 → Int32 → Int32 → am_H → Option (Int32 × Int32 × Int32 × am_H)
  | 0, _, _, _, _ => none
  | n + 1, v4, v5, v6, h =>
    (if p3 ≤ v6 then
      some (v4, v5, v6, h)
    else
      (f_State_drawn v4 h).bind fun q2 =>
      am_let ((((q2).toUInt32 >>> (((16 : Int32)).toUInt32 &&& Int32.toUInt32 31)).toInt32) - (((q2).toUInt32 >>> (((16 : Int32)).toUInt32 &&& Int32.toUInt32 31)).toInt32) / (4 : Int32) * (4 : Int32)) fun y3 =>
      (if y3 = (3 : Int32) then
        (f_State_drawn q2 h).bind fun q15 =>
        am_let ((200 : Int32) + ((((q15).toUInt32 >>> (((16 : Int32)).toUInt32 &&& Int32.toUInt32 31)).toInt32) - (((q15).toUInt32 >>> (((16 : Int32)).toUInt32 &&& Int32.toUInt32 31)).toInt32) / (3 : Int32) * (3 : Int32))) fun y16 =>
        (f_State_doDeed o p1 ((y16).toInt64) h).bind fun q17 =>
        (if q17.1 = 0 then
          f_State_doYear_L9 o p1 p2 p3 n q15 (v5 + (1 : Int32)) (v6 + (1 : Int32)) q17.2
        else
          f_State_doYear_L9 o p1 p2 p3 n q15 v5 (v6 + (1 : Int32)) q17.2)
      else
        (if y3 = 0 then
          (f_State_doDeed o p1 (((-1 : Int32)).toInt64) h).bind fun q6 =>
          (if q6.1 = 0 then
            f_State_doYear_L9 o p1 p2 p3 n q2 (v5 + (1 : Int32)) (v6 + (1 : Int32)) q6.2
          else
            f_State_doYear_L9 o p1 p2 p3 n q2 v5 (v6 + (1 : Int32)) q6.2)
        else
          (if (1 : Int32) ≤ (h.2.1 p1 2) then
            (f_State_drawn q2 h).bind fun q9 =>
            (am_md (((q9).toUInt32 >>> (((16 : Int32)).toUInt32 &&& Int32.toUInt32 31)).toInt32) (h.2.1 p1 2)).bind fun x10 =>
            (f_State_drawn q9 h).bind fun q11 =>
            am_let ((x10 * (10 : Int32)) + ((((q11).toUInt32 >>> (((16 : Int32)).toUInt32 &&& Int32.toUInt32 31)).toInt32) - (((q11).toUInt32 >>> (((16 : Int32)).toUInt32 &&& Int32.toUInt32 31)).toInt32) / (7 : Int32) * (7 : Int32))) fun y12 =>
            (f_State_doDeed o p1 ((y12).toInt64) h).bind fun q13 =>
            (if q13.1 = 0 then
              f_State_doYear_L9 o p1 p2 p3 n q11 (v5 + (1 : Int32)) (v6 + (1 : Int32)) q13.2
            else
              f_State_doYear_L9 o p1 p2 p3 n q11 v5 (v6 + (1 : Int32)) q13.2)
          else
            f_State_doYear_L9 o p1 p2 p3 n q2 v5 (v6 + (1 : Int32)) h))))
set_option maxRecDepth 100000 in
set_option maxHeartbeats 4000000 in
theorem t_State_doYear_L9 {o : Nat} {p1 : Nat} {p2 : Int32} {p3 : Int32} (ho : o ∈ am_stL) (hp1 : p1 ∈ am_rvL) {Q : Option Value → am_H → Prop} : ∀ (n : Nat) (v4 : Int32) (v5 : Int32) (v6 : Int32) (h : am_H) (q : Int32 × Int32 × Int32 × am_H), am_Sh h → f_State_doYear_L9 o p1 p2 p3 n v4 v5 v6 h = some q → (am_Sh q.2.2.2 → am_G 5 M_State_doYear 0 0 Q 141 [(0, .ref o), (1, .ref p1), (2, .int p2), (3, .int p3), (4, .int q.1), (5, .int q.2.1), (6, .int q.2.2.1)] [] q.2.2.2 0 0) → am_G 5 M_State_doYear 0 0 Q 9 [(0, .ref o), (1, .ref p1), (2, .int p2), (3, .int p3), (4, .int v4), (5, .int v5), (6, .int v6)] [] h 0 0 := by
  intro n
  induction n with
  | zero =>
    intro v4 v5 v6 h q hs hf kont
    rw [f_State_doYear_L9] at hf
    cases hf
  | succ n ih =>
    intro v4 v5 v6 h q hs hf kont
    rw [f_State_doYear_L9] at hf
    refine g_iload (i := 6) (by decide +kernel) rfl ?_
    refine g_iload_n (i := 3) (by decide +kernel) rfl ?_
    refine x_icmp_ge (off := 129) (tgt := 141) hf (by decide +kernel) (by decide) (fun c1 hf => ?_) (fun c1 hf => ?_)
    · cases hf
      exact am_G.forget (am_subp [0, 1, 2, 3, 4, 5, 6] rfl) (kont hs)
    · refine g_iload (i := 4) (by decide +kernel) rfl ?_
      refine x_callSIp (as := [.int v4]) St_State_drawn hf (fun q hq => t_State_drawn hs  hq) Y_State_drawn L_State_140 (by decide +kernel) rfl rfl (Nat.le_of_ble_eq_true rfl) (by decide) (Nat.le_refl _) (Nat.le_refl _) (fun q2 hf => ?_)
      refine g_istore (i := 4) (by decide +kernel) rfl (by decide) (ls1 := [(0, .ref o), (1, .ref p1), (2, .int p2), (3, .int p3), (4, .int q2), (5, .int v5), (6, .int v6)]) rfl ?_
      refine g_iload (i := 4) (by decide +kernel) rfl ?_
      refine g_bipush (z := 16) (v := 16) (by decide +kernel) rfl ?_
      refine g_iushr (by decide +kernel) ?_
      refine g_iconst (z := 4) (v := 4) (by decide +kernel) rfl ?_
      refine g_irem (by decide +kernel) (by decide) ?_
      refine x_nmI hf (fun y3 hf => ?_)
      refine g_istore (i := 7) (by decide +kernel) rfl (by decide) (ls1 := [(0, .ref o), (1, .ref p1), (2, .int p2), (3, .int p3), (4, .int q2), (5, .int v5), (6, .int v6), (7, .int y3)]) rfl ?_
      refine g_iconst (z := (-1)) (v := (-1)) (by decide +kernel) rfl ?_
      refine g_istore (i := 8) (by decide +kernel) rfl (by decide) (ls1 := [(0, .ref o), (1, .ref p1), (2, .int p2), (3, .int p3), (4, .int q2), (5, .int v5), (6, .int v6), (7, .int y3), (8, .int (-1 : Int32))]) rfl ?_
      refine g_iload (i := 7) (by decide +kernel) rfl ?_
      refine g_iconst (z := 3) (v := 3) (by decide +kernel) rfl ?_
      refine x_icmp_ne (off := 26) (tgt := 63) hf (by decide +kernel) (by decide) (fun c4 hf => ?_) (fun c4 hf => ?_)
      · refine g_iload (i := 7) (by decide +kernel) rfl ?_
        refine x_if_eq (off := 56) (tgt := 121) hf (by decide +kernel) (by decide) (fun c5 hf => ?_) (fun c5 hf => ?_)
        · refine g_aload_n (i := 0) (by decide +kernel) rfl ?_
          refine g_aload_n (i := 1) (by decide +kernel) rfl ?_
          refine g_iload (i := 8) (by decide +kernel) rfl ?_
          refine g_i2l (by decide +kernel) ?_
          refine x_callVI (as := [.ref p1, .long (((-1 : Int32)).toInt64)]) Vi_State_doDeed Vs_State_doDeed (hs.k (k_St ho)) rfl hf (fun q hq => t_State_doDeed hs ho hp1 hq) Y_State_doDeed L_State_136 (by decide +kernel) rfl rfl (Nat.le_of_ble_eq_true rfl) (by decide) (Nat.le_refl _) (Nat.le_refl _) (fun q6 hf hs => ?_)
          refine x_if_ne (off := 6) (tgt := 135) hf (by decide +kernel) (by decide) (fun c7 hf => ?_) (fun c7 hf => ?_)
          · refine g_iinc (i := 6) (z := 1) (v := (v6 + (1 : Int32))) (by decide +kernel) rfl rfl rfl (by decide) (ls1 := [(0, .ref o), (1, .ref p1), (2, .int p2), (3, .int p3), (4, .int q2), (5, .int v5), (6, .int (v6 + (1 : Int32))), (7, .int y3), (8, .int (-1 : Int32))]) rfl ?_
            refine g_goto (off := (-129)) (tgt := 9) (by decide +kernel) (by decide) ?_
            exact am_G.forget (am_subp [0, 1, 2, 3, 4, 5, 6] rfl) (ih _ _ _ _ _ hs hf kont)
          · refine g_iinc (i := 5) (z := 1) (v := (v5 + (1 : Int32))) (by decide +kernel) rfl rfl rfl (by decide) (ls1 := [(0, .ref o), (1, .ref p1), (2, .int p2), (3, .int p3), (4, .int q2), (5, .int (v5 + (1 : Int32))), (6, .int v6), (7, .int y3), (8, .int (-1 : Int32))]) rfl ?_
            refine g_iinc (i := 6) (z := 1) (v := (v6 + (1 : Int32))) (by decide +kernel) rfl rfl rfl (by decide) (ls1 := [(0, .ref o), (1, .ref p1), (2, .int p2), (3, .int p3), (4, .int q2), (5, .int (v5 + (1 : Int32))), (6, .int (v6 + (1 : Int32))), (7, .int y3), (8, .int (-1 : Int32))]) rfl ?_
            refine g_goto (off := (-129)) (tgt := 9) (by decide +kernel) (by decide) ?_
            exact am_G.forget (am_subp [0, 1, 2, 3, 4, 5, 6] rfl) (ih _ _ _ _ _ hs hf kont)
        · refine g_aload_n (i := 1) (by decide +kernel) rfl ?_
          refine x_geti (hs.k (k_Rv hp1)) F_State_58 (by decide +kernel) rfl ?_
          refine g_iconst (z := 1) (v := 1) (by decide +kernel) rfl ?_
          refine x_icmp_ge (off := 6) (tgt := 79) hf (by decide +kernel) (by decide) (fun c8 hf => ?_) (fun c8 hf => ?_)
          · refine g_iload (i := 4) (by decide +kernel) rfl ?_
            refine x_callSIp (as := [.int q2]) St_State_drawn hf (fun q hq => t_State_drawn hs  hq) Y_State_drawn L_State_140 (by decide +kernel) rfl rfl (Nat.le_of_ble_eq_true rfl) (by decide) (Nat.le_refl _) (Nat.le_refl _) (fun q9 hf => ?_)
            refine g_istore (i := 4) (by decide +kernel) rfl (by decide) (ls1 := [(0, .ref o), (1, .ref p1), (2, .int p2), (3, .int p3), (4, .int q9), (5, .int v5), (6, .int v6), (7, .int y3), (8, .int (-1 : Int32))]) rfl ?_
            refine g_iload (i := 4) (by decide +kernel) rfl ?_
            refine g_bipush (z := 16) (v := 16) (by decide +kernel) rfl ?_
            refine g_iushr (by decide +kernel) ?_
            refine g_aload_n (i := 1) (by decide +kernel) rfl ?_
            refine x_geti (hs.k (k_Rv hp1)) F_State_58 (by decide +kernel) rfl ?_
            refine x_irem hf (by decide +kernel) (fun x10 hf => ?_)
            refine g_istore (i := 9) (by decide +kernel) rfl (by decide) (ls1 := [(0, .ref o), (1, .ref p1), (2, .int p2), (3, .int p3), (4, .int q9), (5, .int v5), (6, .int v6), (7, .int y3), (8, .int (-1 : Int32)), (9, .int x10)]) rfl ?_
            refine g_iload (i := 4) (by decide +kernel) rfl ?_
            refine x_callSIp (as := [.int q9]) St_State_drawn hf (fun q hq => t_State_drawn hs  hq) Y_State_drawn L_State_140 (by decide +kernel) rfl rfl (Nat.le_of_ble_eq_true rfl) (by decide) (Nat.le_refl _) (Nat.le_refl _) (fun q11 hf => ?_)
            refine g_istore (i := 4) (by decide +kernel) rfl (by decide) (ls1 := [(0, .ref o), (1, .ref p1), (2, .int p2), (3, .int p3), (4, .int q11), (5, .int v5), (6, .int v6), (7, .int y3), (8, .int (-1 : Int32)), (9, .int x10)]) rfl ?_
            refine g_iload (i := 9) (by decide +kernel) rfl ?_
            refine g_bipush (z := 10) (v := 10) (by decide +kernel) rfl ?_
            refine g_imul (by decide +kernel) ?_
            refine g_iload (i := 4) (by decide +kernel) rfl ?_
            refine g_bipush (z := 16) (v := 16) (by decide +kernel) rfl ?_
            refine g_iushr (by decide +kernel) ?_
            refine g_bipush (z := 7) (v := 7) (by decide +kernel) rfl ?_
            refine g_irem (by decide +kernel) (by decide) ?_
            refine g_iadd (by decide +kernel) ?_
            refine x_nmI hf (fun y12 hf => ?_)
            refine g_istore (i := 8) (by decide +kernel) rfl (by decide) (ls1 := [(0, .ref o), (1, .ref p1), (2, .int p2), (3, .int p3), (4, .int q11), (5, .int v5), (6, .int v6), (7, .int y3), (8, .int y12), (9, .int x10)]) rfl ?_
            refine g_aload_n (i := 0) (by decide +kernel) rfl ?_
            refine g_aload_n (i := 1) (by decide +kernel) rfl ?_
            refine g_iload (i := 8) (by decide +kernel) rfl ?_
            refine g_i2l (by decide +kernel) ?_
            refine x_callVI (as := [.ref p1, .long ((y12).toInt64)]) Vi_State_doDeed Vs_State_doDeed (hs.k (k_St ho)) rfl hf (fun q hq => t_State_doDeed hs ho hp1 hq) Y_State_doDeed L_State_136 (by decide +kernel) rfl rfl (Nat.le_of_ble_eq_true rfl) (by decide) (Nat.le_refl _) (Nat.le_refl _) (fun q13 hf hs => ?_)
            refine x_if_ne (off := 6) (tgt := 135) hf (by decide +kernel) (by decide) (fun c14 hf => ?_) (fun c14 hf => ?_)
            · refine g_iinc (i := 6) (z := 1) (v := (v6 + (1 : Int32))) (by decide +kernel) rfl rfl rfl (by decide) (ls1 := [(0, .ref o), (1, .ref p1), (2, .int p2), (3, .int p3), (4, .int q11), (5, .int v5), (6, .int (v6 + (1 : Int32))), (7, .int y3), (8, .int y12), (9, .int x10)]) rfl ?_
              refine g_goto (off := (-129)) (tgt := 9) (by decide +kernel) (by decide) ?_
              exact am_G.forget (am_subp [0, 1, 2, 3, 4, 5, 6] rfl) (ih _ _ _ _ _ hs hf kont)
            · refine g_iinc (i := 5) (z := 1) (v := (v5 + (1 : Int32))) (by decide +kernel) rfl rfl rfl (by decide) (ls1 := [(0, .ref o), (1, .ref p1), (2, .int p2), (3, .int p3), (4, .int q11), (5, .int (v5 + (1 : Int32))), (6, .int v6), (7, .int y3), (8, .int y12), (9, .int x10)]) rfl ?_
              refine g_iinc (i := 6) (z := 1) (v := (v6 + (1 : Int32))) (by decide +kernel) rfl rfl rfl (by decide) (ls1 := [(0, .ref o), (1, .ref p1), (2, .int p2), (3, .int p3), (4, .int q11), (5, .int (v5 + (1 : Int32))), (6, .int (v6 + (1 : Int32))), (7, .int y3), (8, .int y12), (9, .int x10)]) rfl ?_
              refine g_goto (off := (-129)) (tgt := 9) (by decide +kernel) (by decide) ?_
              exact am_G.forget (am_subp [0, 1, 2, 3, 4, 5, 6] rfl) (ih _ _ _ _ _ hs hf kont)
          · refine g_goto (off := 59) (tgt := 135) (by decide +kernel) (by decide) ?_
            refine g_iinc (i := 6) (z := 1) (v := (v6 + (1 : Int32))) (by decide +kernel) rfl rfl rfl (by decide) (ls1 := [(0, .ref o), (1, .ref p1), (2, .int p2), (3, .int p3), (4, .int q2), (5, .int v5), (6, .int (v6 + (1 : Int32))), (7, .int y3), (8, .int (-1 : Int32))]) rfl ?_
            refine g_goto (off := (-129)) (tgt := 9) (by decide +kernel) (by decide) ?_
            exact am_G.forget (am_subp [0, 1, 2, 3, 4, 5, 6] rfl) (ih _ _ _ _ _ hs hf kont)
      · refine g_iload (i := 4) (by decide +kernel) rfl ?_
        refine x_callSIp (as := [.int q2]) St_State_drawn hf (fun q hq => t_State_drawn hs  hq) Y_State_drawn L_State_140 (by decide +kernel) rfl rfl (Nat.le_of_ble_eq_true rfl) (by decide) (Nat.le_refl _) (Nat.le_refl _) (fun q15 hf => ?_)
        refine g_istore (i := 4) (by decide +kernel) rfl (by decide) (ls1 := [(0, .ref o), (1, .ref p1), (2, .int p2), (3, .int p3), (4, .int q15), (5, .int v5), (6, .int v6), (7, .int y3), (8, .int (-1 : Int32))]) rfl ?_
        refine g_sipush (z := 200) (v := 200) (by decide +kernel) rfl ?_
        refine g_iload (i := 4) (by decide +kernel) rfl ?_
        refine g_bipush (z := 16) (v := 16) (by decide +kernel) rfl ?_
        refine g_iushr (by decide +kernel) ?_
        refine g_iconst (z := 3) (v := 3) (by decide +kernel) rfl ?_
        refine g_irem (by decide +kernel) (by decide) ?_
        refine g_iadd (by decide +kernel) ?_
        refine x_nmI hf (fun y16 hf => ?_)
        refine g_istore (i := 8) (by decide +kernel) rfl (by decide) (ls1 := [(0, .ref o), (1, .ref p1), (2, .int p2), (3, .int p3), (4, .int q15), (5, .int v5), (6, .int v6), (7, .int y3), (8, .int y16)]) rfl ?_
        refine g_goto (off := 61) (tgt := 121) (by decide +kernel) (by decide) ?_
        refine g_aload_n (i := 0) (by decide +kernel) rfl ?_
        refine g_aload_n (i := 1) (by decide +kernel) rfl ?_
        refine g_iload (i := 8) (by decide +kernel) rfl ?_
        refine g_i2l (by decide +kernel) ?_
        refine x_callVI (as := [.ref p1, .long ((y16).toInt64)]) Vi_State_doDeed Vs_State_doDeed (hs.k (k_St ho)) rfl hf (fun q hq => t_State_doDeed hs ho hp1 hq) Y_State_doDeed L_State_136 (by decide +kernel) rfl rfl (Nat.le_of_ble_eq_true rfl) (by decide) (Nat.le_refl _) (Nat.le_refl _) (fun q17 hf hs => ?_)
        refine x_if_ne (off := 6) (tgt := 135) hf (by decide +kernel) (by decide) (fun c18 hf => ?_) (fun c18 hf => ?_)
        · refine g_iinc (i := 6) (z := 1) (v := (v6 + (1 : Int32))) (by decide +kernel) rfl rfl rfl (by decide) (ls1 := [(0, .ref o), (1, .ref p1), (2, .int p2), (3, .int p3), (4, .int q15), (5, .int v5), (6, .int (v6 + (1 : Int32))), (7, .int y3), (8, .int y16)]) rfl ?_
          refine g_goto (off := (-129)) (tgt := 9) (by decide +kernel) (by decide) ?_
          exact am_G.forget (am_subp [0, 1, 2, 3, 4, 5, 6] rfl) (ih _ _ _ _ _ hs hf kont)
        · refine g_iinc (i := 5) (z := 1) (v := (v5 + (1 : Int32))) (by decide +kernel) rfl rfl rfl (by decide) (ls1 := [(0, .ref o), (1, .ref p1), (2, .int p2), (3, .int p3), (4, .int q15), (5, .int (v5 + (1 : Int32))), (6, .int v6), (7, .int y3), (8, .int y16)]) rfl ?_
          refine g_iinc (i := 6) (z := 1) (v := (v6 + (1 : Int32))) (by decide +kernel) rfl rfl rfl (by decide) (ls1 := [(0, .ref o), (1, .ref p1), (2, .int p2), (3, .int p3), (4, .int q15), (5, .int (v5 + (1 : Int32))), (6, .int (v6 + (1 : Int32))), (7, .int y3), (8, .int y16)]) rfl ?_
          refine g_goto (off := (-129)) (tgt := 9) (by decide +kernel) (by decide) ?_
          exact am_G.forget (am_subp [0, 1, 2, 3, 4, 5, 6] rfl) (ih _ _ _ _ _ hs hf kont)
def f_State_doYear (o : Nat) (p1 : Nat) (p2 : Int32) (p3 : Int32) (h : am_H) : Option (Int32 × am_H) :=
  (f_State_doYear_L9 o p1 p2 p3 am_fu p2 (0 : Int32) (0 : Int32) h).bind fun q19 =>
  some (q19.2.1, q19.2.2.2)
set_option maxRecDepth 100000 in
set_option maxHeartbeats 4000000 in
theorem t_State_doYear {o : Nat} {p1 : Nat} {p2 : Int32} {p3 : Int32} {h : am_H} (hs : am_Sh h) (ho : o ∈ am_stL) (hp1 : p1 ∈ am_rvL) {r : Int32 × am_H} (hf : f_State_doYear o p1 p2 p3 h = some r) : am_Ct 5 M_State_doYear [.ref o, .ref p1, .int p2, .int p3] h 0 0 (am_qI r) := by
  unfold f_State_doYear at hf
  refine am_Ct.of (by decide) rfl (Nat.le_of_ble_eq_true rfl) (ls := [(0, .ref o), (1, .ref p1), (2, .int p2), (3, .int p3)]) rfl ?_
  refine g_iload_n (i := 2) (by decide +kernel) rfl ?_
  refine g_istore (i := 4) (by decide +kernel) rfl (by decide) (ls1 := [(0, .ref o), (1, .ref p1), (2, .int p2), (3, .int p3), (4, .int p2)]) rfl ?_
  refine g_iconst (z := 0) (v := 0) (by decide +kernel) rfl ?_
  refine g_istore (i := 5) (by decide +kernel) rfl (by decide) (ls1 := [(0, .ref o), (1, .ref p1), (2, .int p2), (3, .int p3), (4, .int p2), (5, .int (0 : Int32))]) rfl ?_
  refine g_iconst (z := 0) (v := 0) (by decide +kernel) rfl ?_
  refine g_istore (i := 6) (by decide +kernel) rfl (by decide) (ls1 := [(0, .ref o), (1, .ref p1), (2, .int p2), (3, .int p3), (4, .int p2), (5, .int (0 : Int32)), (6, .int (0 : Int32))]) rfl ?_
  obtain ⟨q19, hqq19, hf⟩ := Option.bind_eq_some_iff.mp hf
  refine am_G.forget (am_subp [0, 1, 2, 3, 4, 5, 6] rfl) (t_State_doYear_L9 ho hp1 am_fu _ _ _ _ q19 hs hqq19 (fun hs => ?_))
  refine g_iload (i := 5) (by decide +kernel) rfl ?_
  exact x_iret hf hs (by decide +kernel) rfl (Nat.le_refl _) (Nat.le_refl _)
def f_Top_year (p1 : Int32) (p2 : Int32) (h : am_H) : Option (Int32 × am_H) :=
  (if p2 < (1 : Int32) then
    some ((-3 : Int32), h)
  else
    (if p2 ≤ (40 : Int32) then
      (f_State_copyFrom 14 10 h).bind fun q3 =>
      (f_State_doYear 14 1 p1 p2 q3).bind fun q4 =>
      (f_Top_becomeTrial q4.1 q4.2).bind fun q5 =>
      some (q4.1, q5)
    else
      some ((-3 : Int32), h)))
set_option maxRecDepth 100000 in
set_option maxHeartbeats 4000000 in
theorem t_Top_year {p1 : Int32} {p2 : Int32} {h : am_H} (hs : am_Sh h)  {r : Int32 × am_H} (hf : f_Top_year p1 p2 h = some r) : am_Ct 6 M_Top_year [.ref 0, .int p1, .int p2] h 0 0 (am_qI r) := by
  unfold f_Top_year at hf
  refine am_Ct.of (by decide) rfl (Nat.le_of_ble_eq_true rfl) (ls := [(0, .ref 0), (1, .int p1), (2, .int p2)]) rfl ?_
  refine g_iload_n (i := 2) (by decide +kernel) rfl ?_
  refine g_iconst (z := 1) (v := 1) (by decide +kernel) rfl ?_
  refine x_icmp_lt (off := 9) (tgt := 11) hf (by decide +kernel) (by decide) (fun c1 hf => ?_) (fun c1 hf => ?_)
  · refine g_bipush (z := (-3)) (v := (-3)) (by decide +kernel) rfl ?_
    exact x_iret hf hs (by decide +kernel) rfl (Nat.le_refl _) (Nat.le_refl _)
  · refine g_iload_n (i := 2) (by decide +kernel) rfl ?_
    refine g_bipush (z := 40) (v := 40) (by decide +kernel) rfl ?_
    refine x_icmp_le (off := 6) (tgt := 14) hf (by decide +kernel) (by decide) (fun c2 hf => ?_) (fun c2 hf => ?_)
    · refine g_aload_n (i := 0) (by decide +kernel) rfl ?_
      refine x_getr (hs.k k_0) F_Top_23 (by decide +kernel) rfl (hs.r r_0_2) ?_
      refine g_aload_n (i := 0) (by decide +kernel) rfl ?_
      refine x_getr (hs.k k_0) F_Top_19 (by decide +kernel) rfl (hs.r r_0_1) ?_
      refine x_callVV (as := [.ref 10]) Vi_State_copyFrom Vs_State_copyFrom (hs.k k_14) rfl hf (fun q hq => t_State_copyFrom hs (by decide) (by decide) hq) Y_State_copyFrom L_Top_201 (by decide +kernel) rfl rfl (Nat.le_of_ble_eq_true rfl) (by decide) (Nat.le_refl _) (Nat.le_refl _) (fun q3 hf hs => ?_)
      refine g_aload_n (i := 0) (by decide +kernel) rfl ?_
      refine x_getr (hs.k k_0) F_Top_23 (by decide +kernel) rfl (hs.r r_0_2) ?_
      refine g_aload_n (i := 0) (by decide +kernel) rfl ?_
      refine x_getr (hs.k k_0) F_Top_10 (by decide +kernel) rfl (hs.r r_0_0) ?_
      refine g_iload_n (i := 1) (by decide +kernel) rfl ?_
      refine g_iload_n (i := 2) (by decide +kernel) rfl ?_
      refine x_callVI (as := [.ref 1, .int p1, .int p2]) Vi_State_doYear Vs_State_doYear (hs.k k_14) rfl hf (fun q hq => t_State_doYear hs (by decide) (by decide) hq) Y_State_doYear L_Top_227 (by decide +kernel) rfl rfl (Nat.le_of_ble_eq_true rfl) (by decide) (Nat.le_refl _) (Nat.le_refl _) (fun q4 hf hs => ?_)
      refine g_istore_n (i := 3) (by decide +kernel) rfl (by decide) (ls1 := [(0, .ref 0), (1, .int p1), (2, .int p2), (3, .int q4.1)]) rfl ?_
      refine g_aload_n (i := 0) (by decide +kernel) rfl ?_
      refine g_iload_n (i := 3) (by decide +kernel) rfl ?_
      refine x_callVV (as := [.int q4.1]) Vi_Top_becomeTrial Vs_Top_becomeTrial (hs.k k_0) rfl hf (fun q hq => t_Top_becomeTrial hs  hq) Y_Top_becomeTrial L_Top_224 (by decide +kernel) rfl rfl (Nat.le_of_ble_eq_true rfl) (by decide) (Nat.le_refl _) (Nat.le_refl _) (fun q5 hf hs => ?_)
      refine g_iload_n (i := 3) (by decide +kernel) rfl ?_
      exact x_iret hf hs (by decide +kernel) rfl (Nat.le_refl _) (Nat.le_refl _)
    · refine g_bipush (z := (-3)) (v := (-3)) (by decide +kernel) rfl ?_
      exact x_iret hf hs (by decide +kernel) rfl (Nat.le_refl _) (Nat.le_refl _)
def f_River_hasSpot (o : Nat) (p1 : Int32) (h : am_H) : Option (Bool) :=
  (if p1 = (8 : Int32) then
    some true
  else
    (if p1 < 0 then
      some false
    else
      (if ((2 : Int32) * (h.2.1 o 0)) ≤ p1 then
        some false
      else
        some true)))
set_option maxRecDepth 100000 in
set_option maxHeartbeats 4000000 in
theorem t_River_hasSpot {o : Nat} {p1 : Int32} {h : am_H} (hs : am_Sh h) (ho : o ∈ am_rvL) {r : Bool} (hf : f_River_hasSpot o p1 h = some r) : am_Ct 0 M_River_hasSpot [.ref o, .int p1] h 0 0 (am_pB h r) := by
  unfold f_River_hasSpot at hf
  refine am_Ct.of (by decide) rfl (Nat.le_of_ble_eq_true rfl) (ls := [(0, .ref o), (1, .int p1)]) rfl ?_
  refine g_iload_n (i := 1) (by decide +kernel) rfl ?_
  refine g_bipush (z := 8) (v := 8) (by decide +kernel) rfl ?_
  refine x_icmp_eq (off := 17) (tgt := 20) hf (by decide +kernel) (by decide) (fun c1 hf => ?_) (fun c1 hf => ?_)
  · refine g_iconst (z := 1) (v := 1) (by decide +kernel) rfl ?_
    refine g_goto (off := 4) (tgt := 25) (by decide +kernel) (by decide) ?_
    exact x_zretp rfl hf (by decide +kernel) rfl (Nat.le_refl _) (Nat.le_refl _)
  · refine g_iload_n (i := 1) (by decide +kernel) rfl ?_
    refine x_if_lt (off := 17) (tgt := 24) hf (by decide +kernel) (by decide) (fun c2 hf => ?_) (fun c2 hf => ?_)
    · refine g_iconst (z := 0) (v := 0) (by decide +kernel) rfl ?_
      exact x_zretp rfl hf (by decide +kernel) rfl (Nat.le_refl _) (Nat.le_refl _)
    · refine g_iload_n (i := 1) (by decide +kernel) rfl ?_
      refine g_iconst (z := 2) (v := 2) (by decide +kernel) rfl ?_
      refine g_aload_n (i := 0) (by decide +kernel) rfl ?_
      refine x_geti (hs.k (k_Rv ho)) F_River_9 (by decide +kernel) rfl ?_
      refine g_imul (by decide +kernel) ?_
      refine x_icmp_ge (off := 7) (tgt := 24) hf (by decide +kernel) (by decide) (fun c3 hf => ?_) (fun c3 hf => ?_)
      · refine g_iconst (z := 0) (v := 0) (by decide +kernel) rfl ?_
        exact x_zretp rfl hf (by decide +kernel) rfl (Nat.le_refl _) (Nat.le_refl _)
      · refine g_iconst (z := 1) (v := 1) (by decide +kernel) rfl ?_
        refine g_goto (off := 4) (tgt := 25) (by decide +kernel) (by decide) ?_
        exact x_zretp rfl hf (by decide +kernel) rfl (Nat.le_refl _) (Nat.le_refl _)
def f_River_joined (o : Nat) (p1 : Int32) (p2 : Int32) (p3 : Int32) (h : am_H) : Option (Int32) :=
  (if p3 = (-1 : Int32) then
    some (0 : Int32)
  else
    (am_rd (h.2.1 (o + 8)) 60 p1).bind fun x2 =>
    (if ((x2 >>> (p3 &&& 31)) &&& (1 : Int32)) = 0 then
      some (0 : Int32)
    else
      am_let ((256 : Int32) ||| ((3 : Int32) <<< (((2 : Int32) * p3) &&& 31))) fun y4 =>
      (if (p2 &&& y4) = 0 then
        some (0 : Int32)
      else
        some y4)))
set_option maxRecDepth 100000 in
set_option maxHeartbeats 4000000 in
theorem t_River_joined {o : Nat} {p1 : Int32} {p2 : Int32} {p3 : Int32} {h : am_H} (hs : am_Sh h) (ho : o ∈ am_rvL) {r : Int32} (hf : f_River_joined o p1 p2 p3 h = some r) : am_Ct 0 M_River_joined [.ref o, .int p1, .int p2, .int p3] h 0 0 (am_pI h r) := by
  unfold f_River_joined at hf
  refine am_Ct.of (by decide) rfl (Nat.le_of_ble_eq_true rfl) (ls := [(0, .ref o), (1, .int p1), (2, .int p2), (3, .int p3)]) rfl ?_
  refine g_iload_n (i := 3) (by decide +kernel) rfl ?_
  refine g_iconst (z := (-1)) (v := (-1)) (by decide +kernel) rfl ?_
  refine x_icmp_eq (off := 16) (tgt := 18) hf (by decide +kernel) (by decide) (fun c1 hf => ?_) (fun c1 hf => ?_)
  · refine g_iconst (z := 0) (v := 0) (by decide +kernel) rfl ?_
    exact x_iretp hf (by decide +kernel) rfl (Nat.le_refl _) (Nat.le_refl _)
  · refine g_aload_n (i := 0) (by decide +kernel) rfl ?_
    refine x_getr (hs.k (k_Rv ho)) F_River_52 (by decide +kernel) rfl (hs.r (r_Rv_13 ho)) ?_
    refine g_iload_n (i := 1) (by decide +kernel) rfl ?_
    refine x_iald hf (hs.k (k_Rv_13 ho)) (by decide +kernel) (fun x2 hf => ?_)
    refine g_iload_n (i := 3) (by decide +kernel) rfl ?_
    refine g_ishr (by decide +kernel) ?_
    refine g_iconst (z := 1) (v := 1) (by decide +kernel) rfl ?_
    refine g_iand (by decide +kernel) ?_
    refine x_if_ne (off := 5) (tgt := 20) hf (by decide +kernel) (by decide) (fun c3 hf => ?_) (fun c3 hf => ?_)
    · refine g_sipush (z := 256) (v := 256) (by decide +kernel) rfl ?_
      refine g_iconst (z := 3) (v := 3) (by decide +kernel) rfl ?_
      refine g_iconst (z := 2) (v := 2) (by decide +kernel) rfl ?_
      refine g_iload_n (i := 3) (by decide +kernel) rfl ?_
      refine g_imul (by decide +kernel) ?_
      refine g_ishl (by decide +kernel) ?_
      refine g_ior (by decide +kernel) ?_
      refine x_nmI hf (fun y4 hf => ?_)
      refine g_istore (i := 4) (by decide +kernel) rfl (by decide) (ls1 := [(0, .ref o), (1, .int p1), (2, .int p2), (3, .int p3), (4, .int y4)]) rfl ?_
      refine g_iload_n (i := 2) (by decide +kernel) rfl ?_
      refine g_iload (i := 4) (by decide +kernel) rfl ?_
      refine g_iand (by decide +kernel) ?_
      refine x_if_eq (off := 8) (tgt := 43) hf (by decide +kernel) (by decide) (fun c5 hf => ?_) (fun c5 hf => ?_)
      · refine g_iconst (z := 0) (v := 0) (by decide +kernel) rfl ?_
        exact x_iretp hf (by decide +kernel) rfl (Nat.le_refl _) (Nat.le_refl _)
      · refine g_iload (i := 4) (by decide +kernel) rfl ?_
        refine g_goto (off := 4) (tgt := 44) (by decide +kernel) (by decide) ?_
        exact x_iretp hf (by decide +kernel) rfl (Nat.le_refl _) (Nat.le_refl _)
    · refine g_iconst (z := 0) (v := 0) (by decide +kernel) rfl ?_
      exact x_iretp hf (by decide +kernel) rfl (Nat.le_refl _) (Nat.le_refl _)
def f_River_spread (o : Nat) (p1 : Int32) (p2 : Int32) (p3 : Int32) (h : am_H) : Option (Int32) :=
  (am_rd (h.2.1 (o + 6)) 60 p1).bind fun x1 =>
  (am_rd (h.2.1 (o + 7)) 60 p1).bind fun x2 =>
  (f_River_joined o p1 p2 p3 h).bind fun q3 =>
  some (((p2 ||| ((p2 &&& x1) <<< ((2 : Int32) &&& 31))) ||| ((p2 &&& x2) >>> ((2 : Int32) &&& 31))) ||| q3)
set_option maxRecDepth 100000 in
set_option maxHeartbeats 4000000 in
theorem t_River_spread {o : Nat} {p1 : Int32} {p2 : Int32} {p3 : Int32} {h : am_H} (hs : am_Sh h) (ho : o ∈ am_rvL) {r : Int32} (hf : f_River_spread o p1 p2 p3 h = some r) : am_Ct 1 M_River_spread [.ref o, .int p1, .int p2, .int p3] h 0 0 (am_pI h r) := by
  unfold f_River_spread at hf
  refine am_Ct.of (by decide) rfl (Nat.le_of_ble_eq_true rfl) (ls := [(0, .ref o), (1, .int p1), (2, .int p2), (3, .int p3)]) rfl ?_
  refine g_iload_n (i := 2) (by decide +kernel) rfl ?_
  refine g_iload_n (i := 2) (by decide +kernel) rfl ?_
  refine g_aload_n (i := 0) (by decide +kernel) rfl ?_
  refine x_getr (hs.k (k_Rv ho)) F_River_46 (by decide +kernel) rfl (hs.r (r_Rv_11 ho)) ?_
  refine g_iload_n (i := 1) (by decide +kernel) rfl ?_
  refine x_iald hf (hs.k (k_Rv_11 ho)) (by decide +kernel) (fun x1 hf => ?_)
  refine g_iand (by decide +kernel) ?_
  refine g_iconst (z := 2) (v := 2) (by decide +kernel) rfl ?_
  refine g_ishl (by decide +kernel) ?_
  refine g_ior (by decide +kernel) ?_
  refine g_iload_n (i := 2) (by decide +kernel) rfl ?_
  refine g_aload_n (i := 0) (by decide +kernel) rfl ?_
  refine x_getr (hs.k (k_Rv ho)) F_River_49 (by decide +kernel) rfl (hs.r (r_Rv_12 ho)) ?_
  refine g_iload_n (i := 1) (by decide +kernel) rfl ?_
  refine x_iald hf (hs.k (k_Rv_12 ho)) (by decide +kernel) (fun x2 hf => ?_)
  refine g_iand (by decide +kernel) ?_
  refine g_iconst (z := 2) (v := 2) (by decide +kernel) rfl ?_
  refine g_ishr (by decide +kernel) ?_
  refine g_ior (by decide +kernel) ?_
  refine g_aload_n (i := 0) (by decide +kernel) rfl ?_
  refine g_iload_n (i := 1) (by decide +kernel) rfl ?_
  refine g_iload_n (i := 2) (by decide +kernel) rfl ?_
  refine g_iload_n (i := 3) (by decide +kernel) rfl ?_
  refine x_callVIp (as := [.int p1, .int p2, .int p3]) Vi_River_joined Vs_River_joined (hs.k (k_Rv ho)) rfl hf (fun q hq => t_River_joined hs ho hq) Y_River_joined L_River_96 (by decide +kernel) rfl rfl (Nat.le_of_ble_eq_true rfl) (by decide) (Nat.le_refl _) (Nat.le_refl _) (fun q3 hf => ?_)
  refine g_ior (by decide +kernel) ?_
  exact x_iretp hf (by decide +kernel) rfl (Nat.le_refl _) (Nat.le_refl _)
def f_Ahead_hoursFrom_L30 (p1 : Int32) (p2 : Int32) (p3 : Int32) (p4 : Nat) (p4L : Nat) (p5 : Int32) (p6 : Int32) : Nat → Int32 → Int32 → Int32 → Int32 → Int32 → am_H → Option (Int32)
  | 0, _, _, _, _, _, _ => none
  | n + 1, v2, v7, v8, v9, v10, h =>
    (if p6 < v10 then
      some (-1 : Int32)
    else
      (if (v2 &&& v7) = 0 then
        am_let (if (h.2.1 10 1) ≤ (p5 + v10) then (0 : Int32) else (1 : Int32)) fun y5 =>
        (f_River_row p1 v8 y5 h).bind fun q6 =>
        (am_rd (h.2.1 p4) p4L v8).bind fun x7 =>
        (f_River_spread 1 q6 v2 x7 h).bind fun q8 =>
        am_let (if q8 = v2 then (if y5 = 0 then (v9 + (1 : Int32)) else (0 : Int32)) else (0 : Int32)) fun y11 =>
        (if y11 < (h.2.1 1 1) then
          (if (v8 + (1 : Int32)) < (h.2.1 1 1) then
            f_Ahead_hoursFrom_L30 p1 p2 p3 p4 p4L p5 p6 n q8 v7 (v8 + (1 : Int32)) y11 (v10 + (1 : Int32)) h
          else
            f_Ahead_hoursFrom_L30 p1 p2 p3 p4 p4L p5 p6 n q8 v7 (0 : Int32) y11 (v10 + (1 : Int32)) h)
        else
          some (-1 : Int32))
      else
        some v10))
set_option maxRecDepth 100000 in
set_option maxHeartbeats 4000000 in
theorem t_Ahead_hoursFrom_L30 {p1 : Int32} {p2 : Int32} {p3 : Int32} {p4 : Nat} {p4L : Nat} {p5 : Int32} {p6 : Int32} (hp4 : am_K0[p4]? = some (.inr (.int, p4L))) : ∀ (n : Nat) (v2 : Int32) (v7 : Int32) (v8 : Int32) (v9 : Int32) (v10 : Int32) (h : am_H) (r : Int32), am_Sh h → f_Ahead_hoursFrom_L30 p1 p2 p3 p4 p4L p5 p6 n v2 v7 v8 v9 v10 h = some r → am_G 2 M_Ahead_hoursFrom 0 0 (am_pI h r) 30 [(0, .ref 86), (1, .int p1), (2, .int v2), (3, .int p3), (4, .ref p4), (5, .int p5), (6, .int p6), (7, .int v7), (8, .int v8), (9, .int v9), (10, .int v10)] [] h 0 0 := by
  intro n
  induction n with
  | zero =>
    intro v2 v7 v8 v9 v10 h r hs hf
    rw [f_Ahead_hoursFrom_L30] at hf
    cases hf
  | succ n ih =>
    intro v2 v7 v8 v9 v10 h r hs hf
    rw [f_Ahead_hoursFrom_L30] at hf
    refine g_iload (i := 10) (by decide +kernel) rfl ?_
    refine g_iload (i := 6) (by decide +kernel) rfl ?_
    refine x_icmp_gt (off := 126) (tgt := 160) hf (by decide +kernel) (by decide) (fun c2 hf => ?_) (fun c2 hf => ?_)
    · refine g_iconst (z := (-1)) (v := (-1)) (by decide +kernel) rfl ?_
      exact x_iretp hf (by decide +kernel) rfl (Nat.le_refl _) (Nat.le_refl _)
    · refine g_iload_n (i := 2) (by decide +kernel) rfl ?_
      refine g_iload (i := 7) (by decide +kernel) rfl ?_
      refine g_iand (by decide +kernel) ?_
      refine x_if_eq (off := 6) (tgt := 47) hf (by decide +kernel) (by decide) (fun c3 hf => ?_) (fun c3 hf => ?_)
      · refine g_iload (i := 5) (by decide +kernel) rfl ?_
        refine g_iload (i := 10) (by decide +kernel) rfl ?_
        refine g_iadd (by decide +kernel) ?_
        refine g_aload_n (i := 0) (by decide +kernel) rfl ?_
        refine x_getr (hs.k k_86) F_Ahead_29 (by decide +kernel) rfl (hs.r r_86_1) ?_
        refine x_geti (hs.k k_10) F_Ahead_45 (by decide +kernel) rfl ?_
        refine am_cut (J := 67) (ls' := [(0, .ref 86), (1, .int p1), (2, .int v2), (3, .int p3), (4, .ref p4), (5, .int p5), (6, .int p6), (7, .int v7), (8, .int v8), (9, .int v9), (10, .int v10)]) (st' := [.int (if (h.2.1 10 1) ≤ (p5 + v10) then (0 : Int32) else (1 : Int32))]) ?_ (fun K67 => ?_)
        · refine x_nmI hf (fun y5 hf => ?_)
          refine g_istore (i := 11) (by decide +kernel) rfl (by decide) (ls1 := [(0, .ref 86), (1, .int p1), (2, .int v2), (3, .int p3), (4, .ref p4), (5, .int p5), (6, .int p6), (7, .int v7), (8, .int v8), (9, .int v9), (10, .int v10), (11, .int y5)]) rfl ?_
          refine g_aload_n (i := 0) (by decide +kernel) rfl ?_
          refine x_getr (hs.k k_86) F_Ahead_25 (by decide +kernel) rfl (hs.r r_86_0) ?_
          refine g_iload_n (i := 1) (by decide +kernel) rfl ?_
          refine g_iload (i := 8) (by decide +kernel) rfl ?_
          refine g_iload (i := 11) (by decide +kernel) rfl ?_
          refine x_callSIp (as := [.int p1, .int v8, .int y5]) St_River_row hf (fun q hq => t_River_row hs  hq) Y_River_row L_Ahead_48 (by decide +kernel) rfl rfl (Nat.le_of_ble_eq_true rfl) (by decide) (Nat.le_refl _) (Nat.le_refl _) (fun q6 hf => ?_)
          refine g_iload_n (i := 2) (by decide +kernel) rfl ?_
          refine g_aload (i := 4) (by decide +kernel) rfl ?_
          refine g_iload (i := 8) (by decide +kernel) rfl ?_
          refine x_iald hf (hs.k hp4) (by decide +kernel) (fun x7 hf => ?_)
          refine x_callVIp (as := [.int q6, .int v2, .int x7]) Vi_River_spread Vs_River_spread (hs.k k_1) rfl hf (fun q hq => t_River_spread hs (by decide) hq) Y_River_spread L_Ahead_62 (by decide +kernel) rfl rfl (Nat.le_of_ble_eq_true rfl) (by decide) (Nat.le_refl _) (Nat.le_refl _) (fun q8 hf => ?_)
          refine g_istore (i := 12) (by decide +kernel) rfl (by decide) (ls1 := [(0, .ref 86), (1, .int p1), (2, .int v2), (3, .int p3), (4, .ref p4), (5, .int p5), (6, .int p6), (7, .int v7), (8, .int v8), (9, .int v9), (10, .int v10), (11, .int y5), (12, .int q8)]) rfl ?_
          refine g_iload (i := 12) (by decide +kernel) rfl ?_
          refine g_iload_n (i := 2) (by decide +kernel) rfl ?_
          refine am_cut (J := 111) (ls' := [(0, .ref 86), (1, .int p1), (2, .int v2), (3, .int p3), (4, .ref p4), (5, .int p5), (6, .int p6), (7, .int v7), (8, .int v8), (9, .int v9), (10, .int v10), (11, .int y5), (12, .int q8)]) (st' := [.int (if q8 = v2 then (if y5 = 0 then (v9 + (1 : Int32)) else (0 : Int32)) else (0 : Int32))]) ?_ (fun K111 => ?_)
          · refine x_nmI hf (fun y11 hf => ?_)
            refine g_istore (i := 9) (by decide +kernel) rfl (by decide) (ls1 := [(0, .ref 86), (1, .int p1), (2, .int v2), (3, .int p3), (4, .ref p4), (5, .int p5), (6, .int p6), (7, .int v7), (8, .int v8), (9, .int y11), (10, .int v10), (11, .int y5), (12, .int q8)]) rfl ?_
            refine g_iload (i := 9) (by decide +kernel) rfl ?_
            refine g_aload_n (i := 0) (by decide +kernel) rfl ?_
            refine x_getr (hs.k k_86) F_Ahead_25 (by decide +kernel) rfl (hs.r r_86_0) ?_
            refine x_geti (hs.k k_1) F_Ahead_66 (by decide +kernel) rfl ?_
            refine x_icmp_lt (off := 5) (tgt := 127) hf (by decide +kernel) (by decide) (fun c12 hf => ?_) (fun c12 hf => ?_)
            · refine g_iload (i := 12) (by decide +kernel) rfl ?_
              refine g_istore_n (i := 2) (by decide +kernel) rfl (by decide) (ls1 := [(0, .ref 86), (1, .int p1), (2, .int q8), (3, .int p3), (4, .ref p4), (5, .int p5), (6, .int p6), (7, .int v7), (8, .int v8), (9, .int y11), (10, .int v10), (11, .int y5), (12, .int q8)]) rfl ?_
              refine g_iload (i := 8) (by decide +kernel) rfl ?_
              refine g_iconst (z := 1) (v := 1) (by decide +kernel) rfl ?_
              refine g_iadd (by decide +kernel) ?_
              refine g_aload_n (i := 0) (by decide +kernel) rfl ?_
              refine x_getr (hs.k k_86) F_Ahead_25 (by decide +kernel) rfl (hs.r r_86_0) ?_
              refine x_geti (hs.k k_1) F_Ahead_66 (by decide +kernel) rfl ?_
              refine x_icmp_lt (off := 7) (tgt := 148) hf (by decide +kernel) (by decide) (fun c13 hf => ?_) (fun c13 hf => ?_)
              · refine g_iload (i := 8) (by decide +kernel) rfl ?_
                refine g_iconst (z := 1) (v := 1) (by decide +kernel) rfl ?_
                refine g_iadd (by decide +kernel) ?_
                refine g_istore (i := 8) (by decide +kernel) rfl (by decide) (ls1 := [(0, .ref 86), (1, .int p1), (2, .int q8), (3, .int p3), (4, .ref p4), (5, .int p5), (6, .int p6), (7, .int v7), (8, .int (v8 + (1 : Int32))), (9, .int y11), (10, .int v10), (11, .int y5), (12, .int q8)]) rfl ?_
                refine g_iinc (i := 10) (z := 1) (v := (v10 + (1 : Int32))) (by decide +kernel) rfl rfl rfl (by decide) (ls1 := [(0, .ref 86), (1, .int p1), (2, .int q8), (3, .int p3), (4, .ref p4), (5, .int p5), (6, .int p6), (7, .int v7), (8, .int (v8 + (1 : Int32))), (9, .int y11), (10, .int (v10 + (1 : Int32))), (11, .int y5), (12, .int q8)]) rfl ?_
                refine g_goto (off := (-127)) (tgt := 30) (by decide +kernel) (by decide) ?_
                exact am_G.forget (am_subp [0, 1, 2, 3, 4, 5, 6, 7, 8, 9, 10] rfl) (ih _ _ _ _ _ _ _ hs hf)
              · refine g_iconst (z := 0) (v := 0) (by decide +kernel) rfl ?_
                refine g_goto (off := 7) (tgt := 152) (by decide +kernel) (by decide) ?_
                refine g_istore (i := 8) (by decide +kernel) rfl (by decide) (ls1 := [(0, .ref 86), (1, .int p1), (2, .int q8), (3, .int p3), (4, .ref p4), (5, .int p5), (6, .int p6), (7, .int v7), (8, .int (0 : Int32)), (9, .int y11), (10, .int v10), (11, .int y5), (12, .int q8)]) rfl ?_
                refine g_iinc (i := 10) (z := 1) (v := (v10 + (1 : Int32))) (by decide +kernel) rfl rfl rfl (by decide) (ls1 := [(0, .ref 86), (1, .int p1), (2, .int q8), (3, .int p3), (4, .ref p4), (5, .int p5), (6, .int p6), (7, .int v7), (8, .int (0 : Int32)), (9, .int y11), (10, .int (v10 + (1 : Int32))), (11, .int y5), (12, .int q8)]) rfl ?_
                refine g_goto (off := (-127)) (tgt := 30) (by decide +kernel) (by decide) ?_
                exact am_G.forget (am_subp [0, 1, 2, 3, 4, 5, 6, 7, 8, 9, 10] rfl) (ih _ _ _ _ _ _ _ hs hf)
            · refine g_iconst (z := (-1)) (v := (-1)) (by decide +kernel) rfl ?_
              exact x_iretp hf (by decide +kernel) rfl (Nat.le_refl _) (Nat.le_refl _)
          refine p_icmp_ne (off := 15) (tgt := 110) (by decide +kernel) (by decide) (fun c9 => ?_) (fun c9 => ?_)
          · refine g_iconst (z := 0) (v := 0) (by decide +kernel) rfl ?_
            have K1 := K111
            simp only [if_neg c9] at K1
            exact am_G.forget (am_subp [0, 1, 2, 3, 4, 5, 6, 7, 8, 9, 10, 11, 12] rfl) K1
          · refine g_iload (i := 11) (by decide +kernel) rfl ?_
            refine p_if_ne (off := 10) (tgt := 110) (by decide +kernel) (by decide) (fun c10 => ?_) (fun c10 => ?_)
            · refine g_iconst (z := 0) (v := 0) (by decide +kernel) rfl ?_
              have K1 := K111
              simp only [if_pos c9, if_neg c10] at K1
              exact am_G.forget (am_subp [0, 1, 2, 3, 4, 5, 6, 7, 8, 9, 10, 11, 12] rfl) K1
            · refine g_iload (i := 9) (by decide +kernel) rfl ?_
              refine g_iconst (z := 1) (v := 1) (by decide +kernel) rfl ?_
              refine g_iadd (by decide +kernel) ?_
              refine g_goto (off := 4) (tgt := 111) (by decide +kernel) (by decide) ?_
              have K1 := K111
              simp only [if_pos c9, if_pos c10] at K1
              exact am_G.forget (am_subp [0, 1, 2, 3, 4, 5, 6, 7, 8, 9, 10, 11, 12] rfl) K1
        refine p_icmp_ge (off := 7) (tgt := 66) (by decide +kernel) (by decide) (fun c4 => ?_) (fun c4 => ?_)
        · refine g_iconst (z := 0) (v := 0) (by decide +kernel) rfl ?_
          have K1 := K67
          simp only [if_pos c4] at K1
          exact am_G.forget (am_subp [0, 1, 2, 3, 4, 5, 6, 7, 8, 9, 10] rfl) K1
        · refine g_iconst (z := 1) (v := 1) (by decide +kernel) rfl ?_
          refine g_goto (off := 4) (tgt := 67) (by decide +kernel) (by decide) ?_
          have K1 := K67
          simp only [if_neg c4] at K1
          exact am_G.forget (am_subp [0, 1, 2, 3, 4, 5, 6, 7, 8, 9, 10] rfl) K1
      · refine g_iload (i := 10) (by decide +kernel) rfl ?_
        exact x_iretp hf (by decide +kernel) rfl (Nat.le_refl _) (Nat.le_refl _)
def f_Ahead_hoursFrom (p1 : Int32) (p2 : Int32) (p3 : Int32) (p4 : Nat) (p4L : Nat) (p5 : Int32) (p6 : Int32) (h : am_H) : Option (Int32) :=
  (f_River_hourOfWeek 1 ((h.2.1 10 0) + p5) h).bind fun q1 =>
  f_Ahead_hoursFrom_L30 p1 p2 p3 p4 p4L p5 p6 am_fu p2 ((1 : Int32) <<< (p3 &&& 31)) q1 (0 : Int32) (0 : Int32) h
set_option maxRecDepth 100000 in
set_option maxHeartbeats 4000000 in
theorem t_Ahead_hoursFrom {p1 : Int32} {p2 : Int32} {p3 : Int32} {p4 : Nat} {p4L : Nat} {p5 : Int32} {p6 : Int32} {h : am_H} (hs : am_Sh h) (hp4 : am_K0[p4]? = some (.inr (.int, p4L))) {r : Int32} (hf : f_Ahead_hoursFrom p1 p2 p3 p4 p4L p5 p6 h = some r) : am_Ct 2 M_Ahead_hoursFrom [.ref 86, .int p1, .int p2, .int p3, .ref p4, .int p5, .int p6] h 0 0 (am_pI h r) := by
  unfold f_Ahead_hoursFrom at hf
  refine am_Ct.of (by decide) rfl (Nat.le_of_ble_eq_true rfl) (ls := [(0, .ref 86), (1, .int p1), (2, .int p2), (3, .int p3), (4, .ref p4), (5, .int p5), (6, .int p6)]) rfl ?_
  refine g_iconst (z := 1) (v := 1) (by decide +kernel) rfl ?_
  refine g_iload_n (i := 3) (by decide +kernel) rfl ?_
  refine g_ishl (by decide +kernel) ?_
  refine g_istore (i := 7) (by decide +kernel) rfl (by decide) (ls1 := [(0, .ref 86), (1, .int p1), (2, .int p2), (3, .int p3), (4, .ref p4), (5, .int p5), (6, .int p6), (7, .int ((1 : Int32) <<< (p3 &&& 31)))]) rfl ?_
  refine g_aload_n (i := 0) (by decide +kernel) rfl ?_
  refine x_getr (hs.k k_86) F_Ahead_25 (by decide +kernel) rfl (hs.r r_86_0) ?_
  refine g_aload_n (i := 0) (by decide +kernel) rfl ?_
  refine x_getr (hs.k k_86) F_Ahead_29 (by decide +kernel) rfl (hs.r r_86_1) ?_
  refine x_geti (hs.k k_10) F_Ahead_33 (by decide +kernel) rfl ?_
  refine g_iload (i := 5) (by decide +kernel) rfl ?_
  refine g_iadd (by decide +kernel) ?_
  refine x_callVIp (as := [.int ((h.2.1 10 0) + p5)]) Vi_River_hourOfWeek Vs_River_hourOfWeek (hs.k k_1) rfl hf (fun q hq => t_River_hourOfWeek hs (by decide) hq) Y_River_hourOfWeek L_Ahead_39 (by decide +kernel) rfl rfl (Nat.le_of_ble_eq_true rfl) (by decide) (Nat.le_refl _) (Nat.le_refl _) (fun q1 hf => ?_)
  refine g_istore (i := 8) (by decide +kernel) rfl (by decide) (ls1 := [(0, .ref 86), (1, .int p1), (2, .int p2), (3, .int p3), (4, .ref p4), (5, .int p5), (6, .int p6), (7, .int ((1 : Int32) <<< (p3 &&& 31))), (8, .int q1)]) rfl ?_
  refine g_iconst (z := 0) (v := 0) (by decide +kernel) rfl ?_
  refine g_istore (i := 9) (by decide +kernel) rfl (by decide) (ls1 := [(0, .ref 86), (1, .int p1), (2, .int p2), (3, .int p3), (4, .ref p4), (5, .int p5), (6, .int p6), (7, .int ((1 : Int32) <<< (p3 &&& 31))), (8, .int q1), (9, .int (0 : Int32))]) rfl ?_
  refine g_iconst (z := 0) (v := 0) (by decide +kernel) rfl ?_
  refine g_istore (i := 10) (by decide +kernel) rfl (by decide) (ls1 := [(0, .ref 86), (1, .int p1), (2, .int p2), (3, .int p3), (4, .ref p4), (5, .int p5), (6, .int p6), (7, .int ((1 : Int32) <<< (p3 &&& 31))), (8, .int q1), (9, .int (0 : Int32)), (10, .int (0 : Int32))]) rfl ?_
  exact am_G.forget (am_subp [0, 1, 2, 3, 4, 5, 6, 7, 8, 9, 10] rfl) (t_Ahead_hoursFrom_L30 hp4 am_fu _ _ _ _ _ _ _ hs hf)
def f_Ahead_hoursTo (p1 : Int32) (p2 : Int32) (h : am_H) : Option (Int32) :=
  (am_rd (h.2.1 12) 5 p1).bind fun x1 =>
  (f_Ahead_hoursFrom p1 ((1 : Int32) <<< (x1 &&& 31)) p2 11 6 (0 : Int32) (60 : Int32) h).bind fun q2 =>
  some q2
set_option maxRecDepth 100000 in
set_option maxHeartbeats 4000000 in
theorem t_Ahead_hoursTo {p1 : Int32} {p2 : Int32} {h : am_H} (hs : am_Sh h)  {r : Int32} (hf : f_Ahead_hoursTo p1 p2 h = some r) : am_Ct 3 M_Ahead_hoursTo [.ref 86, .int p1, .int p2] h 0 0 (am_pI h r) := by
  unfold f_Ahead_hoursTo at hf
  refine am_Ct.of (by decide) rfl (Nat.le_of_ble_eq_true rfl) (ls := [(0, .ref 86), (1, .int p1), (2, .int p2)]) rfl ?_
  refine g_aload_n (i := 0) (by decide +kernel) rfl ?_
  refine g_iload_n (i := 1) (by decide +kernel) rfl ?_
  refine g_iconst (z := 1) (v := 1) (by decide +kernel) rfl ?_
  refine g_aload_n (i := 0) (by decide +kernel) rfl ?_
  refine x_getr (hs.k k_86) F_Ahead_29 (by decide +kernel) rfl (hs.r r_86_1) ?_
  refine x_getr (hs.k k_10) F_Ahead_55 (by decide +kernel) rfl (hs.r r_10_4) ?_
  refine g_iload_n (i := 1) (by decide +kernel) rfl ?_
  refine x_iald hf (hs.k k_12) (by decide +kernel) (fun x1 hf => ?_)
  refine g_ishl (by decide +kernel) ?_
  refine g_iload_n (i := 2) (by decide +kernel) rfl ?_
  refine g_aload_n (i := 0) (by decide +kernel) rfl ?_
  refine x_getr (hs.k k_86) F_Ahead_29 (by decide +kernel) rfl (hs.r r_86_1) ?_
  refine x_getr (hs.k k_10) F_Ahead_52 (by decide +kernel) rfl (hs.r r_10_3) ?_
  refine g_iconst (z := 0) (v := 0) (by decide +kernel) rfl ?_
  refine g_bipush (z := 60) (v := 60) (by decide +kernel) rfl ?_
  refine x_callVIp (as := [.int p1, .int ((1 : Int32) <<< (x1 &&& 31)), .int p2, .ref 11, .int (0 : Int32), .int (60 : Int32)]) Vi_Ahead_hoursFrom Vs_Ahead_hoursFrom (hs.k k_86) rfl hf (fun q hq => t_Ahead_hoursFrom hs k_11 hq) Y_Ahead_hoursFrom L_Ahead_58 (by decide +kernel) rfl rfl (Nat.le_of_ble_eq_true rfl) (by decide) (Nat.le_refl _) (Nat.le_refl _) (fun q2 hf => ?_)
  exact x_iretp hf (by decide +kernel) rfl (Nat.le_refl _) (Nat.le_refl _)
def f_Top_soonest (p1 : Int32) (p2 : Int32) (h : am_H) : Option (Int32) :=
  (f_River_hasPerson 1 p1 h).bind fun q1 =>
  (if q1 = true then
    (f_River_hasSpot 1 p2 h).bind fun q3 =>
    (if q3 = true then
      (f_Ahead_hoursTo p1 p2 h).bind fun q5 =>
      some q5
    else
      some (-2 : Int32))
  else
    some (-2 : Int32))
set_option maxRecDepth 100000 in
set_option maxHeartbeats 4000000 in
theorem t_Top_soonest {p1 : Int32} {p2 : Int32} {h : am_H} (hs : am_Sh h)  {r : Int32} (hf : f_Top_soonest p1 p2 h = some r) : am_Ct 4 M_Top_soonest [.ref 0, .int p1, .int p2] h 0 0 (am_pI h r) := by
  unfold f_Top_soonest at hf
  refine am_Ct.of (by decide) rfl (Nat.le_of_ble_eq_true rfl) (ls := [(0, .ref 0), (1, .int p1), (2, .int p2)]) rfl ?_
  refine g_aload_n (i := 0) (by decide +kernel) rfl ?_
  refine x_getr (hs.k k_0) F_Top_10 (by decide +kernel) rfl (hs.r r_0_0) ?_
  refine g_iload_n (i := 1) (by decide +kernel) rfl ?_
  refine x_callVBp (as := [.int p1]) Vi_River_hasPerson Vs_River_hasPerson (hs.k k_1) rfl hf (fun q hq => t_River_hasPerson hs (by decide) hq) Y_River_hasPerson L_Top_140 (by decide +kernel) rfl rfl (Nat.le_of_ble_eq_true rfl) (by decide) (Nat.le_refl _) (Nat.le_refl _) (fun q1 hf => ?_)
  refine x_ifb_eq (off := 14) (tgt := 22) hf (by decide +kernel) (by decide) (fun c2 hf => ?_) (fun c2 hf => ?_)
  · refine g_bipush (z := (-2)) (v := (-2)) (by decide +kernel) rfl ?_
    exact x_iretp hf (by decide +kernel) rfl (Nat.le_refl _) (Nat.le_refl _)
  · refine g_aload_n (i := 0) (by decide +kernel) rfl ?_
    refine x_getr (hs.k k_0) F_Top_10 (by decide +kernel) rfl (hs.r r_0_0) ?_
    refine g_iload_n (i := 2) (by decide +kernel) rfl ?_
    refine x_callVBp (as := [.int p2]) Vi_River_hasSpot Vs_River_hasSpot (hs.k k_1) rfl hf (fun q hq => t_River_hasSpot hs (by decide) hq) Y_River_hasSpot L_Top_230 (by decide +kernel) rfl rfl (Nat.le_of_ble_eq_true rfl) (by decide) (Nat.le_refl _) (Nat.le_refl _) (fun q3 hf => ?_)
    refine x_ifb_ne (off := 6) (tgt := 25) hf (by decide +kernel) (by decide) (fun c4 hf => ?_) (fun c4 hf => ?_)
    · refine g_aload_n (i := 0) (by decide +kernel) rfl ?_
      refine x_getr (hs.k k_0) F_Top_63 (by decide +kernel) rfl (hs.r r_0_9) ?_
      refine g_iload_n (i := 1) (by decide +kernel) rfl ?_
      refine g_iload_n (i := 2) (by decide +kernel) rfl ?_
      refine x_callVIp (as := [.int p1, .int p2]) Vi_Ahead_hoursTo Vs_Ahead_hoursTo (hs.k k_86) rfl hf (fun q hq => t_Ahead_hoursTo hs  hq) Y_Ahead_hoursTo L_Top_233 (by decide +kernel) rfl rfl (Nat.le_of_ble_eq_true rfl) (by decide) (Nat.le_refl _) (Nat.le_refl _) (fun q5 hf => ?_)
      exact x_iretp hf (by decide +kernel) rfl (Nat.le_refl _) (Nat.le_refl _)
    · refine g_bipush (z := (-2)) (v := (-2)) (by decide +kernel) rfl ?_
      exact x_iretp hf (by decide +kernel) rfl (Nat.le_refl _) (Nat.le_refl _)
def f_Ahead_rowIn (p1 : Int32) (p2 : Int32) (h : am_H) : Option (Int32) :=
  (f_River_hourOfWeek 1 ((h.2.1 10 0) + p2) h).bind fun q1 =>
  (f_River_row p1 q1 (if (h.2.1 10 1) ≤ p2 then (0 : Int32) else (1 : Int32)) h).bind fun q3 =>
  some q3
set_option maxRecDepth 100000 in
set_option maxHeartbeats 4000000 in
theorem t_Ahead_rowIn {p1 : Int32} {p2 : Int32} {h : am_H} (hs : am_Sh h)  {r : Int32} (hf : f_Ahead_rowIn p1 p2 h = some r) : am_Ct 1 M_Ahead_rowIn [.ref 86, .int p1, .int p2] h 0 0 (am_pI h r) := by
  unfold f_Ahead_rowIn at hf
  refine am_Ct.of (by decide) rfl (Nat.le_of_ble_eq_true rfl) (ls := [(0, .ref 86), (1, .int p1), (2, .int p2)]) rfl ?_
  refine g_iload_n (i := 1) (by decide +kernel) rfl ?_
  refine g_aload_n (i := 0) (by decide +kernel) rfl ?_
  refine x_getr (hs.k k_86) F_Ahead_25 (by decide +kernel) rfl (hs.r r_86_0) ?_
  refine g_aload_n (i := 0) (by decide +kernel) rfl ?_
  refine x_getr (hs.k k_86) F_Ahead_29 (by decide +kernel) rfl (hs.r r_86_1) ?_
  refine x_geti (hs.k k_10) F_Ahead_33 (by decide +kernel) rfl ?_
  refine g_iload_n (i := 2) (by decide +kernel) rfl ?_
  refine g_iadd (by decide +kernel) ?_
  refine x_callVIp (as := [.int ((h.2.1 10 0) + p2)]) Vi_River_hourOfWeek Vs_River_hourOfWeek (hs.k k_1) rfl hf (fun q hq => t_River_hourOfWeek hs (by decide) hq) Y_River_hourOfWeek L_Ahead_39 (by decide +kernel) rfl rfl (Nat.le_of_ble_eq_true rfl) (by decide) (Nat.le_refl _) (Nat.le_refl _) (fun q1 hf => ?_)
  refine g_iload_n (i := 2) (by decide +kernel) rfl ?_
  refine g_aload_n (i := 0) (by decide +kernel) rfl ?_
  refine x_getr (hs.k k_86) F_Ahead_29 (by decide +kernel) rfl (hs.r r_86_1) ?_
  refine x_geti (hs.k k_10) F_Ahead_45 (by decide +kernel) rfl ?_
  refine am_cut (J := 33) (ls' := [(0, .ref 86), (1, .int p1), (2, .int p2)]) (st' := [.int (if (h.2.1 10 1) ≤ p2 then (0 : Int32) else (1 : Int32)), .int q1, .int p1]) ?_ (fun K33 => ?_)
  · refine x_callSIp (as := [.int p1, .int q1, .int (if (h.2.1 10 1) ≤ p2 then (0 : Int32) else (1 : Int32))]) St_River_row hf (fun q hq => t_River_row hs  hq) Y_River_row L_Ahead_48 (by decide +kernel) rfl rfl (Nat.le_of_ble_eq_true rfl) (by decide) (Nat.le_refl _) (Nat.le_refl _) (fun q3 hf => ?_)
    exact x_iretp hf (by decide +kernel) rfl (Nat.le_refl _) (Nat.le_refl _)
  refine p_icmp_ge (off := 7) (tgt := 32) (by decide +kernel) (by decide) (fun c2 => ?_) (fun c2 => ?_)
  · refine g_iconst (z := 0) (v := 0) (by decide +kernel) rfl ?_
    have K1 := K33
    simp only [if_pos c2] at K1
    exact am_G.forget (am_subp [0, 1, 2] rfl) K1
  · refine g_iconst (z := 1) (v := 1) (by decide +kernel) rfl ?_
    refine g_goto (off := 4) (tgt := 33) (by decide +kernel) (by decide) ?_
    have K1 := K33
    simp only [if_neg c2] at K1
    exact am_G.forget (am_subp [0, 1, 2] rfl) K1
def f_Ahead_liesIn (p1 : Int32) (h : am_H) : Option (Int32) :=
  (f_River_hourOfWeek 1 ((h.2.1 10 0) + p1) h).bind fun q1 =>
  (am_rd (h.2.1 11) 6 q1).bind fun x2 =>
  some x2
set_option maxRecDepth 100000 in
set_option maxHeartbeats 4000000 in
theorem t_Ahead_liesIn {p1 : Int32} {h : am_H} (hs : am_Sh h)  {r : Int32} (hf : f_Ahead_liesIn p1 h = some r) : am_Ct 1 M_Ahead_liesIn [.ref 86, .int p1] h 0 0 (am_pI h r) := by
  unfold f_Ahead_liesIn at hf
  refine am_Ct.of (by decide) rfl (Nat.le_of_ble_eq_true rfl) (ls := [(0, .ref 86), (1, .int p1)]) rfl ?_
  refine g_aload_n (i := 0) (by decide +kernel) rfl ?_
  refine x_getr (hs.k k_86) F_Ahead_29 (by decide +kernel) rfl (hs.r r_86_1) ?_
  refine x_getr (hs.k k_10) F_Ahead_52 (by decide +kernel) rfl (hs.r r_10_3) ?_
  refine g_aload_n (i := 0) (by decide +kernel) rfl ?_
  refine x_getr (hs.k k_86) F_Ahead_25 (by decide +kernel) rfl (hs.r r_86_0) ?_
  refine g_aload_n (i := 0) (by decide +kernel) rfl ?_
  refine x_getr (hs.k k_86) F_Ahead_29 (by decide +kernel) rfl (hs.r r_86_1) ?_
  refine x_geti (hs.k k_10) F_Ahead_33 (by decide +kernel) rfl ?_
  refine g_iload_n (i := 1) (by decide +kernel) rfl ?_
  refine g_iadd (by decide +kernel) ?_
  refine x_callVIp (as := [.int ((h.2.1 10 0) + p1)]) Vi_River_hourOfWeek Vs_River_hourOfWeek (hs.k k_1) rfl hf (fun q hq => t_River_hourOfWeek hs (by decide) hq) Y_River_hourOfWeek L_Ahead_39 (by decide +kernel) rfl rfl (Nat.le_of_ble_eq_true rfl) (by decide) (Nat.le_refl _) (Nat.le_refl _) (fun q1 hf => ?_)
  refine x_iald hf (hs.k k_11) (by decide +kernel) (fun x2 hf => ?_)
  exact x_iretp hf (by decide +kernel) rfl (Nat.le_refl _) (Nat.le_refl _)
def f_River_gather (o : Nat) (p1 : Int32) (p2 : Int32) (p3 : Int32) (h : am_H) : Option (Int32) :=
  (am_rd (h.2.1 (o + 6)) 60 p1).bind fun x1 =>
  (am_rd (h.2.1 (o + 7)) 60 p1).bind fun x2 =>
  (f_River_joined o p1 p2 p3 h).bind fun q3 =>
  some (((p2 ||| ((p2 >>> ((2 : Int32) &&& 31)) &&& x1)) ||| ((p2 <<< ((2 : Int32) &&& 31)) &&& x2)) ||| q3)
set_option maxRecDepth 100000 in
set_option maxHeartbeats 4000000 in
theorem t_River_gather {o : Nat} {p1 : Int32} {p2 : Int32} {p3 : Int32} {h : am_H} (hs : am_Sh h) (ho : o ∈ am_rvL) {r : Int32} (hf : f_River_gather o p1 p2 p3 h = some r) : am_Ct 1 M_River_gather [.ref o, .int p1, .int p2, .int p3] h 0 0 (am_pI h r) := by
  unfold f_River_gather at hf
  refine am_Ct.of (by decide) rfl (Nat.le_of_ble_eq_true rfl) (ls := [(0, .ref o), (1, .int p1), (2, .int p2), (3, .int p3)]) rfl ?_
  refine g_iload_n (i := 2) (by decide +kernel) rfl ?_
  refine g_iload_n (i := 2) (by decide +kernel) rfl ?_
  refine g_iconst (z := 2) (v := 2) (by decide +kernel) rfl ?_
  refine g_ishr (by decide +kernel) ?_
  refine g_aload_n (i := 0) (by decide +kernel) rfl ?_
  refine x_getr (hs.k (k_Rv ho)) F_River_46 (by decide +kernel) rfl (hs.r (r_Rv_11 ho)) ?_
  refine g_iload_n (i := 1) (by decide +kernel) rfl ?_
  refine x_iald hf (hs.k (k_Rv_11 ho)) (by decide +kernel) (fun x1 hf => ?_)
  refine g_iand (by decide +kernel) ?_
  refine g_ior (by decide +kernel) ?_
  refine g_iload_n (i := 2) (by decide +kernel) rfl ?_
  refine g_iconst (z := 2) (v := 2) (by decide +kernel) rfl ?_
  refine g_ishl (by decide +kernel) ?_
  refine g_aload_n (i := 0) (by decide +kernel) rfl ?_
  refine x_getr (hs.k (k_Rv ho)) F_River_49 (by decide +kernel) rfl (hs.r (r_Rv_12 ho)) ?_
  refine g_iload_n (i := 1) (by decide +kernel) rfl ?_
  refine x_iald hf (hs.k (k_Rv_12 ho)) (by decide +kernel) (fun x2 hf => ?_)
  refine g_iand (by decide +kernel) ?_
  refine g_ior (by decide +kernel) ?_
  refine g_aload_n (i := 0) (by decide +kernel) rfl ?_
  refine g_iload_n (i := 1) (by decide +kernel) rfl ?_
  refine g_iload_n (i := 2) (by decide +kernel) rfl ?_
  refine g_iload_n (i := 3) (by decide +kernel) rfl ?_
  refine x_callVIp (as := [.int p1, .int p2, .int p3]) Vi_River_joined Vs_River_joined (hs.k (k_Rv ho)) rfl hf (fun q hq => t_River_joined hs ho hq) Y_River_joined L_River_96 (by decide +kernel) rfl rfl (Nat.le_of_ble_eq_true rfl) (by decide) (Nat.le_refl _) (Nat.le_refl _) (fun q3 hf => ?_)
  refine g_ior (by decide +kernel) ?_
  exact x_iretp hf (by decide +kernel) rfl (Nat.le_refl _) (Nat.le_refl _)
def f_Ahead_firstActInto_L3 (p1 : Int32) (p2 : Int32) (p3 : Int32) (p4 : Int32) : Nat → Int32 → am_H → Option (Int32)
  | 0, _, _ => none
  | n + 1, v5, h =>
    (if (7 : Int32) ≤ v5 then
      some (0 : Int32)
    else
      (f_River_hindrance 1 p1 p2 v5 p3 h).bind fun q2 =>
      (if q2 = 0 then
        (f_River_moved p2 v5 p3 h).bind fun q4 =>
        (f_Top_hasBit p4 q4 h).bind fun q5 =>
        (if q5 = true then
          some v5
        else
          f_Ahead_firstActInto_L3 p1 p2 p3 p4 n (v5 + (1 : Int32)) h)
      else
        f_Ahead_firstActInto_L3 p1 p2 p3 p4 n (v5 + (1 : Int32)) h))
set_option maxRecDepth 100000 in
set_option maxHeartbeats 4000000 in
theorem t_Ahead_firstActInto_L3 {p1 : Int32} {p2 : Int32} {p3 : Int32} {p4 : Int32}  : ∀ (n : Nat) (v5 : Int32) (h : am_H) (r : Int32), am_Sh h → f_Ahead_firstActInto_L3 p1 p2 p3 p4 n v5 h = some r → am_G 2 M_Ahead_firstActInto 0 0 (am_pI h r) 3 [(0, .ref 86), (1, .int p1), (2, .int p2), (3, .int p3), (4, .int p4), (5, .int v5)] [] h 0 0 := by
  intro n
  induction n with
  | zero =>
    intro v5 h r hs hf
    rw [f_Ahead_firstActInto_L3] at hf
    cases hf
  | succ n ih =>
    intro v5 h r hs hf
    rw [f_Ahead_firstActInto_L3] at hf
    refine g_iload (i := 5) (by decide +kernel) rfl ?_
    refine g_bipush (z := 7) (v := 7) (by decide +kernel) rfl ?_
    refine x_icmp_ge (off := 42) (tgt := 49) hf (by decide +kernel) (by decide) (fun c1 hf => ?_) (fun c1 hf => ?_)
    · refine g_iconst (z := 0) (v := 0) (by decide +kernel) rfl ?_
      exact x_iretp hf (by decide +kernel) rfl (Nat.le_refl _) (Nat.le_refl _)
    · refine g_aload_n (i := 0) (by decide +kernel) rfl ?_
      refine x_getr (hs.k k_86) F_Ahead_25 (by decide +kernel) rfl (hs.r r_86_0) ?_
      refine g_iload_n (i := 1) (by decide +kernel) rfl ?_
      refine g_iload_n (i := 2) (by decide +kernel) rfl ?_
      refine g_iload (i := 5) (by decide +kernel) rfl ?_
      refine g_iload_n (i := 3) (by decide +kernel) rfl ?_
      refine x_callVIp (as := [.int p1, .int p2, .int v5, .int p3]) Vi_River_hindrance Vs_River_hindrance (hs.k k_1) rfl hf (fun q hq => t_River_hindrance hs (by decide) hq) Y_River_hindrance L_Ahead_89 (by decide +kernel) rfl rfl (Nat.le_of_ble_eq_true rfl) (by decide) (Nat.le_refl _) (Nat.le_refl _) (fun q2 hf => ?_)
      refine x_if_ne (off := 21) (tgt := 43) hf (by decide +kernel) (by decide) (fun c3 hf => ?_) (fun c3 hf => ?_)
      · refine g_iinc (i := 5) (z := 1) (v := (v5 + (1 : Int32))) (by decide +kernel) rfl rfl rfl (by decide) (ls1 := [(0, .ref 86), (1, .int p1), (2, .int p2), (3, .int p3), (4, .int p4), (5, .int (v5 + (1 : Int32)))]) rfl ?_
        refine g_goto (off := (-43)) (tgt := 3) (by decide +kernel) (by decide) ?_
        exact am_G.forget (am_subp [0, 1, 2, 3, 4, 5] rfl) (ih _ _ _ hs hf)
      · refine g_iload (i := 4) (by decide +kernel) rfl ?_
        refine g_iload_n (i := 2) (by decide +kernel) rfl ?_
        refine g_iload (i := 5) (by decide +kernel) rfl ?_
        refine g_iload_n (i := 3) (by decide +kernel) rfl ?_
        refine x_callSIp (as := [.int p2, .int v5, .int p3]) St_River_moved hf (fun q hq => t_River_moved hs  hq) Y_River_moved L_Ahead_86 (by decide +kernel) rfl rfl (Nat.le_of_ble_eq_true rfl) (by decide) (Nat.le_refl _) (Nat.le_refl _) (fun q4 hf => ?_)
        refine x_callSNBp (as := [.int p4, .int q4]) St_Top_hasBit hf (fun q hq => t_Top_hasBit hs  hq) Y_Top_hasBit L_Ahead_92 (by decide +kernel) rfl rfl (Nat.le_of_ble_eq_true rfl) (by decide) (Nat.le_refl _) (Nat.le_refl _) (fun q5 hf => ?_)
        refine x_ifb_eq (off := 6) (tgt := 43) hf (by decide +kernel) (by decide) (fun c6 hf => ?_) (fun c6 hf => ?_)
        · refine g_iinc (i := 5) (z := 1) (v := (v5 + (1 : Int32))) (by decide +kernel) rfl rfl rfl (by decide) (ls1 := [(0, .ref 86), (1, .int p1), (2, .int p2), (3, .int p3), (4, .int p4), (5, .int (v5 + (1 : Int32)))]) rfl ?_
          refine g_goto (off := (-43)) (tgt := 3) (by decide +kernel) (by decide) ?_
          exact am_G.forget (am_subp [0, 1, 2, 3, 4, 5] rfl) (ih _ _ _ hs hf)
        · refine g_iload (i := 5) (by decide +kernel) rfl ?_
          exact x_iretp hf (by decide +kernel) rfl (Nat.le_refl _) (Nat.le_refl _)
def f_Ahead_firstActInto (p1 : Int32) (p2 : Int32) (p3 : Int32) (p4 : Int32) (h : am_H) : Option (Int32) :=
  f_Ahead_firstActInto_L3 p1 p2 p3 p4 am_fu (0 : Int32) h
set_option maxRecDepth 100000 in
set_option maxHeartbeats 4000000 in
theorem t_Ahead_firstActInto {p1 : Int32} {p2 : Int32} {p3 : Int32} {p4 : Int32} {h : am_H} (hs : am_Sh h)  {r : Int32} (hf : f_Ahead_firstActInto p1 p2 p3 p4 h = some r) : am_Ct 2 M_Ahead_firstActInto [.ref 86, .int p1, .int p2, .int p3, .int p4] h 0 0 (am_pI h r) := by
  unfold f_Ahead_firstActInto at hf
  refine am_Ct.of (by decide) rfl (Nat.le_of_ble_eq_true rfl) (ls := [(0, .ref 86), (1, .int p1), (2, .int p2), (3, .int p3), (4, .int p4)]) rfl ?_
  refine g_iconst (z := 0) (v := 0) (by decide +kernel) rfl ?_
  refine g_istore (i := 5) (by decide +kernel) rfl (by decide) (ls1 := [(0, .ref 86), (1, .int p1), (2, .int p2), (3, .int p3), (4, .int p4), (5, .int (0 : Int32))]) rfl ?_
  exact am_G.forget (am_subp [0, 1, 2, 3, 4, 5] rfl) (t_Ahead_firstActInto_L3  am_fu _ _ _ hs hf)
def f_Ahead_findWay_L28 (p1 : Int32) (p2 : Int32) : Nat → Int32 → Int32 → am_H → Option (Int32 × am_H)
  | 0, _, _, _ => none
  | n + 1, v3, v4, h =>
    (if v4 < 0 then
      some (v4, h)
    else
      (f_Ahead_rowIn p1 v4 h).bind fun q5 =>
      (am_rd (h.2.1 87) 61 (v4 + (1 : Int32))).bind fun x6 =>
      (f_Ahead_liesIn v4 h).bind fun q7 =>
      (f_River_gather 1 q5 x6 q7 h).bind fun q8 =>
      (am_wr h 87 61 v4 q8).bind fun h9 =>
      f_Ahead_findWay_L28 p1 p2 n v3 (v4 + (-1 : Int32)) h9)
set_option maxRecDepth 100000 in
set_option maxHeartbeats 4000000 in
theorem t_Ahead_findWay_L28 {p1 : Int32} {p2 : Int32}  {Q : Option Value → am_H → Prop} : ∀ (n : Nat) (v3 : Int32) (v4 : Int32) (h : am_H) (q : Int32 × am_H), am_Sh h → f_Ahead_findWay_L28 p1 p2 n v3 v4 h = some q → (am_Sh q.2 → am_G 4 M_Ahead_findWay 0 0 Q 75 [(0, .ref 86), (1, .int p1), (2, .int p2), (3, .int v3), (4, .int q.1)] [] q.2 0 0) → am_G 4 M_Ahead_findWay 0 0 Q 28 [(0, .ref 86), (1, .int p1), (2, .int p2), (3, .int v3), (4, .int v4)] [] h 0 0 := by
  intro n
  induction n with
  | zero =>
    intro v3 v4 h q hs hf kont
    rw [f_Ahead_findWay_L28] at hf
    cases hf
  | succ n ih =>
    intro v3 v4 h q hs hf kont
    rw [f_Ahead_findWay_L28] at hf
    refine g_iload (i := 4) (by decide +kernel) rfl ?_
    refine x_if_lt (off := 45) (tgt := 75) hf (by decide +kernel) (by decide) (fun c4 hf => ?_) (fun c4 hf => ?_)
    · cases hf
      exact am_G.forget (am_subp [0, 1, 2, 3, 4] rfl) (kont hs)
    · refine g_aload_n (i := 0) (by decide +kernel) rfl ?_
      refine x_getr (hs.k k_86) F_Ahead_9 (by decide +kernel) rfl (hs.r r_86_2) ?_
      refine g_iload (i := 4) (by decide +kernel) rfl ?_
      refine g_aload_n (i := 0) (by decide +kernel) rfl ?_
      refine x_getr (hs.k k_86) F_Ahead_25 (by decide +kernel) rfl (hs.r r_86_0) ?_
      refine g_aload_n (i := 0) (by decide +kernel) rfl ?_
      refine g_iload_n (i := 1) (by decide +kernel) rfl ?_
      refine g_iload (i := 4) (by decide +kernel) rfl ?_
      refine x_callVIp (as := [.int p1, .int v4]) Vi_Ahead_rowIn Vs_Ahead_rowIn (hs.k k_86) rfl hf (fun q hq => t_Ahead_rowIn hs  hq) Y_Ahead_rowIn L_Ahead_69 (by decide +kernel) rfl rfl (Nat.le_of_ble_eq_true rfl) (by decide) (Nat.le_refl _) (Nat.le_refl _) (fun q5 hf => ?_)
      refine g_aload_n (i := 0) (by decide +kernel) rfl ?_
      refine x_getr (hs.k k_86) F_Ahead_9 (by decide +kernel) rfl (hs.r r_86_2) ?_
      refine g_iload (i := 4) (by decide +kernel) rfl ?_
      refine g_iconst (z := 1) (v := 1) (by decide +kernel) rfl ?_
      refine g_iadd (by decide +kernel) ?_
      refine x_iald hf (hs.k k_87) (by decide +kernel) (fun x6 hf => ?_)
      refine g_aload_n (i := 0) (by decide +kernel) rfl ?_
      refine g_iload (i := 4) (by decide +kernel) rfl ?_
      refine x_callVIp (as := [.int v4]) Vi_Ahead_liesIn Vs_Ahead_liesIn (hs.k k_86) rfl hf (fun q hq => t_Ahead_liesIn hs  hq) Y_Ahead_liesIn L_Ahead_73 (by decide +kernel) rfl rfl (Nat.le_of_ble_eq_true rfl) (by decide) (Nat.le_refl _) (Nat.le_refl _) (fun q7 hf => ?_)
      refine x_callVIp (as := [.int q5, .int x6, .int q7]) Vi_River_gather Vs_River_gather (hs.k k_1) rfl hf (fun q hq => t_River_gather hs (by decide) hq) Y_River_gather L_Ahead_79 (by decide +kernel) rfl rfl (Nat.le_of_ble_eq_true rfl) (by decide) (Nat.le_refl _) (Nat.le_refl _) (fun q8 hf => ?_)
      refine x_iast hf hs (hs.k k_87) (by decide +kernel) (fun h9 hf hs => ?_)
      refine g_iinc (i := 4) (z := (-1)) (v := (v4 + (-1 : Int32))) (by decide +kernel) rfl rfl rfl (by decide) (ls1 := [(0, .ref 86), (1, .int p1), (2, .int p2), (3, .int v3), (4, .int (v4 + (-1 : Int32)))]) rfl ?_
      refine g_goto (off := (-44)) (tgt := 28) (by decide +kernel) (by decide) ?_
      exact am_G.forget (am_subp [0, 1, 2, 3, 4] rfl) (ih _ _ _ _ hs hf kont)
def f_Ahead_findWay_L89 (p1 : Int32) (p2 : Int32) : Nat → Int32 → Int32 → Int32 → am_H → Option (Int32 × Int32 × am_H)
  | 0, _, _, _, _ => none
  | n + 1, v3, v4, v5, h =>
    (if v3 ≤ v5 then
      some (v4, v5, h)
    else
      (f_Ahead_rowIn p1 v5 h).bind fun q13 =>
      (f_Ahead_liesIn v5 h).bind fun q14 =>
      (am_rd (h.2.1 87) 61 (v5 + (1 : Int32))).bind fun x15 =>
      (f_Ahead_firstActInto q13 v4 q14 x15 h).bind fun q16 =>
      (am_wr h 88 60 v5 q16).bind fun h17 =>
      (am_rd (h17.2.1 88) 60 v5).bind fun x18 =>
      (f_Ahead_liesIn v5 h17).bind fun q19 =>
      (f_River_moved v4 x18 q19 h17).bind fun q20 =>
      f_Ahead_findWay_L89 p1 p2 n v3 q20 (v5 + (1 : Int32)) h17)
set_option maxRecDepth 100000 in
set_option maxHeartbeats 4000000 in
theorem t_Ahead_findWay_L89 {p1 : Int32} {p2 : Int32}  {Q : Option Value → am_H → Prop} : ∀ (n : Nat) (v3 : Int32) (v4 : Int32) (v5 : Int32) (h : am_H) (q : Int32 × Int32 × am_H), am_Sh h → f_Ahead_findWay_L89 p1 p2 n v3 v4 v5 h = some q → (am_Sh q.2.2 → am_G 4 M_Ahead_findWay 0 0 Q 156 [(0, .ref 86), (1, .int p1), (2, .int p2), (3, .int v3), (4, .int q.1), (5, .int q.2.1)] [] q.2.2 0 0) → am_G 4 M_Ahead_findWay 0 0 Q 89 [(0, .ref 86), (1, .int p1), (2, .int p2), (3, .int v3), (4, .int v4), (5, .int v5)] [] h 0 0 := by
  intro n
  induction n with
  | zero =>
    intro v3 v4 v5 h q hs hf kont
    rw [f_Ahead_findWay_L89] at hf
    cases hf
  | succ n ih =>
    intro v3 v4 v5 h q hs hf kont
    rw [f_Ahead_findWay_L89] at hf
    refine g_iload (i := 5) (by decide +kernel) rfl ?_
    refine g_iload_n (i := 3) (by decide +kernel) rfl ?_
    refine x_icmp_ge (off := 64) (tgt := 156) hf (by decide +kernel) (by decide) (fun c12 hf => ?_) (fun c12 hf => ?_)
    · cases hf
      exact am_G.forget (am_subp [0, 1, 2, 3, 4, 5] rfl) (kont hs)
    · refine g_aload_n (i := 0) (by decide +kernel) rfl ?_
      refine x_getr (hs.k k_86) F_Ahead_15 (by decide +kernel) rfl (hs.r r_86_3) ?_
      refine g_iload (i := 5) (by decide +kernel) rfl ?_
      refine g_aload_n (i := 0) (by decide +kernel) rfl ?_
      refine g_aload_n (i := 0) (by decide +kernel) rfl ?_
      refine g_iload_n (i := 1) (by decide +kernel) rfl ?_
      refine g_iload (i := 5) (by decide +kernel) rfl ?_
      refine x_callVIp (as := [.int p1, .int v5]) Vi_Ahead_rowIn Vs_Ahead_rowIn (hs.k k_86) rfl hf (fun q hq => t_Ahead_rowIn hs  hq) Y_Ahead_rowIn L_Ahead_69 (by decide +kernel) rfl rfl (Nat.le_of_ble_eq_true rfl) (by decide) (Nat.le_refl _) (Nat.le_refl _) (fun q13 hf => ?_)
      refine g_iload (i := 4) (by decide +kernel) rfl ?_
      refine g_aload_n (i := 0) (by decide +kernel) rfl ?_
      refine g_iload (i := 5) (by decide +kernel) rfl ?_
      refine x_callVIp (as := [.int v5]) Vi_Ahead_liesIn Vs_Ahead_liesIn (hs.k k_86) rfl hf (fun q hq => t_Ahead_liesIn hs  hq) Y_Ahead_liesIn L_Ahead_73 (by decide +kernel) rfl rfl (Nat.le_of_ble_eq_true rfl) (by decide) (Nat.le_refl _) (Nat.le_refl _) (fun q14 hf => ?_)
      refine g_aload_n (i := 0) (by decide +kernel) rfl ?_
      refine x_getr (hs.k k_86) F_Ahead_9 (by decide +kernel) rfl (hs.r r_86_2) ?_
      refine g_iload (i := 5) (by decide +kernel) rfl ?_
      refine g_iconst (z := 1) (v := 1) (by decide +kernel) rfl ?_
      refine g_iadd (by decide +kernel) ?_
      refine x_iald hf (hs.k k_87) (by decide +kernel) (fun x15 hf => ?_)
      refine x_callVIp (as := [.int q13, .int v4, .int q14, .int x15]) Vi_Ahead_firstActInto Vs_Ahead_firstActInto (hs.k k_86) rfl hf (fun q hq => t_Ahead_firstActInto hs  hq) Y_Ahead_firstActInto L_Ahead_82 (by decide +kernel) rfl rfl (Nat.le_of_ble_eq_true rfl) (by decide) (Nat.le_refl _) (Nat.le_refl _) (fun q16 hf => ?_)
      refine x_iast hf hs (hs.k k_88) (by decide +kernel) (fun h17 hf hs => ?_)
      refine g_iload (i := 4) (by decide +kernel) rfl ?_
      refine g_aload_n (i := 0) (by decide +kernel) rfl ?_
      refine x_getr (hs.k k_86) F_Ahead_15 (by decide +kernel) rfl (hs.r r_86_3) ?_
      refine g_iload (i := 5) (by decide +kernel) rfl ?_
      refine x_iald hf (hs.k k_88) (by decide +kernel) (fun x18 hf => ?_)
      refine g_aload_n (i := 0) (by decide +kernel) rfl ?_
      refine g_iload (i := 5) (by decide +kernel) rfl ?_
      refine x_callVIp (as := [.int v5]) Vi_Ahead_liesIn Vs_Ahead_liesIn (hs.k k_86) rfl hf (fun q hq => t_Ahead_liesIn hs  hq) Y_Ahead_liesIn L_Ahead_73 (by decide +kernel) rfl rfl (Nat.le_of_ble_eq_true rfl) (by decide) (Nat.le_refl _) (Nat.le_refl _) (fun q19 hf => ?_)
      refine x_callSIp (as := [.int v4, .int x18, .int q19]) St_River_moved hf (fun q hq => t_River_moved hs  hq) Y_River_moved L_Ahead_86 (by decide +kernel) rfl rfl (Nat.le_of_ble_eq_true rfl) (by decide) (Nat.le_refl _) (Nat.le_refl _) (fun q20 hf => ?_)
      refine g_istore (i := 4) (by decide +kernel) rfl (by decide) (ls1 := [(0, .ref 86), (1, .int p1), (2, .int p2), (3, .int v3), (4, .int q20), (5, .int v5)]) rfl ?_
      refine g_iinc (i := 5) (z := 1) (v := (v5 + (1 : Int32))) (by decide +kernel) rfl rfl rfl (by decide) (ls1 := [(0, .ref 86), (1, .int p1), (2, .int p2), (3, .int v3), (4, .int q20), (5, .int (v5 + (1 : Int32)))]) rfl ?_
      refine g_goto (off := (-64)) (tgt := 89) (by decide +kernel) (by decide) ?_
      exact am_G.forget (am_subp [0, 1, 2, 3, 4, 5] rfl) (ih _ _ _ _ _ hs hf kont)
def f_Ahead_findWay (p1 : Int32) (p2 : Int32) (h : am_H) : Option (Int32 × am_H) :=
  (f_Ahead_hoursTo p1 p2 h).bind fun q1 =>
  (if q1 = (-1 : Int32) then
    some ((-1 : Int32), h)
  else
    (am_wr h 87 61 q1 ((1 : Int32) <<< (p2 &&& 31))).bind fun h3 =>
    (f_Ahead_findWay_L28 p1 p2 am_fu q1 (q1 - (1 : Int32)) h3).bind fun q10 =>
    (am_rd (q10.2.2.1 12) 5 p1).bind fun x11 =>
    (f_Ahead_findWay_L89 p1 p2 am_fu q1 x11 (0 : Int32) q10.2).bind fun q21 =>
    some (q1, q21.2.2))
set_option maxRecDepth 100000 in
set_option maxHeartbeats 4000000 in
theorem t_Ahead_findWay {p1 : Int32} {p2 : Int32} {h : am_H} (hs : am_Sh h)  {r : Int32 × am_H} (hf : f_Ahead_findWay p1 p2 h = some r) : am_Ct 4 M_Ahead_findWay [.ref 86, .int p1, .int p2] h 0 0 (am_qI r) := by
  unfold f_Ahead_findWay at hf
  refine am_Ct.of (by decide) rfl (Nat.le_of_ble_eq_true rfl) (ls := [(0, .ref 86), (1, .int p1), (2, .int p2)]) rfl ?_
  refine g_aload_n (i := 0) (by decide +kernel) rfl ?_
  refine g_iload_n (i := 1) (by decide +kernel) rfl ?_
  refine g_iload_n (i := 2) (by decide +kernel) rfl ?_
  refine x_callVIp (as := [.int p1, .int p2]) Vi_Ahead_hoursTo Vs_Ahead_hoursTo (hs.k k_86) rfl hf (fun q hq => t_Ahead_hoursTo hs  hq) Y_Ahead_hoursTo L_Ahead_76 (by decide +kernel) rfl rfl (Nat.le_of_ble_eq_true rfl) (by decide) (Nat.le_refl _) (Nat.le_refl _) (fun q1 hf => ?_)
  refine g_istore_n (i := 3) (by decide +kernel) rfl (by decide) (ls1 := [(0, .ref 86), (1, .int p1), (2, .int p2), (3, .int q1)]) rfl ?_
  refine g_iload_n (i := 3) (by decide +kernel) rfl ?_
  refine g_iconst (z := (-1)) (v := (-1)) (by decide +kernel) rfl ?_
  refine x_icmp_ne (off := 5) (tgt := 14) hf (by decide +kernel) (by decide) (fun c2 hf => ?_) (fun c2 hf => ?_)
  · refine g_aload_n (i := 0) (by decide +kernel) rfl ?_
    refine x_getr (hs.k k_86) F_Ahead_9 (by decide +kernel) rfl (hs.r r_86_2) ?_
    refine g_iload_n (i := 3) (by decide +kernel) rfl ?_
    refine g_iconst (z := 1) (v := 1) (by decide +kernel) rfl ?_
    refine g_iload_n (i := 2) (by decide +kernel) rfl ?_
    refine g_ishl (by decide +kernel) ?_
    refine x_iast hf hs (hs.k k_87) (by decide +kernel) (fun h3 hf hs => ?_)
    refine g_iload_n (i := 3) (by decide +kernel) rfl ?_
    refine g_iconst (z := 1) (v := 1) (by decide +kernel) rfl ?_
    refine g_isub (by decide +kernel) ?_
    refine g_istore (i := 4) (by decide +kernel) rfl (by decide) (ls1 := [(0, .ref 86), (1, .int p1), (2, .int p2), (3, .int q1), (4, .int (q1 - (1 : Int32)))]) rfl ?_
    obtain ⟨q10, hqq10, hf⟩ := Option.bind_eq_some_iff.mp hf
    refine am_G.forget (am_subp [0, 1, 2, 3, 4] rfl) (t_Ahead_findWay_L28  am_fu _ _ _ q10 hs hqq10 (fun hs => ?_))
    refine g_aload_n (i := 0) (by decide +kernel) rfl ?_
    refine x_getr (hs.k k_86) F_Ahead_29 (by decide +kernel) rfl (hs.r r_86_1) ?_
    refine x_getr (hs.k k_10) F_Ahead_55 (by decide +kernel) rfl (hs.r r_10_4) ?_
    refine g_iload_n (i := 1) (by decide +kernel) rfl ?_
    refine x_iald hf (hs.k k_12) (by decide +kernel) (fun x11 hf => ?_)
    refine g_istore (i := 4) (by decide +kernel) rfl (by decide) (ls1 := [(0, .ref 86), (1, .int p1), (2, .int p2), (3, .int q1), (4, .int x11)]) rfl ?_
    refine g_iconst (z := 0) (v := 0) (by decide +kernel) rfl ?_
    refine g_istore (i := 5) (by decide +kernel) rfl (by decide) (ls1 := [(0, .ref 86), (1, .int p1), (2, .int p2), (3, .int q1), (4, .int x11), (5, .int (0 : Int32))]) rfl ?_
    obtain ⟨q21, hqq21, hf⟩ := Option.bind_eq_some_iff.mp hf
    refine am_G.forget (am_subp [0, 1, 2, 3, 4, 5] rfl) (t_Ahead_findWay_L89  am_fu _ _ _ _ q21 hs hqq21 (fun hs => ?_))
    refine g_iload_n (i := 3) (by decide +kernel) rfl ?_
    exact x_iret hf hs (by decide +kernel) rfl (Nat.le_refl _) (Nat.le_refl _)
  · refine g_iconst (z := (-1)) (v := (-1)) (by decide +kernel) rfl ?_
    exact x_iret hf hs (by decide +kernel) rfl (Nat.le_refl _) (Nat.le_refl _)
def f_Ahead_actAt (p1 : Int32) (h : am_H) : Option (Int32) :=
  (if p1 < 0 then
    some (-1 : Int32)
  else
    (if (Int32.ofNat 60) ≤ p1 then
      some (-1 : Int32)
    else
      (am_rd (h.2.1 88) 60 p1).bind fun x3 =>
      some x3))
set_option maxRecDepth 100000 in
set_option maxHeartbeats 4000000 in
theorem t_Ahead_actAt {p1 : Int32} {h : am_H} (hs : am_Sh h)  {r : Int32} (hf : f_Ahead_actAt p1 h = some r) : am_Ct 0 M_Ahead_actAt [.ref 86, .int p1] h 0 0 (am_pI h r) := by
  unfold f_Ahead_actAt at hf
  refine am_Ct.of (by decide) rfl (Nat.le_of_ble_eq_true rfl) (ls := [(0, .ref 86), (1, .int p1)]) rfl ?_
  refine g_iload_n (i := 1) (by decide +kernel) rfl ?_
  refine x_if_lt (off := 21) (tgt := 22) hf (by decide +kernel) (by decide) (fun c1 hf => ?_) (fun c1 hf => ?_)
  · refine g_iconst (z := (-1)) (v := (-1)) (by decide +kernel) rfl ?_
    exact x_iretp hf (by decide +kernel) rfl (Nat.le_refl _) (Nat.le_refl _)
  · refine g_iload_n (i := 1) (by decide +kernel) rfl ?_
    refine g_aload_n (i := 0) (by decide +kernel) rfl ?_
    refine x_getr (hs.k k_86) F_Ahead_15 (by decide +kernel) rfl (hs.r r_86_3) ?_
    refine g_alen (t0 := 0) (hs.k k_88) rfl rfl (by decide +kernel) ?_
    refine x_icmp_ge (off := 12) (tgt := 22) hf (by decide +kernel) (by decide) (fun c2 hf => ?_) (fun c2 hf => ?_)
    · refine g_iconst (z := (-1)) (v := (-1)) (by decide +kernel) rfl ?_
      exact x_iretp hf (by decide +kernel) rfl (Nat.le_refl _) (Nat.le_refl _)
    · refine g_aload_n (i := 0) (by decide +kernel) rfl ?_
      refine x_getr (hs.k k_86) F_Ahead_15 (by decide +kernel) rfl (hs.r r_86_3) ?_
      refine g_iload_n (i := 1) (by decide +kernel) rfl ?_
      refine x_iald hf (hs.k k_88) (by decide +kernel) (fun x3 hf => ?_)
      refine g_goto (off := 4) (tgt := 23) (by decide +kernel) (by decide) ?_
      exact x_iretp hf (by decide +kernel) rfl (Nat.le_refl _) (Nat.le_refl _)
def f_Top_way (p1 : Int32) (p2 : Int32) (p3 : Int32) (h : am_H) : Option (Int32 × am_H) :=
  (f_River_hasPerson 1 p1 h).bind fun q1 =>
  (if q1 = true then
    (f_River_hasSpot 1 p2 h).bind fun q3 =>
    (if q3 = true then
      (if 0 ≤ p3 then
        (f_Ahead_findWay p1 p2 h).bind fun q6 =>
        (if q6.1 ≤ p3 then
          some ((-1 : Int32), q6.2)
        else
          (f_Ahead_actAt p3 q6.2).bind fun q8 =>
          some (q8, q6.2))
      else
        some ((-3 : Int32), h))
    else
      some ((-2 : Int32), h))
  else
    some ((-2 : Int32), h))
set_option maxRecDepth 100000 in
set_option maxHeartbeats 4000000 in
theorem t_Top_way {p1 : Int32} {p2 : Int32} {p3 : Int32} {h : am_H} (hs : am_Sh h)  {r : Int32 × am_H} (hf : f_Top_way p1 p2 p3 h = some r) : am_Ct 5 M_Top_way [.ref 0, .int p1, .int p2, .int p3] h 0 0 (am_qI r) := by
  unfold f_Top_way at hf
  refine am_Ct.of (by decide) rfl (Nat.le_of_ble_eq_true rfl) (ls := [(0, .ref 0), (1, .int p1), (2, .int p2), (3, .int p3)]) rfl ?_
  refine g_aload_n (i := 0) (by decide +kernel) rfl ?_
  refine x_getr (hs.k k_0) F_Top_10 (by decide +kernel) rfl (hs.r r_0_0) ?_
  refine g_iload_n (i := 1) (by decide +kernel) rfl ?_
  refine x_callVBp (as := [.int p1]) Vi_River_hasPerson Vs_River_hasPerson (hs.k k_1) rfl hf (fun q hq => t_River_hasPerson hs (by decide) hq) Y_River_hasPerson L_Top_140 (by decide +kernel) rfl rfl (Nat.le_of_ble_eq_true rfl) (by decide) (Nat.le_refl _) (Nat.le_refl _) (fun q1 hf => ?_)
  refine x_ifb_eq (off := 14) (tgt := 22) hf (by decide +kernel) (by decide) (fun c2 hf => ?_) (fun c2 hf => ?_)
  · refine g_bipush (z := (-2)) (v := (-2)) (by decide +kernel) rfl ?_
    exact x_iret hf hs (by decide +kernel) rfl (Nat.le_refl _) (Nat.le_refl _)
  · refine g_aload_n (i := 0) (by decide +kernel) rfl ?_
    refine x_getr (hs.k k_0) F_Top_10 (by decide +kernel) rfl (hs.r r_0_0) ?_
    refine g_iload_n (i := 2) (by decide +kernel) rfl ?_
    refine x_callVBp (as := [.int p2]) Vi_River_hasSpot Vs_River_hasSpot (hs.k k_1) rfl hf (fun q hq => t_River_hasSpot hs (by decide) hq) Y_River_hasSpot L_Top_230 (by decide +kernel) rfl rfl (Nat.le_of_ble_eq_true rfl) (by decide) (Nat.le_refl _) (Nat.le_refl _) (fun q3 hf => ?_)
    refine x_ifb_ne (off := 6) (tgt := 25) hf (by decide +kernel) (by decide) (fun c4 hf => ?_) (fun c4 hf => ?_)
    · refine g_iload_n (i := 3) (by decide +kernel) rfl ?_
      refine x_if_ge (off := 6) (tgt := 32) hf (by decide +kernel) (by decide) (fun c5 hf => ?_) (fun c5 hf => ?_)
      · refine g_iload_n (i := 3) (by decide +kernel) rfl ?_
        refine g_aload_n (i := 0) (by decide +kernel) rfl ?_
        refine x_getr (hs.k k_0) F_Top_63 (by decide +kernel) rfl (hs.r r_0_9) ?_
        refine g_iload_n (i := 1) (by decide +kernel) rfl ?_
        refine g_iload_n (i := 2) (by decide +kernel) rfl ?_
        refine x_callVI (as := [.int p1, .int p2]) Vi_Ahead_findWay Vs_Ahead_findWay (hs.k k_86) rfl hf (fun q hq => t_Ahead_findWay hs  hq) Y_Ahead_findWay L_Top_237 (by decide +kernel) rfl rfl (Nat.le_of_ble_eq_true rfl) (by decide) (Nat.le_refl _) (Nat.le_refl _) (fun q6 hf hs => ?_)
        refine x_icmp_ge (off := 14) (tgt := 56) hf (by decide +kernel) (by decide) (fun c7 hf => ?_) (fun c7 hf => ?_)
        · refine g_iconst (z := (-1)) (v := (-1)) (by decide +kernel) rfl ?_
          exact x_iret hf hs (by decide +kernel) rfl (Nat.le_refl _) (Nat.le_refl _)
        · refine g_aload_n (i := 0) (by decide +kernel) rfl ?_
          refine x_getr (hs.k k_0) F_Top_63 (by decide +kernel) rfl (hs.r r_0_9) ?_
          refine g_iload_n (i := 3) (by decide +kernel) rfl ?_
          refine x_callVIp (as := [.int p3]) Vi_Ahead_actAt Vs_Ahead_actAt (hs.k k_86) rfl hf (fun q hq => t_Ahead_actAt hs  hq) Y_Ahead_actAt L_Top_240 (by decide +kernel) rfl rfl (Nat.le_of_ble_eq_true rfl) (by decide) (Nat.le_refl _) (Nat.le_refl _) (fun q8 hf => ?_)
          refine g_goto (off := 4) (tgt := 57) (by decide +kernel) (by decide) ?_
          exact x_iret hf hs (by decide +kernel) rfl (Nat.le_refl _) (Nat.le_refl _)
      · refine g_bipush (z := (-3)) (v := (-3)) (by decide +kernel) rfl ?_
        exact x_iret hf hs (by decide +kernel) rfl (Nat.le_refl _) (Nat.le_refl _)
    · refine g_bipush (z := (-2)) (v := (-2)) (by decide +kernel) rfl ?_
      exact x_iret hf hs (by decide +kernel) rfl (Nat.le_refl _) (Nat.le_refl _)
def f_Ahead_spreadCount_L3 (p1 : Int32) (p2 : Int32) (p3 : Int32) : Nat → Int32 → am_H → Option (Int32 × am_H)
  | 0, _, _ => none
  | n + 1, v4, h =>
    (if (7 : Int32) ≤ v4 then
      some (v4, h)
    else
      (f_River_hindrance 1 p1 p2 v4 p3 h).bind fun q2 =>
      (if q2 = 0 then
        (f_River_moved p2 v4 p3 h).bind fun q5 =>
        (am_rd (h.2.2.1 (am_rf h 86 5)) 9 q5).bind fun x6 =>
        (am_rd (h.2.2.1 (am_rf h 86 4)) 9 p2).bind fun x8 =>
        (am_wrJ h (am_rf h 86 5) 9 q5 (x6 + x8)).bind fun h9 =>
        f_Ahead_spreadCount_L3 p1 p2 p3 n (v4 + (1 : Int32)) h9
      else
        f_Ahead_spreadCount_L3 p1 p2 p3 n (v4 + (1 : Int32)) h))
set_option maxRecDepth 100000 in
set_option maxHeartbeats 4000000 in
theorem t_Ahead_spreadCount_L3 {p1 : Int32} {p2 : Int32} {p3 : Int32}  {Q : Option Value → am_H → Prop} : ∀ (n : Nat) (v4 : Int32) (h : am_H) (q : Int32 × am_H), am_Sh h → f_Ahead_spreadCount_L3 p1 p2 p3 n v4 h = some q → (am_Sh q.2 → am_G 2 M_Ahead_spreadCount 0 0 Q 52 [(0, .ref 86), (1, .int p1), (2, .int p2), (3, .int p3), (4, .int q.1)] [] q.2 0 0) → am_G 2 M_Ahead_spreadCount 0 0 Q 3 [(0, .ref 86), (1, .int p1), (2, .int p2), (3, .int p3), (4, .int v4)] [] h 0 0 := by
  intro n
  induction n with
  | zero =>
    intro v4 h q hs hf kont
    rw [f_Ahead_spreadCount_L3] at hf
    cases hf
  | succ n ih =>
    intro v4 h q hs hf kont
    rw [f_Ahead_spreadCount_L3] at hf
    refine g_iload (i := 4) (by decide +kernel) rfl ?_
    refine g_bipush (z := 7) (v := 7) (by decide +kernel) rfl ?_
    refine x_icmp_ge (off := 45) (tgt := 52) hf (by decide +kernel) (by decide) (fun c1 hf => ?_) (fun c1 hf => ?_)
    · cases hf
      exact am_G.forget (am_subp [0, 1, 2, 3, 4] rfl) (kont hs)
    · refine g_aload_n (i := 0) (by decide +kernel) rfl ?_
      refine x_getr (hs.k k_86) F_Ahead_25 (by decide +kernel) rfl (hs.r r_86_0) ?_
      refine g_iload_n (i := 1) (by decide +kernel) rfl ?_
      refine g_iload_n (i := 2) (by decide +kernel) rfl ?_
      refine g_iload (i := 4) (by decide +kernel) rfl ?_
      refine g_iload_n (i := 3) (by decide +kernel) rfl ?_
      refine x_callVIp (as := [.int p1, .int p2, .int v4, .int p3]) Vi_River_hindrance Vs_River_hindrance (hs.k k_1) rfl hf (fun q hq => t_River_hindrance hs (by decide) hq) Y_River_hindrance L_Ahead_89 (by decide +kernel) rfl rfl (Nat.le_of_ble_eq_true rfl) (by decide) (Nat.le_refl _) (Nat.le_refl _) (fun q2 hf => ?_)
      refine x_if_ne (off := 24) (tgt := 46) hf (by decide +kernel) (by decide) (fun c3 hf => ?_) (fun c3 hf => ?_)
      · refine g_iinc (i := 4) (z := 1) (v := (v4 + (1 : Int32))) (by decide +kernel) rfl rfl rfl (by decide) (ls1 := [(0, .ref 86), (1, .int p1), (2, .int p2), (3, .int p3), (4, .int (v4 + (1 : Int32)))]) rfl ?_
        refine g_goto (off := (-46)) (tgt := 3) (by decide +kernel) (by decide) ?_
        exact am_G.forget (am_subp [0, 1, 2, 3, 4] rfl) (ih _ _ _ hs hf kont)
      · refine g_aload_n (i := 0) (by decide +kernel) rfl ?_
        have hm4 := hs.lat.2
        refine x_getr (hs.k k_86) F_Ahead_22 (by decide +kernel) rfl hs.lat.1 ?_
        refine g_iload_n (i := 2) (by decide +kernel) rfl ?_
        refine g_iload (i := 4) (by decide +kernel) rfl ?_
        refine g_iload_n (i := 3) (by decide +kernel) rfl ?_
        refine x_callSIp (as := [.int p2, .int v4, .int p3]) St_River_moved hf (fun q hq => t_River_moved hs  hq) Y_River_moved L_Ahead_86 (by decide +kernel) rfl rfl (Nat.le_of_ble_eq_true rfl) (by decide) (Nat.le_refl _) (Nat.le_refl _) (fun q5 hf => ?_)
        refine g_dup2_11 (by decide +kernel) rfl rfl ?_
        refine x_lald hf (hs.k (k_of86 hm4)) (by decide +kernel) (fun x6 hf => ?_)
        refine g_aload_n (i := 0) (by decide +kernel) rfl ?_
        have hm7 := hs.cnt.2
        refine x_getr (hs.k k_86) F_Ahead_18 (by decide +kernel) rfl hs.cnt.1 ?_
        refine g_iload_n (i := 2) (by decide +kernel) rfl ?_
        refine x_lald hf (hs.k (k_of86 hm7)) (by decide +kernel) (fun x8 hf => ?_)
        refine g_ladd (by decide +kernel) ?_
        refine x_last hf hs (hs.k (k_of86 hm4)) (by decide +kernel) (fun h9 hf hs => ?_)
        refine g_iinc (i := 4) (z := 1) (v := (v4 + (1 : Int32))) (by decide +kernel) rfl rfl rfl (by decide) (ls1 := [(0, .ref 86), (1, .int p1), (2, .int p2), (3, .int p3), (4, .int (v4 + (1 : Int32)))]) rfl ?_
        refine g_goto (off := (-46)) (tgt := 3) (by decide +kernel) (by decide) ?_
        exact am_G.forget (am_subp [0, 1, 2, 3, 4] rfl) (ih _ _ _ hs hf kont)
def f_Ahead_spreadCount (p1 : Int32) (p2 : Int32) (p3 : Int32) (h : am_H) : Option (am_H) :=
  (f_Ahead_spreadCount_L3 p1 p2 p3 am_fu (0 : Int32) h).bind fun q10 =>
  some q10.2
set_option maxRecDepth 100000 in
set_option maxHeartbeats 4000000 in
theorem t_Ahead_spreadCount {p1 : Int32} {p2 : Int32} {p3 : Int32} {h : am_H} (hs : am_Sh h)  {r : am_H} (hf : f_Ahead_spreadCount p1 p2 p3 h = some r) : am_Ct 2 M_Ahead_spreadCount [.ref 86, .int p1, .int p2, .int p3] h 0 0 (am_qV r) := by
  unfold f_Ahead_spreadCount at hf
  refine am_Ct.of (by decide) rfl (Nat.le_of_ble_eq_true rfl) (ls := [(0, .ref 86), (1, .int p1), (2, .int p2), (3, .int p3)]) rfl ?_
  refine g_iconst (z := 0) (v := 0) (by decide +kernel) rfl ?_
  refine g_istore (i := 4) (by decide +kernel) rfl (by decide) (ls1 := [(0, .ref 86), (1, .int p1), (2, .int p2), (3, .int p3), (4, .int (0 : Int32))]) rfl ?_
  obtain ⟨q10, hqq10, hf⟩ := Option.bind_eq_some_iff.mp hf
  refine am_G.forget (am_subp [0, 1, 2, 3, 4] rfl) (t_Ahead_spreadCount_L3  am_fu _ _ q10 hs hqq10 (fun hs => ?_))
  exact x_vret hf hs (by decide +kernel) rfl (Nat.le_refl _) (Nat.le_refl _)
