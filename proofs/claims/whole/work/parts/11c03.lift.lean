def f_Law_kept (p0 : Int64) (h : am_H) : Option (Int32) :=
  some (((if (if p0 < (1000000 : Int64) then p0 else (1000000 : Int64)) < (-1000000 : Int64) then (-1000000 : Int64) else (if p0 < (1000000 : Int64) then p0 else (1000000 : Int64)))).toInt32)
set_option maxRecDepth 100000 in
set_option maxHeartbeats 4000000 in
theorem t_Law_kept {p0 : Int64} {h : am_H} (hs : am_Sh h)  {r : Int32} (hf : f_Law_kept p0 h = some r) : am_Ct 1 M_Law_kept [.long p0] h 0 0 (am_pI h r) := by
  unfold f_Law_kept at hf
  refine am_Ct.of (by decide) rfl (Nat.le_of_ble_eq_true rfl) (ls := [(0, .long p0)]) rfl ?_
  refine g_ldc2 (by decide +kernel) C_Law_40 ?_
  refine g_ldc2 (by decide +kernel) C_Law_42 ?_
  refine g_lload_n (i := 0) (by decide +kernel) rfl ?_
  refine g_mminJ L_Law_44 (by decide +kernel) (by decide) (Nat.le_refl _) (Nat.le_refl _) (Nat.le_of_ble_eq_true rfl) ?_
  refine g_mmaxJ L_Law_50 (by decide +kernel) (by decide) (Nat.le_refl _) (Nat.le_refl _) (Nat.le_of_ble_eq_true rfl) ?_
  refine g_l2i (by decide +kernel) ?_
  exact x_iretp hf (by decide +kernel) rfl (Nat.le_refl _) (Nat.le_refl _)
def f_Law_join (p0 : Int32) (p1 : Int32) (p2 : Int32) (h : am_H) : Option (Int32) :=
  (if p0 = (2000 : Int32) then
    (f_Law_kept (((p1 + p2)).toInt64) h).bind fun q1 =>
    some q1
  else if p0 = (2001 : Int32) then
    (f_Law_kept (((p1 - p2)).toInt64) h).bind fun q2 =>
    some q2
  else if p0 = (2002 : Int32) then
    (f_Law_kept (((p1).toInt64) * ((p2).toInt64)) h).bind fun q3 =>
    some q3
  else if p0 = (2003 : Int32) then
    (if p1 = p2 then
      some (1 : Int32)
    else
      some (0 : Int32))
  else if p0 = (2004 : Int32) then
    (if p2 ≤ p1 then
      some (0 : Int32)
    else
      some (1 : Int32))
  else if p0 = (2005 : Int32) then
    (if p1 ≤ p2 then
      some (0 : Int32)
    else
      some (1 : Int32))
  else if p0 = (2006 : Int32) then
    some (p1 &&& p2)
  else 
    some (p1 ||| p2))
set_option maxRecDepth 100000 in
set_option maxHeartbeats 4000000 in
theorem t_Law_join {p0 : Int32} {p1 : Int32} {p2 : Int32} {h : am_H} (hs : am_Sh h)  {r : Int32} (hf : f_Law_join p0 p1 p2 h = some r) : am_Ct 2 M_Law_join [.int p0, .int p1, .int p2] h 0 0 (am_pI h r) := by
  unfold f_Law_join at hf
  refine am_Ct.of (by decide) rfl (Nat.le_of_ble_eq_true rfl) (ls := [(0, .int p0), (1, .int p1), (2, .int p2)]) rfl ?_
  refine g_iload_n (i := 0) (by decide +kernel) rfl ?_
  by_cases e0 : p0 = (2000 : Int32)
  · rw [if_pos e0] at hf
    have ex : Int32.toInt p0 = 2000 := by rw [e0]; rfl
    refine x_tabIn (dflt := 105) (lo := 2000) (hi := 2006) (offs := #[43, 51, 59, 68, 79, 90, 101]) (len := 43) (off := 43) (tgt := 44) (by decide +kernel) (by rw [ex]; decide) (by rw [ex]; decide) (by rw [ex]; rfl) (by decide) ?_
    refine g_iload_n (i := 1) (by decide +kernel) rfl ?_
    refine g_iload_n (i := 2) (by decide +kernel) rfl ?_
    refine g_iadd (by decide +kernel) ?_
    refine g_i2l (by decide +kernel) ?_
    refine x_callSIp (as := [.long (((p1 + p2)).toInt64)]) St_Law_kept hf (fun q hq => t_Law_kept hs  hq) Y_Law_kept L_Law_36 (by decide +kernel) rfl rfl (Nat.le_of_ble_eq_true rfl) (by decide) (Nat.le_refl _) (Nat.le_refl _) (fun q1 hf => ?_)
    exact x_iretp hf (by decide +kernel) rfl (Nat.le_refl _) (Nat.le_refl _)
  · rw [if_neg e0] at hf
    by_cases e1 : p0 = (2001 : Int32)
    · rw [if_pos e1] at hf
      have ex : Int32.toInt p0 = 2001 := by rw [e1]; rfl
      refine x_tabIn (dflt := 105) (lo := 2000) (hi := 2006) (offs := #[43, 51, 59, 68, 79, 90, 101]) (len := 43) (off := 51) (tgt := 52) (by decide +kernel) (by rw [ex]; decide) (by rw [ex]; decide) (by rw [ex]; rfl) (by decide) ?_
      refine g_iload_n (i := 1) (by decide +kernel) rfl ?_
      refine g_iload_n (i := 2) (by decide +kernel) rfl ?_
      refine g_isub (by decide +kernel) ?_
      refine g_i2l (by decide +kernel) ?_
      refine x_callSIp (as := [.long (((p1 - p2)).toInt64)]) St_Law_kept hf (fun q hq => t_Law_kept hs  hq) Y_Law_kept L_Law_36 (by decide +kernel) rfl rfl (Nat.le_of_ble_eq_true rfl) (by decide) (Nat.le_refl _) (Nat.le_refl _) (fun q2 hf => ?_)
      exact x_iretp hf (by decide +kernel) rfl (Nat.le_refl _) (Nat.le_refl _)
    · rw [if_neg e1] at hf
      by_cases e2 : p0 = (2002 : Int32)
      · rw [if_pos e2] at hf
        have ex : Int32.toInt p0 = 2002 := by rw [e2]; rfl
        refine x_tabIn (dflt := 105) (lo := 2000) (hi := 2006) (offs := #[43, 51, 59, 68, 79, 90, 101]) (len := 43) (off := 59) (tgt := 60) (by decide +kernel) (by rw [ex]; decide) (by rw [ex]; decide) (by rw [ex]; rfl) (by decide) ?_
        refine g_iload_n (i := 1) (by decide +kernel) rfl ?_
        refine g_i2l (by decide +kernel) ?_
        refine g_iload_n (i := 2) (by decide +kernel) rfl ?_
        refine g_i2l (by decide +kernel) ?_
        refine g_lmul (by decide +kernel) ?_
        refine x_callSIp (as := [.long (((p1).toInt64) * ((p2).toInt64))]) St_Law_kept hf (fun q hq => t_Law_kept hs  hq) Y_Law_kept L_Law_36 (by decide +kernel) rfl rfl (Nat.le_of_ble_eq_true rfl) (by decide) (Nat.le_refl _) (Nat.le_refl _) (fun q3 hf => ?_)
        exact x_iretp hf (by decide +kernel) rfl (Nat.le_refl _) (Nat.le_refl _)
      · rw [if_neg e2] at hf
        by_cases e3 : p0 = (2003 : Int32)
        · rw [if_pos e3] at hf
          have ex : Int32.toInt p0 = 2003 := by rw [e3]; rfl
          refine x_tabIn (dflt := 105) (lo := 2000) (hi := 2006) (offs := #[43, 51, 59, 68, 79, 90, 101]) (len := 43) (off := 68) (tgt := 69) (by decide +kernel) (by rw [ex]; decide) (by rw [ex]; decide) (by rw [ex]; rfl) (by decide) ?_
          refine g_iload_n (i := 1) (by decide +kernel) rfl ?_
          refine g_iload_n (i := 2) (by decide +kernel) rfl ?_
          refine x_icmp_ne (off := 7) (tgt := 78) hf (by decide +kernel) (by decide) (fun c4 hf => ?_) (fun c4 hf => ?_)
          · refine g_iconst (z := 0) (v := 0) (by decide +kernel) rfl ?_
            exact x_iretp hf (by decide +kernel) rfl (Nat.le_refl _) (Nat.le_refl _)
          · refine g_iconst (z := 1) (v := 1) (by decide +kernel) rfl ?_
            refine g_goto (off := 4) (tgt := 79) (by decide +kernel) (by decide) ?_
            exact x_iretp hf (by decide +kernel) rfl (Nat.le_refl _) (Nat.le_refl _)
        · rw [if_neg e3] at hf
          by_cases e4 : p0 = (2004 : Int32)
          · rw [if_pos e4] at hf
            have ex : Int32.toInt p0 = 2004 := by rw [e4]; rfl
            refine x_tabIn (dflt := 105) (lo := 2000) (hi := 2006) (offs := #[43, 51, 59, 68, 79, 90, 101]) (len := 43) (off := 79) (tgt := 80) (by decide +kernel) (by rw [ex]; decide) (by rw [ex]; decide) (by rw [ex]; rfl) (by decide) ?_
            refine g_iload_n (i := 1) (by decide +kernel) rfl ?_
            refine g_iload_n (i := 2) (by decide +kernel) rfl ?_
            refine x_icmp_ge (off := 7) (tgt := 89) hf (by decide +kernel) (by decide) (fun c5 hf => ?_) (fun c5 hf => ?_)
            · refine g_iconst (z := 0) (v := 0) (by decide +kernel) rfl ?_
              exact x_iretp hf (by decide +kernel) rfl (Nat.le_refl _) (Nat.le_refl _)
            · refine g_iconst (z := 1) (v := 1) (by decide +kernel) rfl ?_
              refine g_goto (off := 4) (tgt := 90) (by decide +kernel) (by decide) ?_
              exact x_iretp hf (by decide +kernel) rfl (Nat.le_refl _) (Nat.le_refl _)
          · rw [if_neg e4] at hf
            by_cases e5 : p0 = (2005 : Int32)
            · rw [if_pos e5] at hf
              have ex : Int32.toInt p0 = 2005 := by rw [e5]; rfl
              refine x_tabIn (dflt := 105) (lo := 2000) (hi := 2006) (offs := #[43, 51, 59, 68, 79, 90, 101]) (len := 43) (off := 90) (tgt := 91) (by decide +kernel) (by rw [ex]; decide) (by rw [ex]; decide) (by rw [ex]; rfl) (by decide) ?_
              refine g_iload_n (i := 1) (by decide +kernel) rfl ?_
              refine g_iload_n (i := 2) (by decide +kernel) rfl ?_
              refine x_icmp_le (off := 7) (tgt := 100) hf (by decide +kernel) (by decide) (fun c6 hf => ?_) (fun c6 hf => ?_)
              · refine g_iconst (z := 0) (v := 0) (by decide +kernel) rfl ?_
                exact x_iretp hf (by decide +kernel) rfl (Nat.le_refl _) (Nat.le_refl _)
              · refine g_iconst (z := 1) (v := 1) (by decide +kernel) rfl ?_
                refine g_goto (off := 4) (tgt := 101) (by decide +kernel) (by decide) ?_
                exact x_iretp hf (by decide +kernel) rfl (Nat.le_refl _) (Nat.le_refl _)
            · rw [if_neg e5] at hf
              by_cases e6 : p0 = (2006 : Int32)
              · rw [if_pos e6] at hf
                have ex : Int32.toInt p0 = 2006 := by rw [e6]; rfl
                refine x_tabIn (dflt := 105) (lo := 2000) (hi := 2006) (offs := #[43, 51, 59, 68, 79, 90, 101]) (len := 43) (off := 101) (tgt := 102) (by decide +kernel) (by rw [ex]; decide) (by rw [ex]; decide) (by rw [ex]; rfl) (by decide) ?_
                refine g_iload_n (i := 1) (by decide +kernel) rfl ?_
                refine g_iload_n (i := 2) (by decide +kernel) rfl ?_
                refine g_iand (by decide +kernel) ?_
                exact x_iretp hf (by decide +kernel) rfl (Nat.le_refl _) (Nat.le_refl _)
              · rw [if_neg e6] at hf
                refine x_tabOut (dflt := 105) (lo := 2000) (hi := 2006) (offs := #[43, 51, 59, 68, 79, 90, 101]) (len := 43) (tgt := 106) (by decide +kernel) (am_tabNe ⟨by decide, by decide⟩ (fun z hz => ?_)) (by decide) ?_
                · have hz : z < 7 := hz
                  have : z = 0 ∨ z = 1 ∨ z = 2 ∨ z = 3 ∨ z = 4 ∨ z = 5 ∨ z = 6 := by omega
                  rcases this with rfl | rfl | rfl | rfl | rfl | rfl | rfl
                  · exact e0
                  · exact e1
                  · exact e2
                  · exact e3
                  · exact e4
                  · exact e5
                  · exact e6
                · refine g_iload_n (i := 1) (by decide +kernel) rfl ?_
                  refine g_iload_n (i := 2) (by decide +kernel) rfl ?_
                  refine g_ior (by decide +kernel) ?_
                  exact x_iretp hf (by decide +kernel) rfl (Nat.le_refl _) (Nat.le_refl _)
def f_Law_holds_L4 (o : Nat) : Nat → Int32 → Int32 → am_H → Option (Int32 × Int32 × am_H)
  | 0, _, _, _ => none
  | n + 1, v1, v2, h =>
    (if (h.2.1 o 1) ≤ v2 then
      some (v1, v2, h)
    else
      (am_rd (h.2.1 (o + 1)) 900 v2).bind fun x2 =>
      (if x2 = (2008 : Int32) then
        (if v1 < (1 : Int32) then
          (if x2 < (2000 : Int32) then
            (if (2000 : Int32) ≤ x2 then
              f_Law_holds_L4 o n v1 (v2 + (1 : Int32)) h
            else
              (if (Int32.ofNat 64) ≤ v1 then
                f_Law_holds_L4 o n v1 (v2 + (1 : Int32)) h
              else
                ((if (x2 - (1000 : Int32)) < 0 then
                    some x2
                  else
                    (if (Int32.ofNat 6) ≤ (x2 - (1000 : Int32)) then
                      some x2
                    else
                      (am_rd (h.2.1 (o + 2)) 6 (x2 - (1000 : Int32))).bind fun x30 =>
                      some x30)) : Option (Int32)).bind fun m31 =>
                (am_wr h (o + 3) 64 v1 m31).bind fun h32 =>
                f_Law_holds_L4 o n (v1 + (1 : Int32)) (v2 + (1 : Int32)) h32))
          else
            (if v1 < (2 : Int32) then
              (if (2000 : Int32) ≤ x2 then
                f_Law_holds_L4 o n v1 (v2 + (1 : Int32)) h
              else
                (if (Int32.ofNat 64) ≤ v1 then
                  f_Law_holds_L4 o n v1 (v2 + (1 : Int32)) h
                else
                  ((if (x2 - (1000 : Int32)) < 0 then
                      some x2
                    else
                      (if (Int32.ofNat 6) ≤ (x2 - (1000 : Int32)) then
                        some x2
                      else
                        (am_rd (h.2.1 (o + 2)) 6 (x2 - (1000 : Int32))).bind fun x38 =>
                        some x38)) : Option (Int32)).bind fun m39 =>
                  (am_wr h (o + 3) 64 v1 m39).bind fun h40 =>
                  f_Law_holds_L4 o n (v1 + (1 : Int32)) (v2 + (1 : Int32)) h40))
            else
              (am_rd (h.2.1 (o + 3)) 64 ((v1 + (-1 : Int32)) - (1 : Int32))).bind fun x41 =>
              (am_rd (h.2.1 (o + 3)) 64 (v1 + (-1 : Int32))).bind fun x42 =>
              (f_Law_join x2 x41 x42 h).bind fun q43 =>
              (am_wr h (o + 3) 64 ((v1 + (-1 : Int32)) - (1 : Int32)) q43).bind fun h44 =>
              f_Law_holds_L4 o n (v1 + (-1 : Int32)) (v2 + (1 : Int32)) h44))
        else
          (am_rd (h.2.1 (o + 3)) 64 (v1 - (1 : Int32))).bind fun x45 =>
          (am_wr h (o + 3) 64 (v1 - (1 : Int32)) ((1 : Int32) - x45)).bind fun h46 =>
          f_Law_holds_L4 o n v1 (v2 + (1 : Int32)) h46)
      else
        (if x2 < (2000 : Int32) then
          (if (2000 : Int32) ≤ x2 then
            f_Law_holds_L4 o n v1 (v2 + (1 : Int32)) h
          else
            (if (Int32.ofNat 64) ≤ v1 then
              f_Law_holds_L4 o n v1 (v2 + (1 : Int32)) h
            else
              ((if (x2 - (1000 : Int32)) < 0 then
                  some x2
                else
                  (if (Int32.ofNat 6) ≤ (x2 - (1000 : Int32)) then
                    some x2
                  else
                    (am_rd (h.2.1 (o + 2)) 6 (x2 - (1000 : Int32))).bind fun x9 =>
                    some x9)) : Option (Int32)).bind fun m10 =>
              (am_wr h (o + 3) 64 v1 m10).bind fun h11 =>
              f_Law_holds_L4 o n (v1 + (1 : Int32)) (v2 + (1 : Int32)) h11))
        else
          (if v1 < (2 : Int32) then
            (if (2000 : Int32) ≤ x2 then
              f_Law_holds_L4 o n v1 (v2 + (1 : Int32)) h
            else
              (if (Int32.ofNat 64) ≤ v1 then
                f_Law_holds_L4 o n v1 (v2 + (1 : Int32)) h
              else
                ((if (x2 - (1000 : Int32)) < 0 then
                    some x2
                  else
                    (if (Int32.ofNat 6) ≤ (x2 - (1000 : Int32)) then
                      some x2
                    else
                      (am_rd (h.2.1 (o + 2)) 6 (x2 - (1000 : Int32))).bind fun x17 =>
                      some x17)) : Option (Int32)).bind fun m18 =>
                (am_wr h (o + 3) 64 v1 m18).bind fun h19 =>
                f_Law_holds_L4 o n (v1 + (1 : Int32)) (v2 + (1 : Int32)) h19))
          else
            (am_rd (h.2.1 (o + 3)) 64 ((v1 + (-1 : Int32)) - (1 : Int32))).bind fun x20 =>
            (am_rd (h.2.1 (o + 3)) 64 (v1 + (-1 : Int32))).bind fun x21 =>
            (f_Law_join x2 x20 x21 h).bind fun q22 =>
            (am_wr h (o + 3) 64 ((v1 + (-1 : Int32)) - (1 : Int32)) q22).bind fun h23 =>
            f_Law_holds_L4 o n (v1 + (-1 : Int32)) (v2 + (1 : Int32)) h23))))
set_option maxRecDepth 100000 in
set_option maxHeartbeats 4000000 in
theorem t_Law_holds_L4 {o : Nat} (ho : o ∈ am_lwL) {Q : Option Value → am_H → Prop} : ∀ (n : Nat) (v1 : Int32) (v2 : Int32) (h : am_H) (q : Int32 × Int32 × am_H), am_Sh h → f_Law_holds_L4 o n v1 v2 h = some q → (am_Sh q.2.2 → am_G 3 M_Law_holds 0 0 Q 160 [(0, .ref o), (1, .int q.1), (2, .int q.2.1)] [] q.2.2 0 0) → am_G 3 M_Law_holds 0 0 Q 4 [(0, .ref o), (1, .int v1), (2, .int v2)] [] h 0 0 := by
  intro n
  induction n with
  | zero =>
    intro v1 v2 h q hs hf kont
    rw [f_Law_holds_L4] at hf
    cases hf
  | succ n ih =>
    intro v1 v2 h q hs hf kont
    rw [f_Law_holds_L4] at hf
    refine g_iload_n (i := 2) (by decide +kernel) rfl ?_
    refine g_aload_n (i := 0) (by decide +kernel) rfl ?_
    refine x_geti (hs.k (k_Lw ho)) F_Law_15 (by decide +kernel) rfl ?_
    refine x_icmp_ge (off := 151) (tgt := 160) hf (by decide +kernel) (by decide) (fun c1 hf => ?_) (fun c1 hf => ?_)
    · cases hf
      exact am_G.forget (am_subp [0, 1, 2] rfl) (kont hs)
    · refine g_aload_n (i := 0) (by decide +kernel) rfl ?_
      refine x_getr (hs.k (k_Lw ho)) F_Law_19 (by decide +kernel) rfl (hs.r (r_Lw_2 ho)) ?_
      refine g_iload_n (i := 2) (by decide +kernel) rfl ?_
      refine x_iald hf (hs.k (k_Lw_2 ho)) (by decide +kernel) (fun x2 hf => ?_)
      refine g_istore_n (i := 3) (by decide +kernel) rfl (by decide) (ls1 := [(0, .ref o), (1, .int v1), (2, .int v2), (3, .int x2)]) rfl ?_
      refine g_iload_n (i := 3) (by decide +kernel) rfl ?_
      refine g_sipush (z := 2008) (v := 2008) (by decide +kernel) rfl ?_
      refine x_icmp_ne (off := 29) (tgt := 52) hf (by decide +kernel) (by decide) (fun c3 hf => ?_) (fun c3 hf => ?_)
      · refine g_iload_n (i := 3) (by decide +kernel) rfl ?_
        refine g_sipush (z := 2000) (v := 2000) (by decide +kernel) rfl ?_
        refine x_icmp_lt (off := 40) (tgt := 96) hf (by decide +kernel) (by decide) (fun c4 hf => ?_) (fun c4 hf => ?_)
        · refine g_iload_n (i := 3) (by decide +kernel) rfl ?_
          refine g_sipush (z := 2000) (v := 2000) (by decide +kernel) rfl ?_
          refine x_icmp_ge (off := 54) (tgt := 154) hf (by decide +kernel) (by decide) (fun c5 hf => ?_) (fun c5 hf => ?_)
          · refine g_iinc (i := 2) (z := 1) (v := (v2 + (1 : Int32))) (by decide +kernel) rfl rfl rfl (by decide) (ls1 := [(0, .ref o), (1, .int v1), (2, .int (v2 + (1 : Int32))), (3, .int x2)]) rfl ?_
            refine g_goto (off := (-153)) (tgt := 4) (by decide +kernel) (by decide) ?_
            exact am_G.forget (am_subp [0, 1, 2] rfl) (ih _ _ _ _ hs hf kont)
          · refine g_iload_n (i := 1) (by decide +kernel) rfl ?_
            refine g_aload_n (i := 0) (by decide +kernel) rfl ?_
            refine x_getr (hs.k (k_Lw ho)) F_Law_26 (by decide +kernel) rfl (hs.r (r_Lw_4 ho)) ?_
            refine g_alen (t0 := 0) (hs.k (k_Lw_4 ho)) rfl rfl (by decide +kernel) ?_
            refine x_icmp_ge (off := 45) (tgt := 154) hf (by decide +kernel) (by decide) (fun c6 hf => ?_) (fun c6 hf => ?_)
            · refine g_iinc (i := 2) (z := 1) (v := (v2 + (1 : Int32))) (by decide +kernel) rfl rfl rfl (by decide) (ls1 := [(0, .ref o), (1, .int v1), (2, .int (v2 + (1 : Int32))), (3, .int x2)]) rfl ?_
              refine g_goto (off := (-153)) (tgt := 4) (by decide +kernel) (by decide) ?_
              exact am_G.forget (am_subp [0, 1, 2] rfl) (ih _ _ _ _ hs hf kont)
            · refine g_iload_n (i := 3) (by decide +kernel) rfl ?_
              refine g_sipush (z := 1000) (v := 1000) (by decide +kernel) rfl ?_
              refine g_isub (by decide +kernel) ?_
              refine g_istore (i := 4) (by decide +kernel) rfl (by decide) (ls1 := [(0, .ref o), (1, .int v1), (2, .int v2), (3, .int x2), (4, .int (x2 - (1000 : Int32)))]) rfl ?_
              refine g_aload_n (i := 0) (by decide +kernel) rfl ?_
              refine x_getr (hs.k (k_Lw ho)) F_Law_26 (by decide +kernel) rfl (hs.r (r_Lw_4 ho)) ?_
              refine g_iload_n (i := 1) (by decide +kernel) rfl ?_
              refine g_iload (i := 4) (by decide +kernel) rfl ?_
              obtain ⟨m10, hm150, hf⟩ := Option.bind_eq_some_iff.mp hf
              refine am_cut (J := 150) (ls' := [(0, .ref o), (1, .int v1), (2, .int v2), (3, .int x2), (4, .int (x2 - (1000 : Int32)))]) (st' := [.int m10, .int v1, .ref (o + 3)]) ?_ (fun K150 => ?_)
              · refine x_iast hf hs (hs.k (k_Lw_4 ho)) (by decide +kernel) (fun h11 hf hs => ?_)
                refine g_iinc (i := 1) (z := 1) (v := (v1 + (1 : Int32))) (by decide +kernel) rfl rfl rfl (by decide) (ls1 := [(0, .ref o), (1, .int (v1 + (1 : Int32))), (2, .int v2), (3, .int x2), (4, .int (x2 - (1000 : Int32)))]) rfl ?_
                refine g_iinc (i := 2) (z := 1) (v := (v2 + (1 : Int32))) (by decide +kernel) rfl rfl rfl (by decide) (ls1 := [(0, .ref o), (1, .int (v1 + (1 : Int32))), (2, .int (v2 + (1 : Int32))), (3, .int x2), (4, .int (x2 - (1000 : Int32)))]) rfl ?_
                refine g_goto (off := (-153)) (tgt := 4) (by decide +kernel) (by decide) ?_
                exact am_G.forget (am_subp [0, 1, 2] rfl) (ih _ _ _ _ hs hf kont)
              refine x_if_lt (off := 23) (tgt := 149) hm150 (by decide +kernel) (by decide) (fun c7 hm150 => ?_) (fun c7 hm150 => ?_)
              · refine g_iload_n (i := 3) (by decide +kernel) rfl ?_
                cases hm150
                exact am_G.forget (am_subp [0, 1, 2, 3, 4] rfl) K150
              · refine g_iload (i := 4) (by decide +kernel) rfl ?_
                refine g_aload_n (i := 0) (by decide +kernel) rfl ?_
                refine x_getr (hs.k (k_Lw ho)) F_Law_23 (by decide +kernel) rfl (hs.r (r_Lw_3 ho)) ?_
                refine g_alen (t0 := 0) (hs.k (k_Lw_3 ho)) rfl rfl (by decide +kernel) ?_
                refine x_icmp_ge (off := 13) (tgt := 149) hm150 (by decide +kernel) (by decide) (fun c8 hm150 => ?_) (fun c8 hm150 => ?_)
                · refine g_iload_n (i := 3) (by decide +kernel) rfl ?_
                  cases hm150
                  exact am_G.forget (am_subp [0, 1, 2, 3, 4] rfl) K150
                · refine g_aload_n (i := 0) (by decide +kernel) rfl ?_
                  refine x_getr (hs.k (k_Lw ho)) F_Law_23 (by decide +kernel) rfl (hs.r (r_Lw_3 ho)) ?_
                  refine g_iload (i := 4) (by decide +kernel) rfl ?_
                  refine x_iald hm150 (hs.k (k_Lw_3 ho)) (by decide +kernel) (fun x9 hm150 => ?_)
                  refine g_goto (off := 4) (tgt := 150) (by decide +kernel) (by decide) ?_
                  cases hm150
                  exact am_G.forget (am_subp [0, 1, 2, 3, 4] rfl) K150
        · refine g_iload_n (i := 1) (by decide +kernel) rfl ?_
          refine g_iconst (z := 2) (v := 2) (by decide +kernel) rfl ?_
          refine x_icmp_lt (off := 35) (tgt := 96) hf (by decide +kernel) (by decide) (fun c12 hf => ?_) (fun c12 hf => ?_)
          · refine g_iload_n (i := 3) (by decide +kernel) rfl ?_
            refine g_sipush (z := 2000) (v := 2000) (by decide +kernel) rfl ?_
            refine x_icmp_ge (off := 54) (tgt := 154) hf (by decide +kernel) (by decide) (fun c13 hf => ?_) (fun c13 hf => ?_)
            · refine g_iinc (i := 2) (z := 1) (v := (v2 + (1 : Int32))) (by decide +kernel) rfl rfl rfl (by decide) (ls1 := [(0, .ref o), (1, .int v1), (2, .int (v2 + (1 : Int32))), (3, .int x2)]) rfl ?_
              refine g_goto (off := (-153)) (tgt := 4) (by decide +kernel) (by decide) ?_
              exact am_G.forget (am_subp [0, 1, 2] rfl) (ih _ _ _ _ hs hf kont)
            · refine g_iload_n (i := 1) (by decide +kernel) rfl ?_
              refine g_aload_n (i := 0) (by decide +kernel) rfl ?_
              refine x_getr (hs.k (k_Lw ho)) F_Law_26 (by decide +kernel) rfl (hs.r (r_Lw_4 ho)) ?_
              refine g_alen (t0 := 0) (hs.k (k_Lw_4 ho)) rfl rfl (by decide +kernel) ?_
              refine x_icmp_ge (off := 45) (tgt := 154) hf (by decide +kernel) (by decide) (fun c14 hf => ?_) (fun c14 hf => ?_)
              · refine g_iinc (i := 2) (z := 1) (v := (v2 + (1 : Int32))) (by decide +kernel) rfl rfl rfl (by decide) (ls1 := [(0, .ref o), (1, .int v1), (2, .int (v2 + (1 : Int32))), (3, .int x2)]) rfl ?_
                refine g_goto (off := (-153)) (tgt := 4) (by decide +kernel) (by decide) ?_
                exact am_G.forget (am_subp [0, 1, 2] rfl) (ih _ _ _ _ hs hf kont)
              · refine g_iload_n (i := 3) (by decide +kernel) rfl ?_
                refine g_sipush (z := 1000) (v := 1000) (by decide +kernel) rfl ?_
                refine g_isub (by decide +kernel) ?_
                refine g_istore (i := 4) (by decide +kernel) rfl (by decide) (ls1 := [(0, .ref o), (1, .int v1), (2, .int v2), (3, .int x2), (4, .int (x2 - (1000 : Int32)))]) rfl ?_
                refine g_aload_n (i := 0) (by decide +kernel) rfl ?_
                refine x_getr (hs.k (k_Lw ho)) F_Law_26 (by decide +kernel) rfl (hs.r (r_Lw_4 ho)) ?_
                refine g_iload_n (i := 1) (by decide +kernel) rfl ?_
                refine g_iload (i := 4) (by decide +kernel) rfl ?_
                obtain ⟨m18, hm150, hf⟩ := Option.bind_eq_some_iff.mp hf
                refine am_cut (J := 150) (ls' := [(0, .ref o), (1, .int v1), (2, .int v2), (3, .int x2), (4, .int (x2 - (1000 : Int32)))]) (st' := [.int m18, .int v1, .ref (o + 3)]) ?_ (fun K150 => ?_)
                · refine x_iast hf hs (hs.k (k_Lw_4 ho)) (by decide +kernel) (fun h19 hf hs => ?_)
                  refine g_iinc (i := 1) (z := 1) (v := (v1 + (1 : Int32))) (by decide +kernel) rfl rfl rfl (by decide) (ls1 := [(0, .ref o), (1, .int (v1 + (1 : Int32))), (2, .int v2), (3, .int x2), (4, .int (x2 - (1000 : Int32)))]) rfl ?_
                  refine g_iinc (i := 2) (z := 1) (v := (v2 + (1 : Int32))) (by decide +kernel) rfl rfl rfl (by decide) (ls1 := [(0, .ref o), (1, .int (v1 + (1 : Int32))), (2, .int (v2 + (1 : Int32))), (3, .int x2), (4, .int (x2 - (1000 : Int32)))]) rfl ?_
                  refine g_goto (off := (-153)) (tgt := 4) (by decide +kernel) (by decide) ?_
                  exact am_G.forget (am_subp [0, 1, 2] rfl) (ih _ _ _ _ hs hf kont)
                refine x_if_lt (off := 23) (tgt := 149) hm150 (by decide +kernel) (by decide) (fun c15 hm150 => ?_) (fun c15 hm150 => ?_)
                · refine g_iload_n (i := 3) (by decide +kernel) rfl ?_
                  cases hm150
                  exact am_G.forget (am_subp [0, 1, 2, 3, 4] rfl) K150
                · refine g_iload (i := 4) (by decide +kernel) rfl ?_
                  refine g_aload_n (i := 0) (by decide +kernel) rfl ?_
                  refine x_getr (hs.k (k_Lw ho)) F_Law_23 (by decide +kernel) rfl (hs.r (r_Lw_3 ho)) ?_
                  refine g_alen (t0 := 0) (hs.k (k_Lw_3 ho)) rfl rfl (by decide +kernel) ?_
                  refine x_icmp_ge (off := 13) (tgt := 149) hm150 (by decide +kernel) (by decide) (fun c16 hm150 => ?_) (fun c16 hm150 => ?_)
                  · refine g_iload_n (i := 3) (by decide +kernel) rfl ?_
                    cases hm150
                    exact am_G.forget (am_subp [0, 1, 2, 3, 4] rfl) K150
                  · refine g_aload_n (i := 0) (by decide +kernel) rfl ?_
                    refine x_getr (hs.k (k_Lw ho)) F_Law_23 (by decide +kernel) rfl (hs.r (r_Lw_3 ho)) ?_
                    refine g_iload (i := 4) (by decide +kernel) rfl ?_
                    refine x_iald hm150 (hs.k (k_Lw_3 ho)) (by decide +kernel) (fun x17 hm150 => ?_)
                    refine g_goto (off := 4) (tgt := 150) (by decide +kernel) (by decide) ?_
                    cases hm150
                    exact am_G.forget (am_subp [0, 1, 2, 3, 4] rfl) K150
          · refine g_iinc (i := 1) (z := (-1)) (v := (v1 + (-1 : Int32))) (by decide +kernel) rfl rfl rfl (by decide) (ls1 := [(0, .ref o), (1, .int (v1 + (-1 : Int32))), (2, .int v2), (3, .int x2)]) rfl ?_
            refine g_aload_n (i := 0) (by decide +kernel) rfl ?_
            refine x_getr (hs.k (k_Lw ho)) F_Law_26 (by decide +kernel) rfl (hs.r (r_Lw_4 ho)) ?_
            refine g_iload_n (i := 1) (by decide +kernel) rfl ?_
            refine g_iconst (z := 1) (v := 1) (by decide +kernel) rfl ?_
            refine g_isub (by decide +kernel) ?_
            refine g_iload_n (i := 3) (by decide +kernel) rfl ?_
            refine g_aload_n (i := 0) (by decide +kernel) rfl ?_
            refine x_getr (hs.k (k_Lw ho)) F_Law_26 (by decide +kernel) rfl (hs.r (r_Lw_4 ho)) ?_
            refine g_iload_n (i := 1) (by decide +kernel) rfl ?_
            refine g_iconst (z := 1) (v := 1) (by decide +kernel) rfl ?_
            refine g_isub (by decide +kernel) ?_
            refine x_iald hf (hs.k (k_Lw_4 ho)) (by decide +kernel) (fun x20 hf => ?_)
            refine g_aload_n (i := 0) (by decide +kernel) rfl ?_
            refine x_getr (hs.k (k_Lw ho)) F_Law_26 (by decide +kernel) rfl (hs.r (r_Lw_4 ho)) ?_
            refine g_iload_n (i := 1) (by decide +kernel) rfl ?_
            refine x_iald hf (hs.k (k_Lw_4 ho)) (by decide +kernel) (fun x21 hf => ?_)
            refine x_callSIp (as := [.int x2, .int x20, .int x21]) St_Law_join hf (fun q hq => t_Law_join hs  hq) Y_Law_join L_Law_32 (by decide +kernel) rfl rfl (Nat.le_of_ble_eq_true rfl) (by decide) (Nat.le_refl _) (Nat.le_refl _) (fun q22 hf => ?_)
            refine x_iast hf hs (hs.k (k_Lw_4 ho)) (by decide +kernel) (fun h23 hf hs => ?_)
            refine g_goto (off := 61) (tgt := 154) (by decide +kernel) (by decide) ?_
            refine g_iinc (i := 2) (z := 1) (v := (v2 + (1 : Int32))) (by decide +kernel) rfl rfl rfl (by decide) (ls1 := [(0, .ref o), (1, .int (v1 + (-1 : Int32))), (2, .int (v2 + (1 : Int32))), (3, .int x2)]) rfl ?_
            refine g_goto (off := (-153)) (tgt := 4) (by decide +kernel) (by decide) ?_
            exact am_G.forget (am_subp [0, 1, 2] rfl) (ih _ _ _ _ hs hf kont)
      · refine g_iload_n (i := 1) (by decide +kernel) rfl ?_
        refine g_iconst (z := 1) (v := 1) (by decide +kernel) rfl ?_
        refine x_icmp_lt (off := 24) (tgt := 52) hf (by decide +kernel) (by decide) (fun c24 hf => ?_) (fun c24 hf => ?_)
        · refine g_iload_n (i := 3) (by decide +kernel) rfl ?_
          refine g_sipush (z := 2000) (v := 2000) (by decide +kernel) rfl ?_
          refine x_icmp_lt (off := 40) (tgt := 96) hf (by decide +kernel) (by decide) (fun c25 hf => ?_) (fun c25 hf => ?_)
          · refine g_iload_n (i := 3) (by decide +kernel) rfl ?_
            refine g_sipush (z := 2000) (v := 2000) (by decide +kernel) rfl ?_
            refine x_icmp_ge (off := 54) (tgt := 154) hf (by decide +kernel) (by decide) (fun c26 hf => ?_) (fun c26 hf => ?_)
            · refine g_iinc (i := 2) (z := 1) (v := (v2 + (1 : Int32))) (by decide +kernel) rfl rfl rfl (by decide) (ls1 := [(0, .ref o), (1, .int v1), (2, .int (v2 + (1 : Int32))), (3, .int x2)]) rfl ?_
              refine g_goto (off := (-153)) (tgt := 4) (by decide +kernel) (by decide) ?_
              exact am_G.forget (am_subp [0, 1, 2] rfl) (ih _ _ _ _ hs hf kont)
            · refine g_iload_n (i := 1) (by decide +kernel) rfl ?_
              refine g_aload_n (i := 0) (by decide +kernel) rfl ?_
              refine x_getr (hs.k (k_Lw ho)) F_Law_26 (by decide +kernel) rfl (hs.r (r_Lw_4 ho)) ?_
              refine g_alen (t0 := 0) (hs.k (k_Lw_4 ho)) rfl rfl (by decide +kernel) ?_
              refine x_icmp_ge (off := 45) (tgt := 154) hf (by decide +kernel) (by decide) (fun c27 hf => ?_) (fun c27 hf => ?_)
              · refine g_iinc (i := 2) (z := 1) (v := (v2 + (1 : Int32))) (by decide +kernel) rfl rfl rfl (by decide) (ls1 := [(0, .ref o), (1, .int v1), (2, .int (v2 + (1 : Int32))), (3, .int x2)]) rfl ?_
                refine g_goto (off := (-153)) (tgt := 4) (by decide +kernel) (by decide) ?_
                exact am_G.forget (am_subp [0, 1, 2] rfl) (ih _ _ _ _ hs hf kont)
              · refine g_iload_n (i := 3) (by decide +kernel) rfl ?_
                refine g_sipush (z := 1000) (v := 1000) (by decide +kernel) rfl ?_
                refine g_isub (by decide +kernel) ?_
                refine g_istore (i := 4) (by decide +kernel) rfl (by decide) (ls1 := [(0, .ref o), (1, .int v1), (2, .int v2), (3, .int x2), (4, .int (x2 - (1000 : Int32)))]) rfl ?_
                refine g_aload_n (i := 0) (by decide +kernel) rfl ?_
                refine x_getr (hs.k (k_Lw ho)) F_Law_26 (by decide +kernel) rfl (hs.r (r_Lw_4 ho)) ?_
                refine g_iload_n (i := 1) (by decide +kernel) rfl ?_
                refine g_iload (i := 4) (by decide +kernel) rfl ?_
                obtain ⟨m31, hm150, hf⟩ := Option.bind_eq_some_iff.mp hf
                refine am_cut (J := 150) (ls' := [(0, .ref o), (1, .int v1), (2, .int v2), (3, .int x2), (4, .int (x2 - (1000 : Int32)))]) (st' := [.int m31, .int v1, .ref (o + 3)]) ?_ (fun K150 => ?_)
                · refine x_iast hf hs (hs.k (k_Lw_4 ho)) (by decide +kernel) (fun h32 hf hs => ?_)
                  refine g_iinc (i := 1) (z := 1) (v := (v1 + (1 : Int32))) (by decide +kernel) rfl rfl rfl (by decide) (ls1 := [(0, .ref o), (1, .int (v1 + (1 : Int32))), (2, .int v2), (3, .int x2), (4, .int (x2 - (1000 : Int32)))]) rfl ?_
                  refine g_iinc (i := 2) (z := 1) (v := (v2 + (1 : Int32))) (by decide +kernel) rfl rfl rfl (by decide) (ls1 := [(0, .ref o), (1, .int (v1 + (1 : Int32))), (2, .int (v2 + (1 : Int32))), (3, .int x2), (4, .int (x2 - (1000 : Int32)))]) rfl ?_
                  refine g_goto (off := (-153)) (tgt := 4) (by decide +kernel) (by decide) ?_
                  exact am_G.forget (am_subp [0, 1, 2] rfl) (ih _ _ _ _ hs hf kont)
                refine x_if_lt (off := 23) (tgt := 149) hm150 (by decide +kernel) (by decide) (fun c28 hm150 => ?_) (fun c28 hm150 => ?_)
                · refine g_iload_n (i := 3) (by decide +kernel) rfl ?_
                  cases hm150
                  exact am_G.forget (am_subp [0, 1, 2, 3, 4] rfl) K150
                · refine g_iload (i := 4) (by decide +kernel) rfl ?_
                  refine g_aload_n (i := 0) (by decide +kernel) rfl ?_
                  refine x_getr (hs.k (k_Lw ho)) F_Law_23 (by decide +kernel) rfl (hs.r (r_Lw_3 ho)) ?_
                  refine g_alen (t0 := 0) (hs.k (k_Lw_3 ho)) rfl rfl (by decide +kernel) ?_
                  refine x_icmp_ge (off := 13) (tgt := 149) hm150 (by decide +kernel) (by decide) (fun c29 hm150 => ?_) (fun c29 hm150 => ?_)
                  · refine g_iload_n (i := 3) (by decide +kernel) rfl ?_
                    cases hm150
                    exact am_G.forget (am_subp [0, 1, 2, 3, 4] rfl) K150
                  · refine g_aload_n (i := 0) (by decide +kernel) rfl ?_
                    refine x_getr (hs.k (k_Lw ho)) F_Law_23 (by decide +kernel) rfl (hs.r (r_Lw_3 ho)) ?_
                    refine g_iload (i := 4) (by decide +kernel) rfl ?_
                    refine x_iald hm150 (hs.k (k_Lw_3 ho)) (by decide +kernel) (fun x30 hm150 => ?_)
                    refine g_goto (off := 4) (tgt := 150) (by decide +kernel) (by decide) ?_
                    cases hm150
                    exact am_G.forget (am_subp [0, 1, 2, 3, 4] rfl) K150
          · refine g_iload_n (i := 1) (by decide +kernel) rfl ?_
            refine g_iconst (z := 2) (v := 2) (by decide +kernel) rfl ?_
            refine x_icmp_lt (off := 35) (tgt := 96) hf (by decide +kernel) (by decide) (fun c33 hf => ?_) (fun c33 hf => ?_)
            · refine g_iload_n (i := 3) (by decide +kernel) rfl ?_
              refine g_sipush (z := 2000) (v := 2000) (by decide +kernel) rfl ?_
              refine x_icmp_ge (off := 54) (tgt := 154) hf (by decide +kernel) (by decide) (fun c34 hf => ?_) (fun c34 hf => ?_)
              · refine g_iinc (i := 2) (z := 1) (v := (v2 + (1 : Int32))) (by decide +kernel) rfl rfl rfl (by decide) (ls1 := [(0, .ref o), (1, .int v1), (2, .int (v2 + (1 : Int32))), (3, .int x2)]) rfl ?_
                refine g_goto (off := (-153)) (tgt := 4) (by decide +kernel) (by decide) ?_
                exact am_G.forget (am_subp [0, 1, 2] rfl) (ih _ _ _ _ hs hf kont)
              · refine g_iload_n (i := 1) (by decide +kernel) rfl ?_
                refine g_aload_n (i := 0) (by decide +kernel) rfl ?_
                refine x_getr (hs.k (k_Lw ho)) F_Law_26 (by decide +kernel) rfl (hs.r (r_Lw_4 ho)) ?_
                refine g_alen (t0 := 0) (hs.k (k_Lw_4 ho)) rfl rfl (by decide +kernel) ?_
                refine x_icmp_ge (off := 45) (tgt := 154) hf (by decide +kernel) (by decide) (fun c35 hf => ?_) (fun c35 hf => ?_)
                · refine g_iinc (i := 2) (z := 1) (v := (v2 + (1 : Int32))) (by decide +kernel) rfl rfl rfl (by decide) (ls1 := [(0, .ref o), (1, .int v1), (2, .int (v2 + (1 : Int32))), (3, .int x2)]) rfl ?_
                  refine g_goto (off := (-153)) (tgt := 4) (by decide +kernel) (by decide) ?_
                  exact am_G.forget (am_subp [0, 1, 2] rfl) (ih _ _ _ _ hs hf kont)
                · refine g_iload_n (i := 3) (by decide +kernel) rfl ?_
                  refine g_sipush (z := 1000) (v := 1000) (by decide +kernel) rfl ?_
                  refine g_isub (by decide +kernel) ?_
                  refine g_istore (i := 4) (by decide +kernel) rfl (by decide) (ls1 := [(0, .ref o), (1, .int v1), (2, .int v2), (3, .int x2), (4, .int (x2 - (1000 : Int32)))]) rfl ?_
                  refine g_aload_n (i := 0) (by decide +kernel) rfl ?_
                  refine x_getr (hs.k (k_Lw ho)) F_Law_26 (by decide +kernel) rfl (hs.r (r_Lw_4 ho)) ?_
                  refine g_iload_n (i := 1) (by decide +kernel) rfl ?_
                  refine g_iload (i := 4) (by decide +kernel) rfl ?_
                  obtain ⟨m39, hm150, hf⟩ := Option.bind_eq_some_iff.mp hf
                  refine am_cut (J := 150) (ls' := [(0, .ref o), (1, .int v1), (2, .int v2), (3, .int x2), (4, .int (x2 - (1000 : Int32)))]) (st' := [.int m39, .int v1, .ref (o + 3)]) ?_ (fun K150 => ?_)
                  · refine x_iast hf hs (hs.k (k_Lw_4 ho)) (by decide +kernel) (fun h40 hf hs => ?_)
                    refine g_iinc (i := 1) (z := 1) (v := (v1 + (1 : Int32))) (by decide +kernel) rfl rfl rfl (by decide) (ls1 := [(0, .ref o), (1, .int (v1 + (1 : Int32))), (2, .int v2), (3, .int x2), (4, .int (x2 - (1000 : Int32)))]) rfl ?_
                    refine g_iinc (i := 2) (z := 1) (v := (v2 + (1 : Int32))) (by decide +kernel) rfl rfl rfl (by decide) (ls1 := [(0, .ref o), (1, .int (v1 + (1 : Int32))), (2, .int (v2 + (1 : Int32))), (3, .int x2), (4, .int (x2 - (1000 : Int32)))]) rfl ?_
                    refine g_goto (off := (-153)) (tgt := 4) (by decide +kernel) (by decide) ?_
                    exact am_G.forget (am_subp [0, 1, 2] rfl) (ih _ _ _ _ hs hf kont)
                  refine x_if_lt (off := 23) (tgt := 149) hm150 (by decide +kernel) (by decide) (fun c36 hm150 => ?_) (fun c36 hm150 => ?_)
                  · refine g_iload_n (i := 3) (by decide +kernel) rfl ?_
                    cases hm150
                    exact am_G.forget (am_subp [0, 1, 2, 3, 4] rfl) K150
                  · refine g_iload (i := 4) (by decide +kernel) rfl ?_
                    refine g_aload_n (i := 0) (by decide +kernel) rfl ?_
                    refine x_getr (hs.k (k_Lw ho)) F_Law_23 (by decide +kernel) rfl (hs.r (r_Lw_3 ho)) ?_
                    refine g_alen (t0 := 0) (hs.k (k_Lw_3 ho)) rfl rfl (by decide +kernel) ?_
                    refine x_icmp_ge (off := 13) (tgt := 149) hm150 (by decide +kernel) (by decide) (fun c37 hm150 => ?_) (fun c37 hm150 => ?_)
                    · refine g_iload_n (i := 3) (by decide +kernel) rfl ?_
                      cases hm150
                      exact am_G.forget (am_subp [0, 1, 2, 3, 4] rfl) K150
                    · refine g_aload_n (i := 0) (by decide +kernel) rfl ?_
                      refine x_getr (hs.k (k_Lw ho)) F_Law_23 (by decide +kernel) rfl (hs.r (r_Lw_3 ho)) ?_
                      refine g_iload (i := 4) (by decide +kernel) rfl ?_
                      refine x_iald hm150 (hs.k (k_Lw_3 ho)) (by decide +kernel) (fun x38 hm150 => ?_)
                      refine g_goto (off := 4) (tgt := 150) (by decide +kernel) (by decide) ?_
                      cases hm150
                      exact am_G.forget (am_subp [0, 1, 2, 3, 4] rfl) K150
            · refine g_iinc (i := 1) (z := (-1)) (v := (v1 + (-1 : Int32))) (by decide +kernel) rfl rfl rfl (by decide) (ls1 := [(0, .ref o), (1, .int (v1 + (-1 : Int32))), (2, .int v2), (3, .int x2)]) rfl ?_
              refine g_aload_n (i := 0) (by decide +kernel) rfl ?_
              refine x_getr (hs.k (k_Lw ho)) F_Law_26 (by decide +kernel) rfl (hs.r (r_Lw_4 ho)) ?_
              refine g_iload_n (i := 1) (by decide +kernel) rfl ?_
              refine g_iconst (z := 1) (v := 1) (by decide +kernel) rfl ?_
              refine g_isub (by decide +kernel) ?_
              refine g_iload_n (i := 3) (by decide +kernel) rfl ?_
              refine g_aload_n (i := 0) (by decide +kernel) rfl ?_
              refine x_getr (hs.k (k_Lw ho)) F_Law_26 (by decide +kernel) rfl (hs.r (r_Lw_4 ho)) ?_
              refine g_iload_n (i := 1) (by decide +kernel) rfl ?_
              refine g_iconst (z := 1) (v := 1) (by decide +kernel) rfl ?_
              refine g_isub (by decide +kernel) ?_
              refine x_iald hf (hs.k (k_Lw_4 ho)) (by decide +kernel) (fun x41 hf => ?_)
              refine g_aload_n (i := 0) (by decide +kernel) rfl ?_
              refine x_getr (hs.k (k_Lw ho)) F_Law_26 (by decide +kernel) rfl (hs.r (r_Lw_4 ho)) ?_
              refine g_iload_n (i := 1) (by decide +kernel) rfl ?_
              refine x_iald hf (hs.k (k_Lw_4 ho)) (by decide +kernel) (fun x42 hf => ?_)
              refine x_callSIp (as := [.int x2, .int x41, .int x42]) St_Law_join hf (fun q hq => t_Law_join hs  hq) Y_Law_join L_Law_32 (by decide +kernel) rfl rfl (Nat.le_of_ble_eq_true rfl) (by decide) (Nat.le_refl _) (Nat.le_refl _) (fun q43 hf => ?_)
              refine x_iast hf hs (hs.k (k_Lw_4 ho)) (by decide +kernel) (fun h44 hf hs => ?_)
              refine g_goto (off := 61) (tgt := 154) (by decide +kernel) (by decide) ?_
              refine g_iinc (i := 2) (z := 1) (v := (v2 + (1 : Int32))) (by decide +kernel) rfl rfl rfl (by decide) (ls1 := [(0, .ref o), (1, .int (v1 + (-1 : Int32))), (2, .int (v2 + (1 : Int32))), (3, .int x2)]) rfl ?_
              refine g_goto (off := (-153)) (tgt := 4) (by decide +kernel) (by decide) ?_
              exact am_G.forget (am_subp [0, 1, 2] rfl) (ih _ _ _ _ hs hf kont)
        · refine g_aload_n (i := 0) (by decide +kernel) rfl ?_
          refine x_getr (hs.k (k_Lw ho)) F_Law_26 (by decide +kernel) rfl (hs.r (r_Lw_4 ho)) ?_
          refine g_iload_n (i := 1) (by decide +kernel) rfl ?_
          refine g_iconst (z := 1) (v := 1) (by decide +kernel) rfl ?_
          refine g_isub (by decide +kernel) ?_
          refine g_iconst (z := 1) (v := 1) (by decide +kernel) rfl ?_
          refine g_aload_n (i := 0) (by decide +kernel) rfl ?_
          refine x_getr (hs.k (k_Lw ho)) F_Law_26 (by decide +kernel) rfl (hs.r (r_Lw_4 ho)) ?_
          refine g_iload_n (i := 1) (by decide +kernel) rfl ?_
          refine g_iconst (z := 1) (v := 1) (by decide +kernel) rfl ?_
          refine g_isub (by decide +kernel) ?_
          refine x_iald hf (hs.k (k_Lw_4 ho)) (by decide +kernel) (fun x45 hf => ?_)
          refine g_isub (by decide +kernel) ?_
          refine x_iast hf hs (hs.k (k_Lw_4 ho)) (by decide +kernel) (fun h46 hf hs => ?_)
          refine g_goto (off := 105) (tgt := 154) (by decide +kernel) (by decide) ?_
          refine g_iinc (i := 2) (z := 1) (v := (v2 + (1 : Int32))) (by decide +kernel) rfl rfl rfl (by decide) (ls1 := [(0, .ref o), (1, .int v1), (2, .int (v2 + (1 : Int32))), (3, .int x2)]) rfl ?_
          refine g_goto (off := (-153)) (tgt := 4) (by decide +kernel) (by decide) ?_
          exact am_G.forget (am_subp [0, 1, 2] rfl) (ih _ _ _ _ hs hf kont)
def f_Law_holds (o : Nat) (h : am_H) : Option (Bool × am_H) :=
  (f_Law_holds_L4 o am_fu (0 : Int32) (0 : Int32) h).bind fun q47 =>
  (am_rd (q47.2.2.2.1 (o + 3)) 64 (0 : Int32)).bind fun x48 =>
  (if x48 = 0 then
    some (false, q47.2.2)
  else
    some (true, q47.2.2))
set_option maxRecDepth 100000 in
set_option maxHeartbeats 4000000 in
theorem t_Law_holds {o : Nat} {h : am_H} (hs : am_Sh h) (ho : o ∈ am_lwL) {r : Bool × am_H} (hf : f_Law_holds o h = some r) : am_Ct 3 M_Law_holds [.ref o] h 0 0 (am_qB r) := by
  unfold f_Law_holds at hf
  refine am_Ct.of (by decide) rfl (Nat.le_of_ble_eq_true rfl) (ls := [(0, .ref o)]) rfl ?_
  refine g_iconst (z := 0) (v := 0) (by decide +kernel) rfl ?_
  refine g_istore_n (i := 1) (by decide +kernel) rfl (by decide) (ls1 := [(0, .ref o), (1, .int (0 : Int32))]) rfl ?_
  refine g_iconst (z := 0) (v := 0) (by decide +kernel) rfl ?_
  refine g_istore_n (i := 2) (by decide +kernel) rfl (by decide) (ls1 := [(0, .ref o), (1, .int (0 : Int32)), (2, .int (0 : Int32))]) rfl ?_
  obtain ⟨q47, hqq47, hf⟩ := Option.bind_eq_some_iff.mp hf
  refine am_G.forget (am_subp [0, 1, 2] rfl) (t_Law_holds_L4 ho am_fu _ _ _ q47 hs hqq47 (fun hs => ?_))
  refine g_aload_n (i := 0) (by decide +kernel) rfl ?_
  refine x_getr (hs.k (k_Lw ho)) F_Law_26 (by decide +kernel) rfl (hs.r (r_Lw_4 ho)) ?_
  refine g_iconst (z := 0) (v := 0) (by decide +kernel) rfl ?_
  refine x_iald hf (hs.k (k_Lw_4 ho)) (by decide +kernel) (fun x48 hf => ?_)
  refine x_if_eq (off := 7) (tgt := 173) hf (by decide +kernel) (by decide) (fun c49 hf => ?_) (fun c49 hf => ?_)
  · refine g_iconst (z := 0) (v := 0) (by decide +kernel) rfl ?_
    exact x_zret rfl hf hs (by decide +kernel) rfl (Nat.le_refl _) (Nat.le_refl _)
  · refine g_iconst (z := 1) (v := 1) (by decide +kernel) rfl ?_
    refine g_goto (off := 4) (tgt := 174) (by decide +kernel) (by decide) ?_
    exact x_zret rfl hf hs (by decide +kernel) rfl (Nat.le_refl _) (Nat.le_refl _)
def f_River_walkable_L6 (o : Nat) (p1 : Nat) (p2 : Int32) (p3 : Int32) (p4 : Int32) : Nat → Int32 → Int32 → am_H → Option (Int32 × Int32 × am_H)
  | 0, _, _, _ => none
  | n + 1, v5, v6, h =>
    (if ((2 : Int32) * (h.2.1 o 0)) ≤ v6 then
      some (v5, v6, h)
    else
      (am_rd (h.2.1 (o + 3)) 5 p2).bind fun x2 =>
      (f_Law_ask p1 (v6 / (2 : Int32)) p3 p2 x2 p4 (v6 - v6 / (2 : Int32) * (2 : Int32)) h).bind fun q3 =>
      (if (q3.2.1 p1 0) = 0 then
        f_River_walkable_L6 o p1 p2 p3 p4 n (v5 ||| ((1 : Int32) <<< (v6 &&& 31))) (v6 + (1 : Int32)) q3
      else
        (f_Law_holds p1 q3).bind fun q5 =>
        (if q5.1 = true then
          f_River_walkable_L6 o p1 p2 p3 p4 n (v5 ||| ((1 : Int32) <<< (v6 &&& 31))) (v6 + (1 : Int32)) q5.2
        else
          f_River_walkable_L6 o p1 p2 p3 p4 n v5 (v6 + (1 : Int32)) q5.2)))
set_option maxRecDepth 100000 in
set_option maxHeartbeats 4000000 in
theorem t_River_walkable_L6 {o : Nat} {p1 : Nat} {p2 : Int32} {p3 : Int32} {p4 : Int32} (ho : o ∈ am_rvL) (hp1 : p1 ∈ am_lwL) {Q : Option Value → am_H → Prop} : ∀ (n : Nat) (v5 : Int32) (v6 : Int32) (h : am_H) (q : Int32 × Int32 × am_H), am_Sh h → f_River_walkable_L6 o p1 p2 p3 p4 n v5 v6 h = some q → (am_Sh q.2.2 → am_G 4 M_River_walkable 0 0 Q 68 [(0, .ref o), (1, .ref p1), (2, .int p2), (3, .int p3), (4, .int p4), (5, .int q.1), (6, .int q.2.1)] [] q.2.2 0 0) → am_G 4 M_River_walkable 0 0 Q 6 [(0, .ref o), (1, .ref p1), (2, .int p2), (3, .int p3), (4, .int p4), (5, .int v5), (6, .int v6)] [] h 0 0 := by
  intro n
  induction n with
  | zero =>
    intro v5 v6 h q hs hf kont
    rw [f_River_walkable_L6] at hf
    cases hf
  | succ n ih =>
    intro v5 v6 h q hs hf kont
    rw [f_River_walkable_L6] at hf
    refine g_iload (i := 6) (by decide +kernel) rfl ?_
    refine g_iconst (z := 2) (v := 2) (by decide +kernel) rfl ?_
    refine g_aload_n (i := 0) (by decide +kernel) rfl ?_
    refine x_geti (hs.k (k_Rv ho)) F_River_9 (by decide +kernel) rfl ?_
    refine g_imul (by decide +kernel) ?_
    refine x_icmp_ge (off := 54) (tgt := 68) hf (by decide +kernel) (by decide) (fun c1 hf => ?_) (fun c1 hf => ?_)
    · cases hf
      exact am_G.forget (am_subp [0, 1, 2, 3, 4, 5, 6] rfl) (kont hs)
    · refine g_aload_n (i := 1) (by decide +kernel) rfl ?_
      refine g_iload (i := 6) (by decide +kernel) rfl ?_
      refine g_iconst (z := 2) (v := 2) (by decide +kernel) rfl ?_
      refine g_idiv (by decide +kernel) (by decide) ?_
      refine g_iload_n (i := 3) (by decide +kernel) rfl ?_
      refine g_iload_n (i := 2) (by decide +kernel) rfl ?_
      refine g_aload_n (i := 0) (by decide +kernel) rfl ?_
      refine x_getr (hs.k (k_Rv ho)) F_River_37 (by decide +kernel) rfl (hs.r (r_Rv_8 ho)) ?_
      refine g_iload_n (i := 2) (by decide +kernel) rfl ?_
      refine x_iald hf (hs.k (k_Rv_8 ho)) (by decide +kernel) (fun x2 hf => ?_)
      refine g_iload (i := 4) (by decide +kernel) rfl ?_
      refine g_iload (i := 6) (by decide +kernel) rfl ?_
      refine g_iconst (z := 2) (v := 2) (by decide +kernel) rfl ?_
      refine g_irem (by decide +kernel) (by decide) ?_
      refine x_callVV (as := [.int (v6 / (2 : Int32)), .int p3, .int p2, .int x2, .int p4, .int (v6 - v6 / (2 : Int32) * (2 : Int32))]) Vi_Law_ask Vs_Law_ask (hs.k (k_Lw hp1)) rfl hf (fun q hq => t_Law_ask hs hp1 hq) Y_Law_ask L_River_78 (by decide +kernel) rfl rfl (Nat.le_of_ble_eq_true rfl) (by decide) (Nat.le_refl _) (Nat.le_refl _) (fun q3 hf hs => ?_)
      refine g_aload_n (i := 1) (by decide +kernel) rfl ?_
      refine x_geti (hs.k (k_Lw hp1)) F_River_84 (by decide +kernel) rfl ?_
      refine x_if_eq (off := 10) (tgt := 53) hf (by decide +kernel) (by decide) (fun c4 hf => ?_) (fun c4 hf => ?_)
      · refine g_iload (i := 5) (by decide +kernel) rfl ?_
        refine g_iconst (z := 1) (v := 1) (by decide +kernel) rfl ?_
        refine g_iload (i := 6) (by decide +kernel) rfl ?_
        refine g_ishl (by decide +kernel) ?_
        refine g_ior (by decide +kernel) ?_
        refine g_istore (i := 5) (by decide +kernel) rfl (by decide) (ls1 := [(0, .ref o), (1, .ref p1), (2, .int p2), (3, .int p3), (4, .int p4), (5, .int (v5 ||| ((1 : Int32) <<< (v6 &&& 31)))), (6, .int v6)]) rfl ?_
        refine g_iinc (i := 6) (z := 1) (v := (v6 + (1 : Int32))) (by decide +kernel) rfl rfl rfl (by decide) (ls1 := [(0, .ref o), (1, .ref p1), (2, .int p2), (3, .int p3), (4, .int p4), (5, .int (v5 ||| ((1 : Int32) <<< (v6 &&& 31)))), (6, .int (v6 + (1 : Int32)))]) rfl ?_
        refine g_goto (off := (-59)) (tgt := 6) (by decide +kernel) (by decide) ?_
        exact am_G.forget (am_subp [0, 1, 2, 3, 4, 5, 6] rfl) (ih _ _ _ _ hs hf kont)
      · refine g_aload_n (i := 1) (by decide +kernel) rfl ?_
        refine x_callVB (as := []) Vi_Law_holds Vs_Law_holds (hs.k (k_Lw hp1)) rfl hf (fun q hq => t_Law_holds hs hp1 hq) Y_Law_holds L_River_88 (by decide +kernel) rfl rfl (Nat.le_of_ble_eq_true rfl) (by decide) (Nat.le_refl _) (Nat.le_refl _) (fun q5 hf hs => ?_)
        refine x_ifb_eq (off := 12) (tgt := 62) hf (by decide +kernel) (by decide) (fun c6 hf => ?_) (fun c6 hf => ?_)
        · refine g_iinc (i := 6) (z := 1) (v := (v6 + (1 : Int32))) (by decide +kernel) rfl rfl rfl (by decide) (ls1 := [(0, .ref o), (1, .ref p1), (2, .int p2), (3, .int p3), (4, .int p4), (5, .int v5), (6, .int (v6 + (1 : Int32)))]) rfl ?_
          refine g_goto (off := (-59)) (tgt := 6) (by decide +kernel) (by decide) ?_
          exact am_G.forget (am_subp [0, 1, 2, 3, 4, 5, 6] rfl) (ih _ _ _ _ hs hf kont)
        · refine g_iload (i := 5) (by decide +kernel) rfl ?_
          refine g_iconst (z := 1) (v := 1) (by decide +kernel) rfl ?_
          refine g_iload (i := 6) (by decide +kernel) rfl ?_
          refine g_ishl (by decide +kernel) ?_
          refine g_ior (by decide +kernel) ?_
          refine g_istore (i := 5) (by decide +kernel) rfl (by decide) (ls1 := [(0, .ref o), (1, .ref p1), (2, .int p2), (3, .int p3), (4, .int p4), (5, .int (v5 ||| ((1 : Int32) <<< (v6 &&& 31)))), (6, .int v6)]) rfl ?_
          refine g_iinc (i := 6) (z := 1) (v := (v6 + (1 : Int32))) (by decide +kernel) rfl rfl rfl (by decide) (ls1 := [(0, .ref o), (1, .ref p1), (2, .int p2), (3, .int p3), (4, .int p4), (5, .int (v5 ||| ((1 : Int32) <<< (v6 &&& 31)))), (6, .int (v6 + (1 : Int32)))]) rfl ?_
          refine g_goto (off := (-59)) (tgt := 6) (by decide +kernel) (by decide) ?_
          exact am_G.forget (am_subp [0, 1, 2, 3, 4, 5, 6] rfl) (ih _ _ _ _ hs hf kont)
def f_River_walkable (o : Nat) (p1 : Nat) (p2 : Int32) (p3 : Int32) (p4 : Int32) (h : am_H) : Option (Int32 × am_H) :=
  (f_River_walkable_L6 o p1 p2 p3 p4 am_fu (0 : Int32) (0 : Int32) h).bind fun q7 =>
  some (q7.1, q7.2.2)
set_option maxRecDepth 100000 in
set_option maxHeartbeats 4000000 in
theorem t_River_walkable {o : Nat} {p1 : Nat} {p2 : Int32} {p3 : Int32} {p4 : Int32} {h : am_H} (hs : am_Sh h) (ho : o ∈ am_rvL) (hp1 : p1 ∈ am_lwL) {r : Int32 × am_H} (hf : f_River_walkable o p1 p2 p3 p4 h = some r) : am_Ct 4 M_River_walkable [.ref o, .ref p1, .int p2, .int p3, .int p4] h 0 0 (am_qI r) := by
  unfold f_River_walkable at hf
  refine am_Ct.of (by decide) rfl (Nat.le_of_ble_eq_true rfl) (ls := [(0, .ref o), (1, .ref p1), (2, .int p2), (3, .int p3), (4, .int p4)]) rfl ?_
  refine g_iconst (z := 0) (v := 0) (by decide +kernel) rfl ?_
  refine g_istore (i := 5) (by decide +kernel) rfl (by decide) (ls1 := [(0, .ref o), (1, .ref p1), (2, .int p2), (3, .int p3), (4, .int p4), (5, .int (0 : Int32))]) rfl ?_
  refine g_iconst (z := 0) (v := 0) (by decide +kernel) rfl ?_
  refine g_istore (i := 6) (by decide +kernel) rfl (by decide) (ls1 := [(0, .ref o), (1, .ref p1), (2, .int p2), (3, .int p3), (4, .int p4), (5, .int (0 : Int32)), (6, .int (0 : Int32))]) rfl ?_
  obtain ⟨q7, hqq7, hf⟩ := Option.bind_eq_some_iff.mp hf
  refine am_G.forget (am_subp [0, 1, 2, 3, 4, 5, 6] rfl) (t_River_walkable_L6 ho hp1 am_fu _ _ _ q7 hs hqq7 (fun hs => ?_))
  refine g_iload (i := 5) (by decide +kernel) rfl ?_
  exact x_iret hf hs (by decide +kernel) rfl (Nat.le_refl _) (Nat.le_refl _)
def f_River_serving_L6 (o : Nat) (p1 : Nat) (p2 : Int32) (p3 : Int32) (p4 : Int32) : Nat → Int32 → Int32 → am_H → Option (Int32 × Int32 × am_H)
  | 0, _, _, _ => none
  | n + 1, v5, v6, h =>
    (if (h.2.1 o 0) ≤ v6 then
      some (v5, v6, h)
    else
      (am_rd (h.2.1 (o + 3)) 5 p2).bind fun x2 =>
      (f_Law_ask p1 v6 p3 p2 x2 p4 (0 : Int32) h).bind fun q3 =>
      (if (q3.2.1 p1 0) = 0 then
        (if p4 = 0 then
          f_River_serving_L6 o p1 p2 p3 p4 n (v5 ||| ((1 : Int32) <<< (v6 &&& 31))) (v6 + (1 : Int32)) q3
        else
          f_River_serving_L6 o p1 p2 p3 p4 n v5 (v6 + (1 : Int32)) q3)
      else
        (f_Law_holds p1 q3).bind fun q6 =>
        (if q6.1 = true then
          f_River_serving_L6 o p1 p2 p3 p4 n (v5 ||| ((1 : Int32) <<< (v6 &&& 31))) (v6 + (1 : Int32)) q6.2
        else
          f_River_serving_L6 o p1 p2 p3 p4 n v5 (v6 + (1 : Int32)) q6.2)))
set_option maxRecDepth 100000 in
set_option maxHeartbeats 4000000 in
theorem t_River_serving_L6 {o : Nat} {p1 : Nat} {p2 : Int32} {p3 : Int32} {p4 : Int32} (ho : o ∈ am_rvL) (hp1 : p1 ∈ am_lwL) {Q : Option Value → am_H → Prop} : ∀ (n : Nat) (v5 : Int32) (v6 : Int32) (h : am_H) (q : Int32 × Int32 × am_H), am_Sh h → f_River_serving_L6 o p1 p2 p3 p4 n v5 v6 h = some q → (am_Sh q.2.2 → am_G 4 M_River_serving 0 0 Q 69 [(0, .ref o), (1, .ref p1), (2, .int p2), (3, .int p3), (4, .int p4), (5, .int q.1), (6, .int q.2.1)] [] q.2.2 0 0) → am_G 4 M_River_serving 0 0 Q 6 [(0, .ref o), (1, .ref p1), (2, .int p2), (3, .int p3), (4, .int p4), (5, .int v5), (6, .int v6)] [] h 0 0 := by
  intro n
  induction n with
  | zero =>
    intro v5 v6 h q hs hf kont
    rw [f_River_serving_L6] at hf
    cases hf
  | succ n ih =>
    intro v5 v6 h q hs hf kont
    rw [f_River_serving_L6] at hf
    refine g_iload (i := 6) (by decide +kernel) rfl ?_
    refine g_aload_n (i := 0) (by decide +kernel) rfl ?_
    refine x_geti (hs.k (k_Rv ho)) F_River_9 (by decide +kernel) rfl ?_
    refine x_icmp_ge (off := 57) (tgt := 69) hf (by decide +kernel) (by decide) (fun c1 hf => ?_) (fun c1 hf => ?_)
    · cases hf
      exact am_G.forget (am_subp [0, 1, 2, 3, 4, 5, 6] rfl) (kont hs)
    · refine g_aload_n (i := 1) (by decide +kernel) rfl ?_
      refine g_iload (i := 6) (by decide +kernel) rfl ?_
      refine g_iload_n (i := 3) (by decide +kernel) rfl ?_
      refine g_iload_n (i := 2) (by decide +kernel) rfl ?_
      refine g_aload_n (i := 0) (by decide +kernel) rfl ?_
      refine x_getr (hs.k (k_Rv ho)) F_River_37 (by decide +kernel) rfl (hs.r (r_Rv_8 ho)) ?_
      refine g_iload_n (i := 2) (by decide +kernel) rfl ?_
      refine x_iald hf (hs.k (k_Rv_8 ho)) (by decide +kernel) (fun x2 hf => ?_)
      refine g_iload (i := 4) (by decide +kernel) rfl ?_
      refine g_iconst (z := 0) (v := 0) (by decide +kernel) rfl ?_
      refine x_callVV (as := [.int v6, .int p3, .int p2, .int x2, .int p4, .int (0 : Int32)]) Vi_Law_ask Vs_Law_ask (hs.k (k_Lw hp1)) rfl hf (fun q hq => t_Law_ask hs hp1 hq) Y_Law_ask L_River_78 (by decide +kernel) rfl rfl (Nat.le_of_ble_eq_true rfl) (by decide) (Nat.le_refl _) (Nat.le_refl _) (fun q3 hf hs => ?_)
      refine g_aload_n (i := 1) (by decide +kernel) rfl ?_
      refine x_geti (hs.k (k_Lw hp1)) F_River_84 (by decide +kernel) rfl ?_
      refine x_if_eq (off := 13) (tgt := 49) hf (by decide +kernel) (by decide) (fun c4 hf => ?_) (fun c4 hf => ?_)
      · refine g_iload (i := 4) (by decide +kernel) rfl ?_
        refine x_if_ne (off := 12) (tgt := 63) hf (by decide +kernel) (by decide) (fun c5 hf => ?_) (fun c5 hf => ?_)
        · refine g_iinc (i := 6) (z := 1) (v := (v6 + (1 : Int32))) (by decide +kernel) rfl rfl rfl (by decide) (ls1 := [(0, .ref o), (1, .ref p1), (2, .int p2), (3, .int p3), (4, .int p4), (5, .int v5), (6, .int (v6 + (1 : Int32)))]) rfl ?_
          refine g_goto (off := (-60)) (tgt := 6) (by decide +kernel) (by decide) ?_
          exact am_G.forget (am_subp [0, 1, 2, 3, 4, 5, 6] rfl) (ih _ _ _ _ hs hf kont)
        · refine g_iload (i := 5) (by decide +kernel) rfl ?_
          refine g_iconst (z := 1) (v := 1) (by decide +kernel) rfl ?_
          refine g_iload (i := 6) (by decide +kernel) rfl ?_
          refine g_ishl (by decide +kernel) ?_
          refine g_ior (by decide +kernel) ?_
          refine g_istore (i := 5) (by decide +kernel) rfl (by decide) (ls1 := [(0, .ref o), (1, .ref p1), (2, .int p2), (3, .int p3), (4, .int p4), (5, .int (v5 ||| ((1 : Int32) <<< (v6 &&& 31)))), (6, .int v6)]) rfl ?_
          refine g_iinc (i := 6) (z := 1) (v := (v6 + (1 : Int32))) (by decide +kernel) rfl rfl rfl (by decide) (ls1 := [(0, .ref o), (1, .ref p1), (2, .int p2), (3, .int p3), (4, .int p4), (5, .int (v5 ||| ((1 : Int32) <<< (v6 &&& 31)))), (6, .int (v6 + (1 : Int32)))]) rfl ?_
          refine g_goto (off := (-60)) (tgt := 6) (by decide +kernel) (by decide) ?_
          exact am_G.forget (am_subp [0, 1, 2, 3, 4, 5, 6] rfl) (ih _ _ _ _ hs hf kont)
      · refine g_aload_n (i := 1) (by decide +kernel) rfl ?_
        refine x_callVB (as := []) Vi_Law_holds Vs_Law_holds (hs.k (k_Lw hp1)) rfl hf (fun q hq => t_Law_holds hs hp1 hq) Y_Law_holds L_River_88 (by decide +kernel) rfl rfl (Nat.le_of_ble_eq_true rfl) (by decide) (Nat.le_refl _) (Nat.le_refl _) (fun q6 hf hs => ?_)
        refine x_ifb_eq (off := 20) (tgt := 63) hf (by decide +kernel) (by decide) (fun c7 hf => ?_) (fun c7 hf => ?_)
        · refine g_iinc (i := 6) (z := 1) (v := (v6 + (1 : Int32))) (by decide +kernel) rfl rfl rfl (by decide) (ls1 := [(0, .ref o), (1, .ref p1), (2, .int p2), (3, .int p3), (4, .int p4), (5, .int v5), (6, .int (v6 + (1 : Int32)))]) rfl ?_
          refine g_goto (off := (-60)) (tgt := 6) (by decide +kernel) (by decide) ?_
          exact am_G.forget (am_subp [0, 1, 2, 3, 4, 5, 6] rfl) (ih _ _ _ _ hs hf kont)
        · refine g_goto (off := 8) (tgt := 54) (by decide +kernel) (by decide) ?_
          refine g_iload (i := 5) (by decide +kernel) rfl ?_
          refine g_iconst (z := 1) (v := 1) (by decide +kernel) rfl ?_
          refine g_iload (i := 6) (by decide +kernel) rfl ?_
          refine g_ishl (by decide +kernel) ?_
          refine g_ior (by decide +kernel) ?_
          refine g_istore (i := 5) (by decide +kernel) rfl (by decide) (ls1 := [(0, .ref o), (1, .ref p1), (2, .int p2), (3, .int p3), (4, .int p4), (5, .int (v5 ||| ((1 : Int32) <<< (v6 &&& 31)))), (6, .int v6)]) rfl ?_
          refine g_iinc (i := 6) (z := 1) (v := (v6 + (1 : Int32))) (by decide +kernel) rfl rfl rfl (by decide) (ls1 := [(0, .ref o), (1, .ref p1), (2, .int p2), (3, .int p3), (4, .int p4), (5, .int (v5 ||| ((1 : Int32) <<< (v6 &&& 31)))), (6, .int (v6 + (1 : Int32)))]) rfl ?_
          refine g_goto (off := (-60)) (tgt := 6) (by decide +kernel) (by decide) ?_
          exact am_G.forget (am_subp [0, 1, 2, 3, 4, 5, 6] rfl) (ih _ _ _ _ hs hf kont)
def f_River_serving (o : Nat) (p1 : Nat) (p2 : Int32) (p3 : Int32) (p4 : Int32) (h : am_H) : Option (Int32 × am_H) :=
  (f_River_serving_L6 o p1 p2 p3 p4 am_fu (0 : Int32) (0 : Int32) h).bind fun q8 =>
  some (q8.1, q8.2.2)
set_option maxRecDepth 100000 in
set_option maxHeartbeats 4000000 in
theorem t_River_serving {o : Nat} {p1 : Nat} {p2 : Int32} {p3 : Int32} {p4 : Int32} {h : am_H} (hs : am_Sh h) (ho : o ∈ am_rvL) (hp1 : p1 ∈ am_lwL) {r : Int32 × am_H} (hf : f_River_serving o p1 p2 p3 p4 h = some r) : am_Ct 4 M_River_serving [.ref o, .ref p1, .int p2, .int p3, .int p4] h 0 0 (am_qI r) := by
  unfold f_River_serving at hf
  refine am_Ct.of (by decide) rfl (Nat.le_of_ble_eq_true rfl) (ls := [(0, .ref o), (1, .ref p1), (2, .int p2), (3, .int p3), (4, .int p4)]) rfl ?_
  refine g_iconst (z := 0) (v := 0) (by decide +kernel) rfl ?_
  refine g_istore (i := 5) (by decide +kernel) rfl (by decide) (ls1 := [(0, .ref o), (1, .ref p1), (2, .int p2), (3, .int p3), (4, .int p4), (5, .int (0 : Int32))]) rfl ?_
  refine g_iconst (z := 0) (v := 0) (by decide +kernel) rfl ?_
  refine g_istore (i := 6) (by decide +kernel) rfl (by decide) (ls1 := [(0, .ref o), (1, .ref p1), (2, .int p2), (3, .int p3), (4, .int p4), (5, .int (0 : Int32)), (6, .int (0 : Int32))]) rfl ?_
  obtain ⟨q8, hqq8, hf⟩ := Option.bind_eq_some_iff.mp hf
  refine am_G.forget (am_subp [0, 1, 2, 3, 4, 5, 6] rfl) (t_River_serving_L6 ho hp1 am_fu _ _ _ q8 hs hqq8 (fun hs => ?_))
  refine g_iload (i := 5) (by decide +kernel) rfl ?_
  exact x_iret hf hs (by decide +kernel) rfl (Nat.le_refl _) (Nat.le_refl _)
def f_River_fillRows_L40 (o : Nat) (p1 : Nat) (p2 : Nat) : Nat → Int32 → Int32 → Int32 → Int32 → am_H → Option (Int32 × am_H)
  | 0, _, _, _, _, _ => none
  | n + 1, v3, v4, v5, v6, h =>
    (if (2 : Int32) ≤ v6 then
      some (v6, h)
    else
      (f_River_row v4 v5 (if v6 = (1 : Int32) then (1 : Int32) else (0 : Int32)) h).bind fun q6 =>
      (f_River_walkable o p1 v4 v5 v6 h).bind fun q7 =>
      (am_wr q7.2 (o + 6) 60 q6 (q7.1 &&& v3)).bind fun h8 =>
      (am_wr h8 (o + 7) 60 q6 (q7.1 &&& (-4 : Int32))).bind fun h9 =>
      (f_River_serving o p2 v4 v5 v6 h9).bind fun q10 =>
      (am_wr q10.2 (o + 8) 60 q6 q10.1).bind fun h11 =>
      f_River_fillRows_L40 o p1 p2 n v3 v4 v5 (v6 + (1 : Int32)) h11)
set_option maxRecDepth 100000 in
set_option maxHeartbeats 4000000 in
theorem t_River_fillRows_L40 {o : Nat} {p1 : Nat} {p2 : Nat} (ho : o ∈ am_rvL) (hp1 : p1 ∈ am_lwL) (hp2 : p2 ∈ am_lwL) {Q : Option Value → am_H → Prop} : ∀ (n : Nat) (v3 : Int32) (v4 : Int32) (v5 : Int32) (v6 : Int32) (h : am_H) (q : Int32 × am_H), am_Sh h → f_River_fillRows_L40 o p1 p2 n v3 v4 v5 v6 h = some q → (am_Sh q.2 → am_G 5 M_River_fillRows 0 0 Q 126 [(0, .ref o), (1, .ref p1), (2, .ref p2), (3, .int v3), (4, .int v4), (5, .int v5), (6, .int q.1)] [] q.2 0 0) → am_G 5 M_River_fillRows 0 0 Q 40 [(0, .ref o), (1, .ref p1), (2, .ref p2), (3, .int v3), (4, .int v4), (5, .int v5), (6, .int v6)] [] h 0 0 := by
  intro n
  induction n with
  | zero =>
    intro v3 v4 v5 v6 h q hs hf kont
    rw [f_River_fillRows_L40] at hf
    cases hf
  | succ n ih =>
    intro v3 v4 v5 v6 h q hs hf kont
    rw [f_River_fillRows_L40] at hf
    refine g_iload (i := 6) (by decide +kernel) rfl ?_
    refine g_iconst (z := 2) (v := 2) (by decide +kernel) rfl ?_
    refine x_icmp_ge (off := 83) (tgt := 126) hf (by decide +kernel) (by decide) (fun c4 hf => ?_) (fun c4 hf => ?_)
    · cases hf
      exact am_G.forget (am_subp [0, 1, 2, 3, 4, 5, 6] rfl) (kont hs)
    · refine g_iload (i := 4) (by decide +kernel) rfl ?_
      refine g_iload (i := 5) (by decide +kernel) rfl ?_
      refine g_iload (i := 6) (by decide +kernel) rfl ?_
      refine g_iconst (z := 1) (v := 1) (by decide +kernel) rfl ?_
      refine am_cut (J := 61) (ls' := [(0, .ref o), (1, .ref p1), (2, .ref p2), (3, .int v3), (4, .int v4), (5, .int v5), (6, .int v6)]) (st' := [.int (if v6 = (1 : Int32) then (1 : Int32) else (0 : Int32)), .int v5, .int v4]) ?_ (fun K61 => ?_)
      · refine x_callSIp (as := [.int v4, .int v5, .int (if v6 = (1 : Int32) then (1 : Int32) else (0 : Int32))]) St_River_row hf (fun q hq => t_River_row hs  hq) Y_River_row L_River_67 (by decide +kernel) rfl rfl (Nat.le_of_ble_eq_true rfl) (by decide) (Nat.le_refl _) (Nat.le_refl _) (fun q6 hf => ?_)
        refine g_istore (i := 7) (by decide +kernel) rfl (by decide) (ls1 := [(0, .ref o), (1, .ref p1), (2, .ref p2), (3, .int v3), (4, .int v4), (5, .int v5), (6, .int v6), (7, .int q6)]) rfl ?_
        refine g_aload_n (i := 0) (by decide +kernel) rfl ?_
        refine g_aload_n (i := 1) (by decide +kernel) rfl ?_
        refine g_iload (i := 4) (by decide +kernel) rfl ?_
        refine g_iload (i := 5) (by decide +kernel) rfl ?_
        refine g_iload (i := 6) (by decide +kernel) rfl ?_
        refine x_callVI (as := [.ref p1, .int v4, .int v5, .int v6]) Vi_River_walkable Vs_River_walkable (hs.k (k_Rv ho)) rfl hf (fun q hq => t_River_walkable hs ho hp1 hq) Y_River_walkable L_River_71 (by decide +kernel) rfl rfl (Nat.le_of_ble_eq_true rfl) (by decide) (Nat.le_refl _) (Nat.le_refl _) (fun q7 hf hs => ?_)
        refine g_istore (i := 8) (by decide +kernel) rfl (by decide) (ls1 := [(0, .ref o), (1, .ref p1), (2, .ref p2), (3, .int v3), (4, .int v4), (5, .int v5), (6, .int v6), (7, .int q6), (8, .int q7.1)]) rfl ?_
        refine g_aload_n (i := 0) (by decide +kernel) rfl ?_
        refine x_getr (hs.k (k_Rv ho)) F_River_46 (by decide +kernel) rfl (hs.r (r_Rv_11 ho)) ?_
        refine g_iload (i := 7) (by decide +kernel) rfl ?_
        refine g_iload (i := 8) (by decide +kernel) rfl ?_
        refine g_iload_n (i := 3) (by decide +kernel) rfl ?_
        refine g_iand (by decide +kernel) ?_
        refine x_iast hf hs (hs.k (k_Rv_11 ho)) (by decide +kernel) (fun h8 hf hs => ?_)
        refine g_aload_n (i := 0) (by decide +kernel) rfl ?_
        refine x_getr (hs.k (k_Rv ho)) F_River_49 (by decide +kernel) rfl (hs.r (r_Rv_12 ho)) ?_
        refine g_iload (i := 7) (by decide +kernel) rfl ?_
        refine g_iload (i := 8) (by decide +kernel) rfl ?_
        refine g_bipush (z := (-4)) (v := (-4)) (by decide +kernel) rfl ?_
        refine g_iand (by decide +kernel) ?_
        refine x_iast hf hs (hs.k (k_Rv_12 ho)) (by decide +kernel) (fun h9 hf hs => ?_)
        refine g_aload_n (i := 0) (by decide +kernel) rfl ?_
        refine x_getr (hs.k (k_Rv ho)) F_River_52 (by decide +kernel) rfl (hs.r (r_Rv_13 ho)) ?_
        refine g_iload (i := 7) (by decide +kernel) rfl ?_
        refine g_aload_n (i := 0) (by decide +kernel) rfl ?_
        refine g_aload_n (i := 2) (by decide +kernel) rfl ?_
        refine g_iload (i := 4) (by decide +kernel) rfl ?_
        refine g_iload (i := 5) (by decide +kernel) rfl ?_
        refine g_iload (i := 6) (by decide +kernel) rfl ?_
        refine x_callVI (as := [.ref p2, .int v4, .int v5, .int v6]) Vi_River_serving Vs_River_serving (hs.k (k_Rv ho)) rfl hf (fun q hq => t_River_serving hs ho hp2 hq) Y_River_serving L_River_75 (by decide +kernel) rfl rfl (Nat.le_of_ble_eq_true rfl) (by decide) (Nat.le_refl _) (Nat.le_refl _) (fun q10 hf hs => ?_)
        refine x_iast hf hs (hs.k (k_Rv_13 ho)) (by decide +kernel) (fun h11 hf hs => ?_)
        refine g_iinc (i := 6) (z := 1) (v := (v6 + (1 : Int32))) (by decide +kernel) rfl rfl rfl (by decide) (ls1 := [(0, .ref o), (1, .ref p1), (2, .ref p2), (3, .int v3), (4, .int v4), (5, .int v5), (6, .int (v6 + (1 : Int32))), (7, .int q6), (8, .int q7.1)]) rfl ?_
        refine g_goto (off := (-83)) (tgt := 40) (by decide +kernel) (by decide) ?_
        exact am_G.forget (am_subp [0, 1, 2, 3, 4, 5, 6] rfl) (ih _ _ _ _ _ _ hs hf kont)
      refine p_icmp_ne (off := 7) (tgt := 60) (by decide +kernel) (by decide) (fun c5 => ?_) (fun c5 => ?_)
      · refine g_iconst (z := 0) (v := 0) (by decide +kernel) rfl ?_
        have K1 := K61
        simp only [if_neg c5] at K1
        exact am_G.forget (am_subp [0, 1, 2, 3, 4, 5, 6] rfl) K1
      · refine g_iconst (z := 1) (v := 1) (by decide +kernel) rfl ?_
        refine g_goto (off := 4) (tgt := 61) (by decide +kernel) (by decide) ?_
        have K1 := K61
        simp only [if_pos c5] at K1
        exact am_G.forget (am_subp [0, 1, 2, 3, 4, 5, 6] rfl) K1
def f_River_fillRows_L28 (o : Nat) (p1 : Nat) (p2 : Nat) : Nat → Int32 → Int32 → Int32 → am_H → Option (Int32 × am_H)
  | 0, _, _, _, _ => none
  | n + 1, v3, v4, v5, h =>
    (if (h.2.1 o 1) ≤ v5 then
      some (v5, h)
    else
      (f_River_fillRows_L40 o p1 p2 am_fu v3 v4 v5 (0 : Int32) h).bind fun q12 =>
      f_River_fillRows_L28 o p1 p2 n v3 v4 (v5 + (1 : Int32)) q12.2)
set_option maxRecDepth 100000 in
set_option maxHeartbeats 4000000 in
theorem t_River_fillRows_L28 {o : Nat} {p1 : Nat} {p2 : Nat} (ho : o ∈ am_rvL) (hp1 : p1 ∈ am_lwL) (hp2 : p2 ∈ am_lwL) {Q : Option Value → am_H → Prop} : ∀ (n : Nat) (v3 : Int32) (v4 : Int32) (v5 : Int32) (h : am_H) (q : Int32 × am_H), am_Sh h → f_River_fillRows_L28 o p1 p2 n v3 v4 v5 h = some q → (am_Sh q.2 → am_G 5 M_River_fillRows 0 0 Q 132 [(0, .ref o), (1, .ref p1), (2, .ref p2), (3, .int v3), (4, .int v4), (5, .int q.1)] [] q.2 0 0) → am_G 5 M_River_fillRows 0 0 Q 28 [(0, .ref o), (1, .ref p1), (2, .ref p2), (3, .int v3), (4, .int v4), (5, .int v5)] [] h 0 0 := by
  intro n
  induction n with
  | zero =>
    intro v3 v4 v5 h q hs hf kont
    rw [f_River_fillRows_L28] at hf
    cases hf
  | succ n ih =>
    intro v3 v4 v5 h q hs hf kont
    rw [f_River_fillRows_L28] at hf
    refine g_iload (i := 5) (by decide +kernel) rfl ?_
    refine g_aload_n (i := 0) (by decide +kernel) rfl ?_
    refine x_geti (hs.k (k_Rv ho)) F_River_15 (by decide +kernel) rfl ?_
    refine x_icmp_ge (off := 98) (tgt := 132) hf (by decide +kernel) (by decide) (fun c3 hf => ?_) (fun c3 hf => ?_)
    · cases hf
      exact am_G.forget (am_subp [0, 1, 2, 3, 4, 5] rfl) (kont hs)
    · refine g_iconst (z := 0) (v := 0) (by decide +kernel) rfl ?_
      refine g_istore (i := 6) (by decide +kernel) rfl (by decide) (ls1 := [(0, .ref o), (1, .ref p1), (2, .ref p2), (3, .int v3), (4, .int v4), (5, .int v5), (6, .int (0 : Int32))]) rfl ?_
      obtain ⟨q12, hqq12, hf⟩ := Option.bind_eq_some_iff.mp hf
      refine am_G.forget (am_subp [0, 1, 2, 3, 4, 5, 6] rfl) (t_River_fillRows_L40 ho hp1 hp2 am_fu _ _ _ _ _ q12 hs hqq12 (fun hs => ?_))
      refine g_iinc (i := 5) (z := 1) (v := (v5 + (1 : Int32))) (by decide +kernel) rfl rfl rfl (by decide) (ls1 := [(0, .ref o), (1, .ref p1), (2, .ref p2), (3, .int v3), (4, .int v4), (5, .int (v5 + (1 : Int32))), (6, .int q12.1)]) rfl ?_
      refine g_goto (off := (-101)) (tgt := 28) (by decide +kernel) (by decide) ?_
      exact am_G.forget (am_subp [0, 1, 2, 3, 4, 5] rfl) (ih _ _ _ _ _ hs hf kont)
def f_River_fillRows_L16 (o : Nat) (p1 : Nat) (p2 : Nat) : Nat → Int32 → Int32 → am_H → Option (Int32 × am_H)
  | 0, _, _, _ => none
  | n + 1, v3, v4, h =>
    (if (h.2.1 o 2) ≤ v4 then
      some (v4, h)
    else
      (f_River_fillRows_L28 o p1 p2 am_fu v3 v4 (0 : Int32) h).bind fun q13 =>
      f_River_fillRows_L16 o p1 p2 n v3 (v4 + (1 : Int32)) q13.2)
set_option maxRecDepth 100000 in
set_option maxHeartbeats 4000000 in
theorem t_River_fillRows_L16 {o : Nat} {p1 : Nat} {p2 : Nat} (ho : o ∈ am_rvL) (hp1 : p1 ∈ am_lwL) (hp2 : p2 ∈ am_lwL) {Q : Option Value → am_H → Prop} : ∀ (n : Nat) (v3 : Int32) (v4 : Int32) (h : am_H) (q : Int32 × am_H), am_Sh h → f_River_fillRows_L16 o p1 p2 n v3 v4 h = some q → (am_Sh q.2 → am_G 5 M_River_fillRows 0 0 Q 138 [(0, .ref o), (1, .ref p1), (2, .ref p2), (3, .int v3), (4, .int q.1)] [] q.2 0 0) → am_G 5 M_River_fillRows 0 0 Q 16 [(0, .ref o), (1, .ref p1), (2, .ref p2), (3, .int v3), (4, .int v4)] [] h 0 0 := by
  intro n
  induction n with
  | zero =>
    intro v3 v4 h q hs hf kont
    rw [f_River_fillRows_L16] at hf
    cases hf
  | succ n ih =>
    intro v3 v4 h q hs hf kont
    rw [f_River_fillRows_L16] at hf
    refine g_iload (i := 4) (by decide +kernel) rfl ?_
    refine g_aload_n (i := 0) (by decide +kernel) rfl ?_
    refine x_geti (hs.k (k_Rv ho)) F_River_18 (by decide +kernel) rfl ?_
    refine x_icmp_ge (off := 116) (tgt := 138) hf (by decide +kernel) (by decide) (fun c2 hf => ?_) (fun c2 hf => ?_)
    · cases hf
      exact am_G.forget (am_subp [0, 1, 2, 3, 4] rfl) (kont hs)
    · refine g_iconst (z := 0) (v := 0) (by decide +kernel) rfl ?_
      refine g_istore (i := 5) (by decide +kernel) rfl (by decide) (ls1 := [(0, .ref o), (1, .ref p1), (2, .ref p2), (3, .int v3), (4, .int v4), (5, .int (0 : Int32))]) rfl ?_
      obtain ⟨q13, hqq13, hf⟩ := Option.bind_eq_some_iff.mp hf
      refine am_G.forget (am_subp [0, 1, 2, 3, 4, 5] rfl) (t_River_fillRows_L28 ho hp1 hp2 am_fu _ _ _ _ q13 hs hqq13 (fun hs => ?_))
      refine g_iinc (i := 4) (z := 1) (v := (v4 + (1 : Int32))) (by decide +kernel) rfl rfl rfl (by decide) (ls1 := [(0, .ref o), (1, .ref p1), (2, .ref p2), (3, .int v3), (4, .int (v4 + (1 : Int32))), (5, .int q13.1)]) rfl ?_
      refine g_goto (off := (-119)) (tgt := 16) (by decide +kernel) (by decide) ?_
      exact am_G.forget (am_subp [0, 1, 2, 3, 4] rfl) (ih _ _ _ _ hs hf kont)
def f_River_fillRows (o : Nat) (p1 : Nat) (p2 : Nat) (h : am_H) : Option (am_H) :=
  am_let (((1 : Int32) <<< (((2 : Int32) * ((h.2.1 o 0) - (1 : Int32))) &&& 31)) - (1 : Int32)) fun y1 =>
  (f_River_fillRows_L16 o p1 p2 am_fu y1 (0 : Int32) h).bind fun q14 =>
  some q14.2
set_option maxRecDepth 100000 in
set_option maxHeartbeats 4000000 in
theorem t_River_fillRows {o : Nat} {p1 : Nat} {p2 : Nat} {h : am_H} (hs : am_Sh h) (ho : o ∈ am_rvL) (hp1 : p1 ∈ am_lwL) (hp2 : p2 ∈ am_lwL) {r : am_H} (hf : f_River_fillRows o p1 p2 h = some r) : am_Ct 5 M_River_fillRows [.ref o, .ref p1, .ref p2] h 0 0 (am_qV r) := by
  unfold f_River_fillRows at hf
  refine am_Ct.of (by decide) rfl (Nat.le_of_ble_eq_true rfl) (ls := [(0, .ref o), (1, .ref p1), (2, .ref p2)]) rfl ?_
  refine g_iconst (z := 1) (v := 1) (by decide +kernel) rfl ?_
  refine g_iconst (z := 2) (v := 2) (by decide +kernel) rfl ?_
  refine g_aload_n (i := 0) (by decide +kernel) rfl ?_
  refine x_geti (hs.k (k_Rv ho)) F_River_9 (by decide +kernel) rfl ?_
  refine g_iconst (z := 1) (v := 1) (by decide +kernel) rfl ?_
  refine g_isub (by decide +kernel) ?_
  refine g_imul (by decide +kernel) ?_
  refine g_ishl (by decide +kernel) ?_
  refine g_iconst (z := 1) (v := 1) (by decide +kernel) rfl ?_
  refine g_isub (by decide +kernel) ?_
  refine x_nmI hf (fun y1 hf => ?_)
  refine g_istore_n (i := 3) (by decide +kernel) rfl (by decide) (ls1 := [(0, .ref o), (1, .ref p1), (2, .ref p2), (3, .int y1)]) rfl ?_
  refine g_iconst (z := 0) (v := 0) (by decide +kernel) rfl ?_
  refine g_istore (i := 4) (by decide +kernel) rfl (by decide) (ls1 := [(0, .ref o), (1, .ref p1), (2, .ref p2), (3, .int y1), (4, .int (0 : Int32))]) rfl ?_
  obtain ⟨q14, hqq14, hf⟩ := Option.bind_eq_some_iff.mp hf
  refine am_G.forget (am_subp [0, 1, 2, 3, 4] rfl) (t_River_fillRows_L16 ho hp1 hp2 am_fu _ _ _ q14 hs hqq14 (fun hs => ?_))
  exact x_vret hf hs (by decide +kernel) rfl (Nat.le_refl _) (Nat.le_refl _)
def f_Reader_read_L51 (p1 : Nat) (p1L : Nat) (p2 : Int32) : Nat → Int32 → am_H → Option (Int32 × am_H)
  | 0, _, _ => none
  | n + 1, v3, h =>
    (if (900 : Int32) ≤ v3 then
      some (v3, h)
    else
      (if (h.2.1 61 1) = 0 then
        (f_Reader_kind  h).bind fun q11 =>
        (if q11 = 0 then
          some (v3, h)
        else
          (f_Reader_readLine  h).bind fun q13 =>
          (f_Reader_expect (59 : Int32) q13).bind fun q14 =>
          am_let (am_sI q14 62 5 ((q14.2.1 62 5) + (1 : Int32))) fun h15 =>
          f_Reader_read_L51 p1 p1L p2 n (v3 + (1 : Int32)) h15)
      else
        some (v3, h)))
set_option maxRecDepth 100000 in
set_option maxHeartbeats 4000000 in
theorem t_Reader_read_L51 {p1 : Nat} {p1L : Nat} {p2 : Int32} (hp1 : am_K0[p1]? = some (.inr (.byte, p1L))) {Q : Option Value → am_H → Prop} : ∀ (n : Nat) (v3 : Int32) (h : am_H) (q : Int32 × am_H), am_Sh h → f_Reader_read_L51 p1 p1L p2 n v3 h = some q → (am_Sh q.2 → am_G 65 M_Reader_read 0 0 Q 101 [(0, .ref 61), (1, .ref p1), (2, .int p2), (3, .int q.1)] [] q.2 0 0) → am_G 65 M_Reader_read 0 0 Q 51 [(0, .ref 61), (1, .ref p1), (2, .int p2), (3, .int v3)] [] h 0 0 := by
  intro n
  induction n with
  | zero =>
    intro v3 h q hs hf kont
    rw [f_Reader_read_L51] at hf
    cases hf
  | succ n ih =>
    intro v3 h q hs hf kont
    rw [f_Reader_read_L51] at hf
    refine g_iload_n (i := 3) (by decide +kernel) rfl ?_
    refine g_sipush (z := 900) (v := 900) (by decide +kernel) rfl ?_
    refine x_icmp_ge (off := 46) (tgt := 101) hf (by decide +kernel) (by decide) (fun c9 hf => ?_) (fun c9 hf => ?_)
    · cases hf
      exact am_G.forget (am_subp [0, 1, 2, 3] rfl) (kont hs)
    · refine g_aload_n (i := 0) (by decide +kernel) rfl ?_
      refine x_geti (hs.k k_61) F_Reader_18 (by decide +kernel) rfl ?_
      refine x_if_ne (off := 39) (tgt := 101) hf (by decide +kernel) (by decide) (fun c10 hf => ?_) (fun c10 hf => ?_)
      · cases hf
        exact am_G.forget (am_subp [0, 1, 2, 3] rfl) (kont hs)
      · refine g_aload_n (i := 0) (by decide +kernel) rfl ?_
        refine x_callVIp (as := []) Vi_Reader_kind Vs_Reader_kind (hs.k k_61) rfl hf (fun q hq => t_Reader_kind hs  hq) Y_Reader_kind L_Reader_61 (by decide +kernel) rfl rfl (Nat.le_of_ble_eq_true rfl) (by decide) (Nat.le_refl _) (Nat.le_refl _) (fun q11 hf => ?_)
        refine x_if_eq (off := 32) (tgt := 101) hf (by decide +kernel) (by decide) (fun c12 hf => ?_) (fun c12 hf => ?_)
        · cases hf
          exact am_G.forget (am_subp [0, 1, 2, 3] rfl) (kont hs)
        · refine g_aload_n (i := 0) (by decide +kernel) rfl ?_
          refine x_callVV (as := []) Vi_Reader_readLine Vs_Reader_readLine (hs.k k_61) rfl hf (fun q hq => t_Reader_readLine hs  hq) Y_Reader_readLine L_Reader_65 (by decide +kernel) rfl rfl (Nat.le_of_ble_eq_true rfl) (by decide) (Nat.le_refl _) (Nat.le_refl _) (fun q13 hf hs => ?_)
          refine g_aload_n (i := 0) (by decide +kernel) rfl ?_
          refine g_bipush (z := 59) (v := 59) (by decide +kernel) rfl ?_
          refine x_callVV (as := [.int (59 : Int32)]) Vi_Reader_expect Vs_Reader_expect (hs.k k_61) rfl hf (fun q hq => t_Reader_expect hs  hq) Y_Reader_expect L_Reader_68 (by decide +kernel) rfl rfl (Nat.le_of_ble_eq_true rfl) (by decide) (Nat.le_refl _) (Nat.le_refl _) (fun q14 hf hs => ?_)
          refine g_aload_n (i := 0) (by decide +kernel) rfl ?_
          refine x_getr (hs.k k_61) F_Reader_12 (by decide +kernel) rfl (hs.r r_61_0) ?_
          refine g_dup (by decide +kernel) rfl ?_
          refine x_geti (hs.k k_62) F_Reader_72 (by decide +kernel) rfl ?_
          refine g_iconst (z := 1) (v := 1) (by decide +kernel) rfl ?_
          refine g_iadd (by decide +kernel) ?_
          refine x_puti hf hs (hs.k k_62) F_Reader_72 (by decide +kernel) rfl rfl rfl rfl (fun h15 hf hs => ?_)
          refine g_iinc (i := 3) (z := 1) (v := (v3 + (1 : Int32))) (by decide +kernel) rfl rfl rfl (by decide) (ls1 := [(0, .ref 61), (1, .ref p1), (2, .int p2), (3, .int (v3 + (1 : Int32)))]) rfl ?_
          refine g_goto (off := (-47)) (tgt := 51) (by decide +kernel) (by decide) ?_
          exact am_G.forget (am_subp [0, 1, 2, 3] rfl) (ih _ _ _ hs hf kont)
def f_Reader_read (p1 : Nat) (p1L : Nat) (p2 : Int32) (h : am_H) : Option (Int32 × am_H) :=
  am_let (am_sI h 61 1 (0 : Int32)) fun h1 =>
  am_let (am_sI h1 61 2 (-1 : Int32)) fun h2 =>
  am_let (am_sI h2 61 3 (0 : Int32)) fun h3 =>
  (f_Tokens_cut p1 p1L p2 h3).bind fun q4 =>
  (f_River_clear 62 q4).bind fun q5 =>
  (f_Law_clear 75 q5).bind fun q6 =>
  (f_Law_clear 79 q6).bind fun q7 =>
  (f_Reader_readHead  q7).bind fun q8 =>
  (f_Reader_read_L51 p1 p1L p2 am_fu (0 : Int32) q8).bind fun q16 =>
  (if (q16.2.2.1 61 1) = 0 then
    (f_River_fillRows 62 75 79 q16.2).bind fun q18 =>
    some ((q18.2.1 61 1), q18)
  else
    some ((q16.2.2.1 61 1), q16.2))
set_option maxRecDepth 100000 in
set_option maxHeartbeats 4000000 in
theorem t_Reader_read {p1 : Nat} {p1L : Nat} {p2 : Int32} {h : am_H} (hs : am_Sh h) (hp1 : am_K0[p1]? = some (.inr (.byte, p1L))) {r : Int32 × am_H} (hf : f_Reader_read p1 p1L p2 h = some r) : am_Ct 65 M_Reader_read [.ref 61, .ref p1, .int p2] h 0 0 (am_qI r) := by
  unfold f_Reader_read at hf
  refine am_Ct.of (by decide) rfl (Nat.le_of_ble_eq_true rfl) (ls := [(0, .ref 61), (1, .ref p1), (2, .int p2)]) rfl ?_
  refine g_aload_n (i := 0) (by decide +kernel) rfl ?_
  refine g_iconst (z := 0) (v := 0) (by decide +kernel) rfl ?_
  refine x_puti hf hs (hs.k k_61) F_Reader_18 (by decide +kernel) rfl rfl rfl rfl (fun h1 hf hs => ?_)
  refine g_aload_n (i := 0) (by decide +kernel) rfl ?_
  refine g_iconst (z := (-1)) (v := (-1)) (by decide +kernel) rfl ?_
  refine x_puti hf hs (hs.k k_61) F_Reader_22 (by decide +kernel) rfl rfl rfl rfl (fun h2 hf hs => ?_)
  refine g_aload_n (i := 0) (by decide +kernel) rfl ?_
  refine g_iconst (z := 0) (v := 0) (by decide +kernel) rfl ?_
  refine x_puti hf hs (hs.k k_61) F_Reader_25 (by decide +kernel) rfl rfl rfl rfl (fun h3 hf hs => ?_)
  refine g_aload_n (i := 0) (by decide +kernel) rfl ?_
  refine x_getr (hs.k k_61) F_Reader_31 (by decide +kernel) rfl (hs.r r_61_4) ?_
  refine g_aload_n (i := 1) (by decide +kernel) rfl ?_
  refine g_iload_n (i := 2) (by decide +kernel) rfl ?_
  refine x_callVV (as := [.ref p1, .int p2]) Vi_Tokens_cut Vs_Tokens_cut (hs.k k_71) rfl hf (fun q hq => t_Tokens_cut hs hp1 hq) Y_Tokens_cut L_Reader_50 (by decide +kernel) rfl rfl (Nat.le_of_ble_eq_true rfl) (by decide) (Nat.le_refl _) (Nat.le_refl _) (fun q4 hf hs => ?_)
  refine g_aload_n (i := 0) (by decide +kernel) rfl ?_
  refine x_getr (hs.k k_61) F_Reader_12 (by decide +kernel) rfl (hs.r r_61_0) ?_
  refine x_callVV (as := []) Vi_River_clear Vs_River_clear (hs.k k_62) rfl hf (fun q hq => t_River_clear hs (by decide) hq) Y_River_clear L_Reader_54 (by decide +kernel) rfl rfl (Nat.le_of_ble_eq_true rfl) (by decide) (Nat.le_refl _) (Nat.le_refl _) (fun q5 hf hs => ?_)
  refine g_aload_n (i := 0) (by decide +kernel) rfl ?_
  refine x_getr (hs.k k_61) F_Reader_40 (by decide +kernel) rfl (hs.r r_61_5) ?_
  refine x_callVV (as := []) Vi_Law_clear Vs_Law_clear (hs.k k_75) rfl hf (fun q hq => t_Law_clear hs (by decide) hq) Y_Law_clear L_Reader_57 (by decide +kernel) rfl rfl (Nat.le_of_ble_eq_true rfl) (by decide) (Nat.le_refl _) (Nat.le_refl _) (fun q6 hf hs => ?_)
  refine g_aload_n (i := 0) (by decide +kernel) rfl ?_
  refine x_getr (hs.k k_61) F_Reader_44 (by decide +kernel) rfl (hs.r r_61_6) ?_
  refine x_callVV (as := []) Vi_Law_clear Vs_Law_clear (hs.k k_79) rfl hf (fun q hq => t_Law_clear hs (by decide) hq) Y_Law_clear L_Reader_57 (by decide +kernel) rfl rfl (Nat.le_of_ble_eq_true rfl) (by decide) (Nat.le_refl _) (Nat.le_refl _) (fun q7 hf hs => ?_)
  refine g_aload_n (i := 0) (by decide +kernel) rfl ?_
  refine x_callVV (as := []) Vi_Reader_readHead Vs_Reader_readHead (hs.k k_61) rfl hf (fun q hq => t_Reader_readHead hs  hq) Y_Reader_readHead L_Reader_58 (by decide +kernel) rfl rfl (Nat.le_of_ble_eq_true rfl) (by decide) (Nat.le_refl _) (Nat.le_refl _) (fun q8 hf hs => ?_)
  refine g_iconst (z := 0) (v := 0) (by decide +kernel) rfl ?_
  refine g_istore_n (i := 3) (by decide +kernel) rfl (by decide) (ls1 := [(0, .ref 61), (1, .ref p1), (2, .int p2), (3, .int (0 : Int32))]) rfl ?_
  obtain ⟨q16, hqq16, hf⟩ := Option.bind_eq_some_iff.mp hf
  refine am_G.forget (am_subp [0, 1, 2, 3] rfl) (t_Reader_read_L51 hp1 am_fu _ _ q16 hs hqq16 (fun hs => ?_))
  refine g_aload_n (i := 0) (by decide +kernel) rfl ?_
  refine x_geti (hs.k k_61) F_Reader_18 (by decide +kernel) rfl ?_
  refine x_if_ne (off := 18) (tgt := 123) hf (by decide +kernel) (by decide) (fun c17 hf => ?_) (fun c17 hf => ?_)
  · refine g_aload_n (i := 0) (by decide +kernel) rfl ?_
    refine x_geti (hs.k k_61) F_Reader_18 (by decide +kernel) rfl ?_
    exact x_iret hf hs (by decide +kernel) rfl (Nat.le_refl _) (Nat.le_refl _)
  · refine g_aload_n (i := 0) (by decide +kernel) rfl ?_
    refine x_getr (hs.k k_61) F_Reader_12 (by decide +kernel) rfl (hs.r r_61_0) ?_
    refine g_aload_n (i := 0) (by decide +kernel) rfl ?_
    refine x_getr (hs.k k_61) F_Reader_40 (by decide +kernel) rfl (hs.r r_61_5) ?_
    refine g_aload_n (i := 0) (by decide +kernel) rfl ?_
    refine x_getr (hs.k k_61) F_Reader_44 (by decide +kernel) rfl (hs.r r_61_6) ?_
    refine x_callVV (as := [.ref 75, .ref 79]) Vi_River_fillRows Vs_River_fillRows (hs.k k_62) rfl hf (fun q hq => t_River_fillRows hs (by decide) (by decide) (by decide) hq) Y_River_fillRows L_Reader_75 (by decide +kernel) rfl rfl (Nat.le_of_ble_eq_true rfl) (by decide) (Nat.le_refl _) (Nat.le_refl _) (fun q18 hf hs => ?_)
    refine g_aload_n (i := 0) (by decide +kernel) rfl ?_
    refine x_geti (hs.k k_61) F_Reader_18 (by decide +kernel) rfl ?_
    exact x_iret hf hs (by decide +kernel) rfl (Nat.le_refl _) (Nat.le_refl _)
