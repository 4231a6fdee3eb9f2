def f_Mod_count (p1 : Int32) (h : am_H) : Option (Int32 × am_H) :=
  am_let (am_sI h 136 0 (0 : Int32)) fun h1 =>
  (if p1 = (0 : Int32) then
    (am_rd (h1.2.1 137) 3411 (1 : Int32)).bind fun x2 =>
    some (x2, h1)
  else if p1 = (1 : Int32) then
    (am_rd (h1.2.1 137) 3411 (2 : Int32)).bind fun x3 =>
    some (x3, h1)
  else if p1 = (2 : Int32) then
    (am_rd (h1.2.1 137) 3411 (3 : Int32)).bind fun x4 =>
    some (x4, h1)
  else if p1 = (3 : Int32) then
    (f_Mod_errandsSet  h1).bind fun q5 =>
    some (q5, h1)
  else if p1 = (4 : Int32) then
    (am_rd (h1.2.1 137) 3411 (28 : Int32)).bind fun x6 =>
    some (x6, h1)
  else if p1 = (5 : Int32) then
    (f_Mod_onSpan  h1).bind fun q7 =>
    some (q7, h1)
  else if p1 = (6 : Int32) then
    (am_rd (h1.2.1 137) 3411 (26 : Int32)).bind fun x8 =>
    some (x8, h1)
  else if p1 = (7 : Int32) then
    (am_rd (h1.2.1 137) 3411 (27 : Int32)).bind fun x9 =>
    some (x9, h1)
  else if p1 = (8 : Int32) then
    (am_rd (h1.2.1 137) 3411 (4 : Int32)).bind fun x10 =>
    some (x10, h1)
  else if p1 = (9 : Int32) then
    (am_rd (h1.2.1 137) 3411 (45 : Int32)).bind fun x11 =>
    some (x11, h1)
  else if p1 = (10 : Int32) then
    some ((h1.2.1 136 5), h1)
  else if p1 = (11 : Int32) then
    (am_rd (h1.2.1 137) 3411 (0 : Int32)).bind fun x12 =>
    some (x12, h1)
  else 
    some ((-1 : Int32), h1))
set_option maxRecDepth 100000 in
set_option maxHeartbeats 4000000 in
theorem t_Mod_count {p1 : Int32} {h : am_H} (hs : am_Sh h)  {r : Int32 × am_H} (hf : f_Mod_count p1 h = some r) : am_Ct 2 M_Mod_count [.ref 136, .int p1] h 0 0 (am_qI r) := by
  unfold f_Mod_count at hf
  refine am_Ct.of (by decide) rfl (Nat.le_of_ble_eq_true rfl) (ls := [(0, .ref 136), (1, .int p1)]) rfl ?_
  refine g_aload_n (i := 0) (by decide +kernel) rfl ?_
  refine g_iconst (z := 0) (v := 0) (by decide +kernel) rfl ?_
  refine x_puti hf hs (hs.k k_136) F_Mod_1 (by decide +kernel) rfl rfl rfl rfl (fun h1 hf hs => ?_)
  refine g_iload_n (i := 1) (by decide +kernel) rfl ?_
  by_cases e0 : p1 = (0 : Int32)
  · rw [if_pos e0] at hf
    have ex : Int32.toInt p1 = 0 := by rw [e0]; rfl
    refine x_tabIn (dflt := 144) (lo := 0) (hi := 11) (offs := #[62, 69, 76, 83, 88, 96, 101, 109, 117, 124, 132, 137]) (len := 62) (off := 62) (tgt := 68) (by decide +kernel) (by rw [ex]; decide) (by rw [ex]; decide) (by rw [ex]; rfl) (by decide) ?_
    refine g_aload_n (i := 0) (by decide +kernel) rfl ?_
    refine x_getr (hs.k k_136) F_Mod_13 (by decide +kernel) rfl (hs.r r_136_1) ?_
    refine g_iconst (z := 1) (v := 1) (by decide +kernel) rfl ?_
    refine x_iald hf (hs.k k_137) (by decide +kernel) (fun x2 hf => ?_)
    exact x_iret hf hs (by decide +kernel) rfl (Nat.le_refl _) (Nat.le_refl _)
  · rw [if_neg e0] at hf
    by_cases e1 : p1 = (1 : Int32)
    · rw [if_pos e1] at hf
      have ex : Int32.toInt p1 = 1 := by rw [e1]; rfl
      refine x_tabIn (dflt := 144) (lo := 0) (hi := 11) (offs := #[62, 69, 76, 83, 88, 96, 101, 109, 117, 124, 132, 137]) (len := 62) (off := 69) (tgt := 75) (by decide +kernel) (by rw [ex]; decide) (by rw [ex]; decide) (by rw [ex]; rfl) (by decide) ?_
      refine g_aload_n (i := 0) (by decide +kernel) rfl ?_
      refine x_getr (hs.k k_136) F_Mod_13 (by decide +kernel) rfl (hs.r r_136_1) ?_
      refine g_iconst (z := 2) (v := 2) (by decide +kernel) rfl ?_
      refine x_iald hf (hs.k k_137) (by decide +kernel) (fun x3 hf => ?_)
      exact x_iret hf hs (by decide +kernel) rfl (Nat.le_refl _) (Nat.le_refl _)
    · rw [if_neg e1] at hf
      by_cases e2 : p1 = (2 : Int32)
      · rw [if_pos e2] at hf
        have ex : Int32.toInt p1 = 2 := by rw [e2]; rfl
        refine x_tabIn (dflt := 144) (lo := 0) (hi := 11) (offs := #[62, 69, 76, 83, 88, 96, 101, 109, 117, 124, 132, 137]) (len := 62) (off := 76) (tgt := 82) (by decide +kernel) (by rw [ex]; decide) (by rw [ex]; decide) (by rw [ex]; rfl) (by decide) ?_
        refine g_aload_n (i := 0) (by decide +kernel) rfl ?_
        refine x_getr (hs.k k_136) F_Mod_13 (by decide +kernel) rfl (hs.r r_136_1) ?_
        refine g_iconst (z := 3) (v := 3) (by decide +kernel) rfl ?_
        refine x_iald hf (hs.k k_137) (by decide +kernel) (fun x4 hf => ?_)
        exact x_iret hf hs (by decide +kernel) rfl (Nat.le_refl _) (Nat.le_refl _)
      · rw [if_neg e2] at hf
        by_cases e3 : p1 = (3 : Int32)
        · rw [if_pos e3] at hf
          have ex : Int32.toInt p1 = 3 := by rw [e3]; rfl
          refine x_tabIn (dflt := 144) (lo := 0) (hi := 11) (offs := #[62, 69, 76, 83, 88, 96, 101, 109, 117, 124, 132, 137]) (len := 62) (off := 83) (tgt := 89) (by decide +kernel) (by rw [ex]; decide) (by rw [ex]; decide) (by rw [ex]; rfl) (by decide) ?_
          refine g_aload_n (i := 0) (by decide +kernel) rfl ?_
          refine x_callVIp (as := []) Vi_Mod_errandsSet Vs_Mod_errandsSet (hs.k k_136) rfl hf (fun q hq => t_Mod_errandsSet hs  hq) Y_Mod_errandsSet L_Mod_438 (by decide +kernel) rfl rfl (Nat.le_of_ble_eq_true rfl) (by decide) (Nat.le_refl _) (Nat.le_refl _) (fun q5 hf => ?_)
          exact x_iret hf hs (by decide +kernel) rfl (Nat.le_refl _) (Nat.le_refl _)
        · rw [if_neg e3] at hf
          by_cases e4 : p1 = (4 : Int32)
          · rw [if_pos e4] at hf
            have ex : Int32.toInt p1 = 4 := by rw [e4]; rfl
            refine x_tabIn (dflt := 144) (lo := 0) (hi := 11) (offs := #[62, 69, 76, 83, 88, 96, 101, 109, 117, 124, 132, 137]) (len := 62) (off := 88) (tgt := 94) (by decide +kernel) (by rw [ex]; decide) (by rw [ex]; decide) (by rw [ex]; rfl) (by decide) ?_
            refine g_aload_n (i := 0) (by decide +kernel) rfl ?_
            refine x_getr (hs.k k_136) F_Mod_13 (by decide +kernel) rfl (hs.r r_136_1) ?_
            refine g_bipush (z := 28) (v := 28) (by decide +kernel) rfl ?_
            refine x_iald hf (hs.k k_137) (by decide +kernel) (fun x6 hf => ?_)
            exact x_iret hf hs (by decide +kernel) rfl (Nat.le_refl _) (Nat.le_refl _)
          · rw [if_neg e4] at hf
            by_cases e5 : p1 = (5 : Int32)
            · rw [if_pos e5] at hf
              have ex : Int32.toInt p1 = 5 := by rw [e5]; rfl
              refine x_tabIn (dflt := 144) (lo := 0) (hi := 11) (offs := #[62, 69, 76, 83, 88, 96, 101, 109, 117, 124, 132, 137]) (len := 62) (off := 96) (tgt := 102) (by decide +kernel) (by rw [ex]; decide) (by rw [ex]; decide) (by rw [ex]; rfl) (by decide) ?_
              refine g_aload_n (i := 0) (by decide +kernel) rfl ?_
              refine x_callVIp (as := []) Vi_Mod_onSpan Vs_Mod_onSpan (hs.k k_136) rfl hf (fun q hq => t_Mod_onSpan hs  hq) Y_Mod_onSpan L_Mod_441 (by decide +kernel) rfl rfl (Nat.le_of_ble_eq_true rfl) (by decide) (Nat.le_refl _) (Nat.le_refl _) (fun q7 hf => ?_)
              exact x_iret hf hs (by decide +kernel) rfl (Nat.le_refl _) (Nat.le_refl _)
            · rw [if_neg e5] at hf
              by_cases e6 : p1 = (6 : Int32)
              · rw [if_pos e6] at hf
                have ex : Int32.toInt p1 = 6 := by rw [e6]; rfl
                refine x_tabIn (dflt := 144) (lo := 0) (hi := 11) (offs := #[62, 69, 76, 83, 88, 96, 101, 109, 117, 124, 132, 137]) (len := 62) (off := 101) (tgt := 107) (by decide +kernel) (by rw [ex]; decide) (by rw [ex]; decide) (by rw [ex]; rfl) (by decide) ?_
                refine g_aload_n (i := 0) (by decide +kernel) rfl ?_
                refine x_getr (hs.k k_136) F_Mod_13 (by decide +kernel) rfl (hs.r r_136_1) ?_
                refine g_bipush (z := 26) (v := 26) (by decide +kernel) rfl ?_
                refine x_iald hf (hs.k k_137) (by decide +kernel) (fun x8 hf => ?_)
                exact x_iret hf hs (by decide +kernel) rfl (Nat.le_refl _) (Nat.le_refl _)
              · rw [if_neg e6] at hf
                by_cases e7 : p1 = (7 : Int32)
                · rw [if_pos e7] at hf
                  have ex : Int32.toInt p1 = 7 := by rw [e7]; rfl
                  refine x_tabIn (dflt := 144) (lo := 0) (hi := 11) (offs := #[62, 69, 76, 83, 88, 96, 101, 109, 117, 124, 132, 137]) (len := 62) (off := 109) (tgt := 115) (by decide +kernel) (by rw [ex]; decide) (by rw [ex]; decide) (by rw [ex]; rfl) (by decide) ?_
                  refine g_aload_n (i := 0) (by decide +kernel) rfl ?_
                  refine x_getr (hs.k k_136) F_Mod_13 (by decide +kernel) rfl (hs.r r_136_1) ?_
                  refine g_bipush (z := 27) (v := 27) (by decide +kernel) rfl ?_
                  refine x_iald hf (hs.k k_137) (by decide +kernel) (fun x9 hf => ?_)
                  exact x_iret hf hs (by decide +kernel) rfl (Nat.le_refl _) (Nat.le_refl _)
                · rw [if_neg e7] at hf
                  by_cases e8 : p1 = (8 : Int32)
                  · rw [if_pos e8] at hf
                    have ex : Int32.toInt p1 = 8 := by rw [e8]; rfl
                    refine x_tabIn (dflt := 144) (lo := 0) (hi := 11) (offs := #[62, 69, 76, 83, 88, 96, 101, 109, 117, 124, 132, 137]) (len := 62) (off := 117) (tgt := 123) (by decide +kernel) (by rw [ex]; decide) (by rw [ex]; decide) (by rw [ex]; rfl) (by decide) ?_
                    refine g_aload_n (i := 0) (by decide +kernel) rfl ?_
                    refine x_getr (hs.k k_136) F_Mod_13 (by decide +kernel) rfl (hs.r r_136_1) ?_
                    refine g_iconst (z := 4) (v := 4) (by decide +kernel) rfl ?_
                    refine x_iald hf (hs.k k_137) (by decide +kernel) (fun x10 hf => ?_)
                    exact x_iret hf hs (by decide +kernel) rfl (Nat.le_refl _) (Nat.le_refl _)
                  · rw [if_neg e8] at hf
                    by_cases e9 : p1 = (9 : Int32)
                    · rw [if_pos e9] at hf
                      have ex : Int32.toInt p1 = 9 := by rw [e9]; rfl
                      refine x_tabIn (dflt := 144) (lo := 0) (hi := 11) (offs := #[62, 69, 76, 83, 88, 96, 101, 109, 117, 124, 132, 137]) (len := 62) (off := 124) (tgt := 130) (by decide +kernel) (by rw [ex]; decide) (by rw [ex]; decide) (by rw [ex]; rfl) (by decide) ?_
                      refine g_aload_n (i := 0) (by decide +kernel) rfl ?_
                      refine x_getr (hs.k k_136) F_Mod_13 (by decide +kernel) rfl (hs.r r_136_1) ?_
                      refine g_bipush (z := 45) (v := 45) (by decide +kernel) rfl ?_
                      refine x_iald hf (hs.k k_137) (by decide +kernel) (fun x11 hf => ?_)
                      exact x_iret hf hs (by decide +kernel) rfl (Nat.le_refl _) (Nat.le_refl _)
                    · rw [if_neg e9] at hf
                      by_cases e10 : p1 = (10 : Int32)
                      · rw [if_pos e10] at hf
                        have ex : Int32.toInt p1 = 10 := by rw [e10]; rfl
                        refine x_tabIn (dflt := 144) (lo := 0) (hi := 11) (offs := #[62, 69, 76, 83, 88, 96, 101, 109, 117, 124, 132, 137]) (len := 62) (off := 132) (tgt := 138) (by decide +kernel) (by rw [ex]; decide) (by rw [ex]; decide) (by rw [ex]; rfl) (by decide) ?_
                        refine g_aload_n (i := 0) (by decide +kernel) rfl ?_
                        refine x_geti (hs.k k_136) F_Mod_95 (by decide +kernel) rfl ?_
                        exact x_iret hf hs (by decide +kernel) rfl (Nat.le_refl _) (Nat.le_refl _)
                      · rw [if_neg e10] at hf
                        by_cases e11 : p1 = (11 : Int32)
                        · rw [if_pos e11] at hf
                          have ex : Int32.toInt p1 = 11 := by rw [e11]; rfl
                          refine x_tabIn (dflt := 144) (lo := 0) (hi := 11) (offs := #[62, 69, 76, 83, 88, 96, 101, 109, 117, 124, 132, 137]) (len := 62) (off := 137) (tgt := 143) (by decide +kernel) (by rw [ex]; decide) (by rw [ex]; decide) (by rw [ex]; rfl) (by decide) ?_
                          refine g_aload_n (i := 0) (by decide +kernel) rfl ?_
                          refine x_getr (hs.k k_136) F_Mod_13 (by decide +kernel) rfl (hs.r r_136_1) ?_
                          refine g_iconst (z := 0) (v := 0) (by decide +kernel) rfl ?_
                          refine x_iald hf (hs.k k_137) (by decide +kernel) (fun x12 hf => ?_)
                          exact x_iret hf hs (by decide +kernel) rfl (Nat.le_refl _) (Nat.le_refl _)
                        · rw [if_neg e11] at hf
                          refine x_tabOut (dflt := 144) (lo := 0) (hi := 11) (offs := #[62, 69, 76, 83, 88, 96, 101, 109, 117, 124, 132, 137]) (len := 62) (tgt := 150) (by decide +kernel) (am_tabNe ⟨by decide, by decide⟩ (fun z hz => ?_)) (by decide) ?_
                          · have hz : z < 12 := hz
                            have : z = 0 ∨ z = 1 ∨ z = 2 ∨ z = 3 ∨ z = 4 ∨ z = 5 ∨ z = 6 ∨ z = 7 ∨ z = 8 ∨ z = 9 ∨ z = 10 ∨ z = 11 := by omega
                            rcases this with rfl | rfl | rfl | rfl | rfl | rfl | rfl | rfl | rfl | rfl | rfl | rfl
                            · exact e0
                            · exact e1
                            · exact e2
                            · exact e3
                            · exact e4
                            · exact e5
                            · exact e6
                            · exact e7
                            · exact e8
                            · exact e9
                            · exact e10
                            · exact e11
                          · refine g_iconst (z := (-1)) (v := (-1)) (by decide +kernel) rfl ?_
                            exact x_iret hf hs (by decide +kernel) rfl (Nat.le_refl _) (Nat.le_refl _)
