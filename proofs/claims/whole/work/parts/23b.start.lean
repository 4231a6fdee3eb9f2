theorem st_one {args : Array Value} {s : State} {own : String} {ix n N : Nat} (hN : N < 2 ^ 31) (hex : (Cond.exactly (.string own ix) "java/lang/String").before args s = true) (hco : (Cond.eq (.field (.string own ix) "java/lang/String" "coder" "B") (.int 0)).before args s = true) (har : (Cond.arrayOf (.field (.string own ix) "java/lang/String" "value" "[B") .byte).before args s = true) (hle : (Cond.eq (.length (.field (.string own ix) "java/lang/String" "value" "[B")) (.int (Int32.ofNat N))).before args s = true)
    (hel : ∀ j, j < N → (Cond.eq (.elem (.field (.string own ix) "java/lang/String" "value" "[B") (.int (Int32.ofNat j))) (.int (am_sb n j))).before args s = true) :
    ∃ a t : Nat, (Term.string own ix).eval args s none [] s = some (.ref a) ∧ va_O "java/lang/String" a (fun q => s.heap.size ≤ q) s s.heap ∧ va_OF "java/lang/String" "coder" "B" (.int 0) a (fun q => s.heap.size ≤ q) s s.heap ∧ va_OF "java/lang/String" "value" "[B" (.ref t) a (fun q => s.heap.size ≤ q) s s.heap ∧ va_T .byte t N (fun j => .int (am_sb n j)) (fun q => s.heap.size ≤ q) s s.heap := by
  obtain ⟨adK, adV, ⟨h1, -⟩, h2⟩ := vk_Sof (args := args) (s := s) (N := 1) (tm := fun _ => Term.string own ix) (len := [N]) (byt := [am_sL n]) (A := fun q => s.heap.size ≤ q)
    (fun i hi => by have e : i = 0 := (by omega); subst e; exact hN) (fun _ _ => hex) (fun _ _ => hco) (fun _ _ => har) (fun i hi => by have e : i = 0 := (by omega); subst e; exact hle)
    (fun i hi j hj => by have e : i = 0 := (by omega); subst e; exact hel j hj) (fun i j hi hj hne => absurd (by omega) hne) (fun a ha => Nat.not_le.mpr ha)
  obtain ⟨q1, q2, q3, q4⟩ := h1 0 (by omega)
  exact ⟨adK 0, adV 0, h2 0 (by omega), q1, q2, q3, q4⟩
def am_DA (s : State) (ty : FieldType) : ClassId := (s.vm.findClass ("[" ++ ty.toString)).getD 0
theorem da_prim {args : Array Value} {s : State} {ty : FieldType} (h : (Cond.arrayClass ty).before args s = true) (hty : ∀ C, ty ≠ .object C) : ArrOfT s (am_DA s ty) ty ∧ va_RA s (am_DA s ty) ty := by
  obtain ⟨c, k, comp, h1, h2, h3⟩ := Cond.arrayClass_spec h
  have e : am_DA s ty = c := by unfold am_DA; rw [h1]; rfl
  rw [e]
  refine ⟨fun n z => ⟨fun k h => (by cases h), k, h2, comp, h3⟩, ?_⟩
  cases ty with
  | object C => exact absurd rfl (hty C)
  | _ => exact h1
theorem da_obj {args : Array Value} {s : State} {C : String} (h : (Cond.arrayOver (.object C)).before args s = true) : ArrOfT s (am_DA s (.object C)) (.object C) ∧ va_RA s (am_DA s (.object C)) (.object C) := by
  obtain ⟨comp, c, k, h1, -, h2, h3, h4⟩ := Cond.arrayOver_spec h
  have e : am_DA s (.object C) = c := by unfold am_DA; rw [h4]; rfl
  rw [e]
  exact ⟨fun n z => ⟨fun k h => (by cases h), k, h2, comp, h3⟩, k, comp, h2, h3, h1, h4⟩
set_option maxRecDepth 100000 in
set_option maxHeartbeats 4000000 in
theorem am_start {s : State} {b L : Nat} {xs : Nat → Int32} (hts : ∀ w ∈ lw_tbl, w.before #[Value.ref b] s = true) (hX : va_X b L xs s s.heap) (hbl : b < s.heap.size) (hgv : (Jvm.Cond.and given_1 narrow_1).before #[Value.ref b] s = true) : ∃ w : am_W, am_known w s ∧ w.2.2.1 = s.heap ∧ w.2.2.2.1 100 = b ∧ w.2.2.2.2 = (L, xs) := by
  have hfl : ∀ c ∈ am_fl, c.before #[Value.ref b] s = true := flat_of_before _ hgv
  have hfi : ∀ (i : Nat) (c : Cond), am_fl[i]? = some c → c.before #[Value.ref b] s = true := fun i c h => hfl c (List.mem_of_getElem? h)
  have hti : ∀ (i : Nat) (c : Cond), lw_tbl[i]? = some c → c.before #[Value.ref b] s = true := fun i c h => hts c (List.mem_of_getElem? h)
  have htg : ∀ c : Cond, c ∈ lw_g → c.before #[Value.ref b] s = true := fun c h => hts c (List.mem_filter.mp h).1
  obtain ⟨c0, iS0, hK0⟩ := u_known (C := RX0) (T := TX0) (N := 6) (n := 6) hts inX0 (htg _ Ins_Ahead)
  obtain ⟨c1, iS1, hK1⟩ := u_known (C := RX1) (T := TX1) (N := 4) (n := 4) hts inX1 (htg _ Ins_Chances)
  obtain ⟨c2, iS2, hK2⟩ := u_known (C := RX2) (T := TX2) (N := 6) (n := 6) hts inX2 (htg _ Ins_Law)
  obtain ⟨c3, iS3, hK3⟩ := u_known (C := RX3) (T := TX3) (N := 3) (n := 3) hts inX3 (htg _ Ins_Past)
  obtain ⟨c4, iS4, hK4⟩ := u_known (C := RX4) (T := TX4) (N := 8) (n := 8) hts inX4 (htg _ Ins_Reader)
  obtain ⟨c5, iS5, hK5⟩ := u_known (C := RX5) (T := TX5) (N := 14) (n := 14) hts inX5 (htg _ Ins_River)
  obtain ⟨c6, iS6, hK6⟩ := u_known (C := RX6) (T := TX6) (N := 5) (n := 5) hts inX6 (htg _ Ins_Sightings)
  obtain ⟨c7, iS7, hK7⟩ := u_known (C := RX7) (T := TX7) (N := 6) (n := 6) hts inX7 (htg _ Ins_State)
  obtain ⟨c8, iS8, hK8⟩ := u_known (C := RX8) (T := TX8) (N := 4) (n := 4) hts inX8 (htg _ Ins_Tokens)
  obtain ⟨c9, iS9, hK9⟩ := u_known (C := RX9) (T := TX9) (N := 4) (n := 4) hts inX9 (htg _ Ins_Tray)
  obtain ⟨c10, iS10, hK10⟩ := u_known (C := RX10) (T := TX10) (N := 15) (n := 15) hts inX10 (htg _ Ins_Weeks)
  obtain ⟨c11, iS11, hK11⟩ := u_known (C := RX11) (T := TX11) (N := 15) (n := 15) hts inX11 (htg _ Ins_Top)
  obtain ⟨c12, iS12, hK12⟩ := u_known (C := RX12) (T := TX12) (N := 41) (n := 41) hts inX12 (htg _ Ins_Mod)
  obtain ⟨a0, t0, e0, o0, f0, v0, b0⟩ := st_one (n := 0) (N := 12) (by decide) (hfi _ _ sx_0.1) (hfi _ _ sx_0.2.1) (hfi _ _ sx_0.2.2.1) (hfi _ _ sx_0.2.2.2) (fun j hj => hfi _ _ (se_0 j hj))
  obtain ⟨a1, t1, e1, o1, f1, v1, b1⟩ := st_one (n := 1) (N := 105) (by decide) (hfi _ _ sx_1.1) (hfi _ _ sx_1.2.1) (hfi _ _ sx_1.2.2.1) (hfi _ _ sx_1.2.2.2) (fun j hj => hfi _ _ (se_1 j hj))
  obtain ⟨a2, t2, e2, o2, f2, v2, b2⟩ := st_one (n := 2) (N := 105) (by decide) (hfi _ _ sx_2.1) (hfi _ _ sx_2.2.1) (hfi _ _ sx_2.2.2.1) (hfi _ _ sx_2.2.2.2) (fun j hj => hfi _ _ (se_2 j hj))
  obtain ⟨a3, t3, e3, o3, f3, v3, b3⟩ := st_one (n := 3) (N := 12) (by decide) (hfi _ _ sx_3.1) (hfi _ _ sx_3.2.1) (hfi _ _ sx_3.2.2.1) (hfi _ _ sx_3.2.2.2) (fun j hj => hfi _ _ (se_3 j hj))
  have hC := va_Zof (A := fun q => s.heap.size ≤ q) (hti _ _ sc_3) (htg _ In_String) (va_eqi (hfi _ _ sc_1)) (fun a ha => Nat.not_le.mpr ha)
  have hZ := va_Zqof (A := fun q => s.heap.size ≤ q) (hti _ _ sc_4) (htg _ In_Preconditions) (hfi _ _ sc_2) (fun a ha => Nat.not_le.mpr ha)
  obtain ⟨tf, hF⟩ : ∃ tf : Nat, va_Z "jdk/internal/util/Preconditions" "SIOOBE_FORMATTER" "Ljava/util/function/BiFunction;" .null (fun q => s.heap.size ≤ q) s s.heap ∨ va_Z "jdk/internal/util/Preconditions" "SIOOBE_FORMATTER" "Ljava/util/function/BiFunction;" (.ref tf) (fun q => s.heap.size ≤ q) s s.heap := by
    rcases hZ with h | ⟨t, h⟩
    · exact ⟨0, Or.inl h⟩
    · exact ⟨t, Or.inr h⟩
  refine ⟨((fun k => match k with | 0 => c0 | 1 => c1 | 2 => c2 | 3 => c3 | 4 => c4 | 5 => c5 | 6 => c6 | 7 => c7 | 8 => c8 | 9 => c9 | 10 => c10 | 11 => c11 | _ => c12, fun k => match k with | 0 => iS0 | 1 => iS1 | 2 => iS2 | 3 => iS3 | 4 => iS4 | 5 => iS5 | 6 => iS6 | 7 => iS7 | 8 => iS8 | 9 => iS9 | 10 => iS10 | 11 => iS11 | _ => iS12), am_DA s, s.heap, fun k => match k with | 0 => a0 | 1 => a1 | 2 => a2 | 3 => a3 | 10 => t0 | 11 => t1 | 12 => t2 | 13 => t3 | 100 => b | 200 => tf | _ => 0, L, xs), ⟨s, #[Value.ref b], rfl, State.WarmedH.refl s, hts, hgv, rfl, ⟨fun c q hq => ?_, fun k q hq => ?_⟩, hX, hbl, fun q hq => ?_, fun n hn => ?_, hC, hF⟩, rfl, rfl, rfl⟩
  · match c, hq with
    | 0, hq => obtain rfl := Option.some.inj hq; exact hK0
    | 1, hq => obtain rfl := Option.some.inj hq; exact hK1
    | 2, hq => obtain rfl := Option.some.inj hq; exact hK2
    | 3, hq => obtain rfl := Option.some.inj hq; exact hK3
    | 4, hq => obtain rfl := Option.some.inj hq; exact hK4
    | 5, hq => obtain rfl := Option.some.inj hq; exact hK5
    | 6, hq => obtain rfl := Option.some.inj hq; exact hK6
    | 7, hq => obtain rfl := Option.some.inj hq; exact hK7
    | 8, hq => obtain rfl := Option.some.inj hq; exact hK8
    | 9, hq => obtain rfl := Option.some.inj hq; exact hK9
    | 10, hq => obtain rfl := Option.some.inj hq; exact hK10
    | 11, hq => obtain rfl := Option.some.inj hq; exact hK11
    | 12, hq => obtain rfl := Option.some.inj hq; exact hK12
    | c + 13, hq => exact absurd hq (by simp [vwCl])
  · match k, hq with
    | 0, hq => obtain rfl := Option.some.inj hq; exact da_prim (htg _ Ac_int) (by simp)
    | 1, hq => obtain rfl := Option.some.inj hq; exact da_prim (htg _ Ac_long) (by simp)
    | 2, hq => obtain rfl := Option.some.inj hq; exact da_prim (htg _ Ac_byte) (by simp)
    | 3, hq => obtain rfl := Option.some.inj hq; exact da_prim (htg _ Ac_boolean) (by simp)
    | 4, hq => obtain rfl := Option.some.inj hq; exact da_obj (hts _ Ao_Tray)
    | 5, hq => obtain rfl := Option.some.inj hq; exact da_obj (hts _ Ao_River)
    | 6, hq => obtain rfl := Option.some.inj hq; exact da_obj (hts _ Ao_State)
    | k + 7, hq => exact absurd hq (by simp [am_tys, am_tl])
  · have hq2 : q = ("MovedSpan$Tokens", 47, ";:+-*()[]=<>", 0) ∨ q = ("MovedSpan$Tokens", 55, " river week span at rest person west east load to by walks serves foggy hour or and not gap who fog side ", 1) ∨ q = ("MovedSpanModel", 101, " river week span at rest person west east load to by walks serves foggy hour gap who fog side and or not ", 2) ∨ q = ("MovedSpanModel", 139, ";:+-*()[]=<>", 3) := by simpa [am_strs] using hq
    rcases hq2 with rfl | rfl | rfl | rfl
    · exact vk_R.same rfl ⟨(hti _ _ sr_0), e0⟩
    · exact vk_R.same rfl ⟨(hti _ _ sr_1), e1⟩
    · exact vk_R.same rfl ⟨(hti _ _ sr_2), e2⟩
    · exact vk_R.same rfl ⟨(hti _ _ sr_3), e3⟩
  · match n, hn with
    | 0, _ => exact ⟨o0, f0, v0, b0⟩
    | 1, _ => exact ⟨o1, f1, v1, b1⟩
    | 2, _ => exact ⟨o2, f2, v2, b2⟩
    | 3, _ => exact ⟨o3, f3, v3, b3⟩

