def am_fl : List Cond := flatC (Jvm.Cond.and given_1 narrow_1)
set_option maxRecDepth 100000 in
theorem sx_0 : am_fl[157]? = some (Cond.exactly (.string "MovedSpan$Tokens" 47) "java/lang/String") ∧ am_fl[158]? = some (Cond.eq (.field (.string "MovedSpan$Tokens" 47) "java/lang/String" "coder" "B") (.int 0)) ∧ am_fl[159]? = some (Cond.arrayOf (.field (.string "MovedSpan$Tokens" 47) "java/lang/String" "value" "[B") .byte) ∧ am_fl[160]? = some (Cond.eq (.length (.field (.string "MovedSpan$Tokens" 47) "java/lang/String" "value" "[B")) (.int (Int32.ofNat 12))) := ⟨by decide +kernel, by decide +kernel, by decide +kernel, by decide +kernel⟩
set_option maxRecDepth 100000 in
theorem se_0 : ∀ j, j < 12 → am_fl[161 + j]? = some (Cond.eq (.elem (.field (.string "MovedSpan$Tokens" 47) "java/lang/String" "value" "[B") (.int (Int32.ofNat j))) (.int (am_sb 0 j))) := by decide +kernel
set_option maxRecDepth 100000 in
theorem sr_0 : lw_tbl[673]? = some (Cond.stringRef "MovedSpan$Tokens" 47 ";:+-*()[]=<>") := by decide +kernel
set_option maxRecDepth 100000 in
theorem sx_1 : am_fl[48]? = some (Cond.exactly (.string "MovedSpan$Tokens" 55) "java/lang/String") ∧ am_fl[49]? = some (Cond.eq (.field (.string "MovedSpan$Tokens" 55) "java/lang/String" "coder" "B") (.int 0)) ∧ am_fl[50]? = some (Cond.arrayOf (.field (.string "MovedSpan$Tokens" 55) "java/lang/String" "value" "[B") .byte) ∧ am_fl[51]? = some (Cond.eq (.length (.field (.string "MovedSpan$Tokens" 55) "java/lang/String" "value" "[B")) (.int (Int32.ofNat 105))) := ⟨by decide +kernel, by decide +kernel, by decide +kernel, by decide +kernel⟩
set_option maxRecDepth 100000 in
theorem se_1 : ∀ j, j < 105 → am_fl[52 + j]? = some (Cond.eq (.elem (.field (.string "MovedSpan$Tokens" 55) "java/lang/String" "value" "[B") (.int (Int32.ofNat j))) (.int (am_sb 1 j))) := by decide +kernel
set_option maxRecDepth 100000 in
theorem sr_1 : lw_tbl[614]? = some (Cond.stringRef "MovedSpan$Tokens" 55 " river week span at rest person west east load to by walks serves foggy hour or and not gap who fog side ") := by decide +kernel
set_option maxRecDepth 100000 in
theorem sx_2 : am_fl[174]? = some (Cond.exactly (.string "MovedSpanModel" 101) "java/lang/String") ∧ am_fl[175]? = some (Cond.eq (.field (.string "MovedSpanModel" 101) "java/lang/String" "coder" "B") (.int 0)) ∧ am_fl[176]? = some (Cond.arrayOf (.field (.string "MovedSpanModel" 101) "java/lang/String" "value" "[B") .byte) ∧ am_fl[177]? = some (Cond.eq (.length (.field (.string "MovedSpanModel" 101) "java/lang/String" "value" "[B")) (.int (Int32.ofNat 105))) := ⟨by decide +kernel, by decide +kernel, by decide +kernel, by decide +kernel⟩
set_option maxRecDepth 100000 in
theorem se_2 : ∀ j, j < 105 → am_fl[178 + j]? = some (Cond.eq (.elem (.field (.string "MovedSpanModel" 101) "java/lang/String" "value" "[B") (.int (Int32.ofNat j))) (.int (am_sb 2 j))) := by decide +kernel
set_option maxRecDepth 100000 in
theorem sr_2 : lw_tbl[1586]? = some (Cond.stringRef "MovedSpanModel" 101 " river week span at rest person west east load to by walks serves foggy hour gap who fog side and or not ") := by decide +kernel
set_option maxRecDepth 100000 in
theorem sx_3 : am_fl[285]? = some (Cond.exactly (.string "MovedSpanModel" 139) "java/lang/String") ∧ am_fl[286]? = some (Cond.eq (.field (.string "MovedSpanModel" 139) "java/lang/String" "coder" "B") (.int 0)) ∧ am_fl[287]? = some (Cond.arrayOf (.field (.string "MovedSpanModel" 139) "java/lang/String" "value" "[B") .byte) ∧ am_fl[288]? = some (Cond.eq (.length (.field (.string "MovedSpanModel" 139) "java/lang/String" "value" "[B")) (.int (Int32.ofNat 12))) := ⟨by decide +kernel, by decide +kernel, by decide +kernel, by decide +kernel⟩
set_option maxRecDepth 100000 in
theorem se_3 : ∀ j, j < 12 → am_fl[289 + j]? = some (Cond.eq (.elem (.field (.string "MovedSpanModel" 139) "java/lang/String" "value" "[B") (.int (Int32.ofNat j))) (.int (am_sb 3 j))) := by decide +kernel
set_option maxRecDepth 100000 in
theorem sr_3 : lw_tbl[1592]? = some (Cond.stringRef "MovedSpanModel" 139 ";:+-*()[]=<>") := by decide +kernel
set_option maxRecDepth 100000 in
theorem sc_1 : am_fl[4]? = some (Cond.eq (.static "java/lang/String" "COMPACT_STRINGS" "Z") (.int 1)) := by decide +kernel
set_option maxRecDepth 100000 in
theorem sc_2 : am_fl[5]? = some (Cond.isRef (.static "jdk/internal/util/Preconditions" "SIOOBE_FORMATTER" "Ljava/util/function/BiFunction;")) := by decide +kernel
set_option maxRecDepth 100000 in
theorem sc_3 : lw_tbl[624]? = some (Cond.laysStatic "java/lang/String" "COMPACT_STRINGS" "Z") := by decide +kernel
set_option maxRecDepth 100000 in
theorem sc_4 : lw_tbl[640]? = some (Cond.laysStatic "jdk/internal/util/Preconditions" "SIOOBE_FORMATTER" "Ljava/util/function/BiFunction;") := by decide +kernel
