/-! ===== words of the constructors ===== -/
theorem ac_int : Cond.arrayClass .int ∈ lw_U := lw_Uin (i := 100) (by decide +kernel) rfl
theorem ac_boolean : Cond.arrayClass .boolean ∈ lw_U := lw_Uin (i := 305) (by decide +kernel) rfl
theorem ac_char : Cond.arrayClass .char ∈ lw_U := lw_Uin (i := 212) (by decide +kernel) rfl
set_option maxRecDepth 100000 in
theorem oi_c : Cond.code Lib.objectInit ⟨#[0xb1]⟩ 1 none ∈ lw_U := lw_Uin (i := 63) (rfl) rfl
theorem oi_i : Cond.instanceMethod Lib.objectInit ∈ lw_U := lw_Uin (i := 62) (by decide +kernel) rfl
def zM : Mem := fun _ _ => 0
set_option maxRecDepth 100000 in
theorem cd_X8_init : Cond.code yX8_init cX8_init 1 none ∈ lw_U := lw_Uin (i := 68) (rfl) rfl
theorem ol_X8 : Cond.methodLink "Lastbus$Stops" 3 Lib.objectInit ∈ lw_U := lw_Uin (i := 69) (by decide +kernel) rfl
theorem ff_X8_9 : FFk "Lastbus$Stops" 9 8 1 (.array .int) := ⟨RX8, TX8, 5, tyX8, rfl, by omega, inU_X8, lw_Uin (i := 76) (by decide +kernel) rfl, rfl, tyX8_ok, nmX8, rfl, rfl, by decide +kernel⟩
theorem clA_X8_15 : Cond.classLink "Lastbus$Stops" 15 "[[I" ∈ lw_U := lw_Uin (i := 70) (by decide +kernel) rfl
theorem ff_X8_17 : FFk "Lastbus$Stops" 17 8 2 (.array (.array .int)) := ⟨RX8, TX8, 5, tyX8, rfl, by omega, inU_X8, lw_Uin (i := 80) (by decide +kernel) rfl, rfl, tyX8_ok, nmX8, rfl, rfl, by decide +kernel⟩
theorem ff_X8_20 : FFk "Lastbus$Stops" 20 8 3 (.array (.array .int)) := ⟨RX8, TX8, 5, tyX8, rfl, by omega, inU_X8, lw_Uin (i := 82) (by decide +kernel) rfl, rfl, tyX8_ok, nmX8, rfl, rfl, by decide +kernel⟩
theorem fpN_X8_23 : FPk "Lastbus$Stops" 23 8 4 .int := ⟨RX8, TX8, 5, tyX8, rfl, by omega, inU_X8, lw_Uin (i := 87) (by decide +kernel) rfl, rfl, tyX8_ok, nmX8, rfl, by decide +kernel⟩
set_option maxRecDepth 100000 in
theorem cd_X7_init : Cond.code yX7_init cX7_init 1 none ∈ lw_U := lw_Uin (i := 105) (rfl) rfl
theorem ol_X7 : Cond.methodLink "Lastbus$Services" 3 Lib.objectInit ∈ lw_U := lw_Uin (i := 106) (by decide +kernel) rfl
theorem ff_X7_9 : FFk "Lastbus$Services" 9 7 1 (.array .int) := ⟨RX7, TX7, 2, tyX7, rfl, by omega, inU_X7, lw_Uin (i := 109) (by decide +kernel) rfl, rfl, tyX7_ok, nmX7, rfl, rfl, by decide +kernel⟩
set_option maxRecDepth 100000 in
theorem cd_X9_init : Cond.code yX9_init cX9_init 1 none ∈ lw_U := lw_Uin (i := 120) (rfl) rfl
theorem ol_X9 : Cond.methodLink "Lastbus$Trips" 3 Lib.objectInit ∈ lw_U := lw_Uin (i := 121) (by decide +kernel) rfl
theorem ff_X9_9 : FFk "Lastbus$Trips" 9 9 1 (.array .int) := ⟨RX9, TX9, 6, tyX9, rfl, by omega, inU_X9, lw_Uin (i := 127) (by decide +kernel) rfl, rfl, tyX9_ok, nmX9, rfl, rfl, by decide +kernel⟩
theorem ff_X9_15 : FFk "Lastbus$Trips" 15 9 2 (.array .int) := ⟨RX9, TX9, 6, tyX9, rfl, by omega, inU_X9, lw_Uin (i := 130) (by decide +kernel) rfl, rfl, tyX9_ok, nmX9, rfl, rfl, by decide +kernel⟩
theorem clA_X9_18 : Cond.classLink "Lastbus$Trips" 18 "[[I" ∈ lw_U := lw_Uin (i := 122) (by decide +kernel) rfl
theorem ff_X9_20 : FFk "Lastbus$Trips" 20 9 3 (.array (.array .int)) := ⟨RX9, TX9, 6, tyX9, rfl, by omega, inU_X9, lw_Uin (i := 134) (by decide +kernel) rfl, rfl, tyX9_ok, nmX9, rfl, rfl, by decide +kernel⟩
theorem ff_X9_23 : FFk "Lastbus$Trips" 23 9 4 (.array (.array .int)) := ⟨RX9, TX9, 6, tyX9, rfl, by omega, inU_X9, lw_Uin (i := 138) (by decide +kernel) rfl, rfl, tyX9_ok, nmX9, rfl, rfl, by decide +kernel⟩
theorem ff_X9_26 : FFk "Lastbus$Trips" 26 9 5 (.array (.array .int)) := ⟨RX9, TX9, 6, tyX9, rfl, by omega, inU_X9, lw_Uin (i := 141) (by decide +kernel) rfl, rfl, tyX9_ok, nmX9, rfl, rfl, by decide +kernel⟩
set_option maxRecDepth 100000 in
theorem cd_X0_init : Cond.code yX0_init cX0_init 1 none ∈ lw_U := lw_Uin (i := 162) (rfl) rfl
theorem ol_X0 : Cond.methodLink "Lastbus$Delays" 3 Lib.objectInit ∈ lw_U := lw_Uin (i := 163) (by decide +kernel) rfl
theorem ff_X0_9 : FFk "Lastbus$Delays" 9 0 1 (.array .int) := ⟨RX0, TX0, 5, tyX0, rfl, by omega, inU_X0, lw_Uin (i := 165) (by decide +kernel) rfl, rfl, tyX0_ok, nmX0, rfl, rfl, by decide +kernel⟩
theorem ff_X0_15 : FFk "Lastbus$Delays" 15 0 2 (.array .int) := ⟨RX0, TX0, 5, tyX0, rfl, by omega, inU_X0, lw_Uin (i := 166) (by decide +kernel) rfl, rfl, tyX0_ok, nmX0, rfl, rfl, by decide +kernel⟩
theorem ff_X0_18 : FFk "Lastbus$Delays" 18 0 3 (.array .int) := ⟨RX0, TX0, 5, tyX0, rfl, by omega, inU_X0, lw_Uin (i := 167) (by decide +kernel) rfl, rfl, tyX0_ok, nmX0, rfl, rfl, by decide +kernel⟩
theorem ff_X0_21 : FFk "Lastbus$Delays" 21 0 4 (.array .int) := ⟨RX0, TX0, 5, tyX0, rfl, by omega, inU_X0, lw_Uin (i := 168) (by decide +kernel) rfl, rfl, tyX0_ok, nmX0, rfl, rfl, by decide +kernel⟩
set_option maxRecDepth 100000 in
theorem cd_X5_init : Cond.code yX5_init cX5_init 1 none ∈ lw_U := lw_Uin (i := 184) (rfl) rfl
theorem ol_X5 : Cond.methodLink "Lastbus$Row" 3 Lib.objectInit ∈ lw_U := lw_Uin (i := 185) (by decide +kernel) rfl
theorem ff_X5_9 : FFk "Lastbus$Row" 9 5 0 (.array .char) := ⟨RX5, TX5, 10, tyX5, rfl, by omega, inU_X5, lw_Uin (i := 186) (by decide +kernel) rfl, rfl, tyX5_ok, nmX5, rfl, rfl, by decide +kernel⟩
theorem fpN_X5_15 : FPk "Lastbus$Row" 15 5 2 .int := ⟨RX5, TX5, 10, tyX5, rfl, by omega, inU_X5, lw_Uin (i := 187) (by decide +kernel) rfl, rfl, tyX5_ok, nmX5, rfl, by decide +kernel⟩
theorem ff_X5_19 : FFk "Lastbus$Row" 19 5 5 (.array .int) := ⟨RX5, TX5, 10, tyX5, rfl, by omega, inU_X5, lw_Uin (i := 188) (by decide +kernel) rfl, rfl, tyX5_ok, nmX5, rfl, rfl, by decide +kernel⟩
theorem ff_X5_23 : FFk "Lastbus$Row" 23 5 6 (.array .int) := ⟨RX5, TX5, 10, tyX5, rfl, by omega, inU_X5, lw_Uin (i := 189) (by decide +kernel) rfl, rfl, tyX5_ok, nmX5, rfl, rfl, by decide +kernel⟩
theorem ff_X5_26 : FFk "Lastbus$Row" 26 5 7 (.array .int) := ⟨RX5, TX5, 10, tyX5, rfl, by omega, inU_X5, lw_Uin (i := 190) (by decide +kernel) rfl, rfl, tyX5_ok, nmX5, rfl, rfl, by decide +kernel⟩
set_option maxRecDepth 100000 in
theorem cd_X3_init : Cond.code yX3_init cX3_init 5 none ∈ lw_U := lw_Uin (i := 217) (rfl) rfl
theorem ol_X3 : Cond.methodLink "Lastbus$Net" 3 Lib.objectInit ∈ lw_U := lw_Uin (i := 218) (by decide +kernel) rfl
theorem ff_X3_9 : FFk "Lastbus$Net" 9 3 5 (.array .int) := ⟨RX3, TX3, 15, tyX3, rfl, by omega, inU_X3, lw_Uin (i := 227) (by decide +kernel) rfl, rfl, tyX3_ok, nmX3, rfl, rfl, by decide +kernel⟩
theorem ff_X3_15 : FFk "Lastbus$Net" 15 3 6 (.array .int) := ⟨RX3, TX3, 15, tyX3, rfl, by omega, inU_X3, lw_Uin (i := 229) (by decide +kernel) rfl, rfl, tyX3_ok, nmX3, rfl, rfl, by decide +kernel⟩
theorem ff_X3_18 : FFk "Lastbus$Net" 18 3 7 (.array .int) := ⟨RX3, TX3, 15, tyX3, rfl, by omega, inU_X3, lw_Uin (i := 231) (by decide +kernel) rfl, rfl, tyX3_ok, nmX3, rfl, rfl, by decide +kernel⟩
theorem clA_X3_21 : Cond.classLink "Lastbus$Net" 21 "[[I" ∈ lw_U := lw_Uin (i := 219) (by decide +kernel) rfl
theorem ff_X3_23 : FFk "Lastbus$Net" 23 3 8 (.array (.array .int)) := ⟨RX3, TX3, 15, tyX3, rfl, by omega, inU_X3, lw_Uin (i := 234) (by decide +kernel) rfl, rfl, tyX3_ok, nmX3, rfl, rfl, by decide +kernel⟩
theorem ff_X3_26 : FFk "Lastbus$Net" 26 3 9 (.array (.array .int)) := ⟨RX3, TX3, 15, tyX3, rfl, by omega, inU_X3, lw_Uin (i := 237) (by decide +kernel) rfl, rfl, tyX3_ok, nmX3, rfl, rfl, by decide +kernel⟩
theorem ff_X3_29 : FFk "Lastbus$Net" 29 3 10 (.array (.array .int)) := ⟨RX3, TX3, 15, tyX3, rfl, by omega, inU_X3, lw_Uin (i := 240) (by decide +kernel) rfl, rfl, tyX3_ok, nmX3, rfl, rfl, by decide +kernel⟩
theorem ff_X3_32 : FFk "Lastbus$Net" 32 3 12 (.array .int) := ⟨RX3, TX3, 15, tyX3, rfl, by omega, inU_X3, lw_Uin (i := 245) (by decide +kernel) rfl, rfl, tyX3_ok, nmX3, rfl, rfl, by decide +kernel⟩
theorem ff_X3_35 : FFk "Lastbus$Net" 35 3 13 (.array .int) := ⟨RX3, TX3, 15, tyX3, rfl, by omega, inU_X3, lw_Uin (i := 247) (by decide +kernel) rfl, rfl, tyX3_ok, nmX3, rfl, rfl, by decide +kernel⟩
theorem ff_X3_38 : FFk "Lastbus$Net" 38 3 14 (.array .int) := ⟨RX3, TX3, 15, tyX3, rfl, by omega, inU_X3, lw_Uin (i := 249) (by decide +kernel) rfl, rfl, tyX3_ok, nmX3, rfl, rfl, by decide +kernel⟩
theorem ff_X3_41 : FFk "Lastbus$Net" 41 3 0 (.object "Lastbus$Stops") := ⟨RX3, TX3, 15, tyX3, rfl, by omega, inU_X3, lw_Uin (i := 220) (by decide +kernel) rfl, rfl, tyX3_ok, nmX3, rfl, rfl, by decide +kernel⟩
theorem ff_X3_45 : FFk "Lastbus$Net" 45 3 1 (.object "Lastbus$Services") := ⟨RX3, TX3, 15, tyX3, rfl, by omega, inU_X3, lw_Uin (i := 221) (by decide +kernel) rfl, rfl, tyX3_ok, nmX3, rfl, rfl, by decide +kernel⟩
theorem ff_X3_49 : FFk "Lastbus$Net" 49 3 2 (.object "Lastbus$Trips") := ⟨RX3, TX3, 15, tyX3, rfl, by omega, inU_X3, lw_Uin (i := 222) (by decide +kernel) rfl, rfl, tyX3_ok, nmX3, rfl, rfl, by decide +kernel⟩
theorem ff_X3_53 : FFk "Lastbus$Net" 53 3 3 (.object "Lastbus$Delays") := ⟨RX3, TX3, 15, tyX3, rfl, by omega, inU_X3, lw_Uin (i := 223) (by decide +kernel) rfl, rfl, tyX3_ok, nmX3, rfl, rfl, by decide +kernel⟩
set_option maxRecDepth 100000 in
theorem cd_X2_init : Cond.code yX2_init cX2_init 2 none ∈ lw_U := lw_Uin (i := 291) (rfl) rfl
theorem ol_X2 : Cond.methodLink "Lastbus$Labels" 3 Lib.objectInit ∈ lw_U := lw_Uin (i := 292) (by decide +kernel) rfl
theorem ff_X2_9 : FFk "Lastbus$Labels" 9 2 1 (.array .int) := ⟨RX2, TX2, 3, tyX2, rfl, by omega, inU_X2, lw_Uin (i := 294) (by decide +kernel) rfl, rfl, tyX2_ok, nmX2, rfl, rfl, by decide +kernel⟩
theorem ff_X2_15 : FFk "Lastbus$Labels" 15 2 2 (.array .int) := ⟨RX2, TX2, 3, tyX2, rfl, by omega, inU_X2, lw_Uin (i := 296) (by decide +kernel) rfl, rfl, tyX2_ok, nmX2, rfl, rfl, by decide +kernel⟩
theorem ff_X2_18 : FFk "Lastbus$Labels" 18 2 0 (.object "Lastbus$Stops") := ⟨RX2, TX2, 3, tyX2, rfl, by omega, inU_X2, lw_Uin (i := 293) (by decide +kernel) rfl, rfl, tyX2_ok, nmX2, rfl, rfl, by decide +kernel⟩
set_option maxRecDepth 100000 in
theorem cd_X6_init : Cond.code yX6_init cX6_init 3 none ∈ lw_U := lw_Uin (i := 285) (rfl) rfl
theorem ol_X6 : Cond.methodLink "Lastbus$Search" 3 Lib.objectInit ∈ lw_U := lw_Uin (i := 286) (by decide +kernel) rfl
theorem ff_X6_9 : FFk "Lastbus$Search" 9 6 3 (.array .boolean) := ⟨RX6, TX6, 10, tyX6, rfl, by omega, inU_X6, lw_Uin (i := 310) (by decide +kernel) rfl, rfl, tyX6_ok, nmX6, rfl, rfl, by decide +kernel⟩
theorem ff_X6_15 : FFk "Lastbus$Search" 15 6 4 (.array .int) := ⟨RX6, TX6, 10, tyX6, rfl, by omega, inU_X6, lw_Uin (i := 311) (by decide +kernel) rfl, rfl, tyX6_ok, nmX6, rfl, rfl, by decide +kernel⟩
theorem ff_X6_19 : FFk "Lastbus$Search" 19 6 5 (.array .int) := ⟨RX6, TX6, 10, tyX6, rfl, by omega, inU_X6, lw_Uin (i := 312) (by decide +kernel) rfl, rfl, tyX6_ok, nmX6, rfl, rfl, by decide +kernel⟩
theorem ff_X6_22 : FFk "Lastbus$Search" 22 6 6 (.array .boolean) := ⟨RX6, TX6, 10, tyX6, rfl, by omega, inU_X6, lw_Uin (i := 313) (by decide +kernel) rfl, rfl, tyX6_ok, nmX6, rfl, rfl, by decide +kernel⟩
theorem ff_X6_25 : FFk "Lastbus$Search" 25 6 8 (.array .int) := ⟨RX6, TX6, 10, tyX6, rfl, by omega, inU_X6, lw_Uin (i := 316) (by decide +kernel) rfl, rfl, tyX6_ok, nmX6, rfl, rfl, by decide +kernel⟩
theorem ff_X6_28 : FFk "Lastbus$Search" 28 6 9 (.array .int) := ⟨RX6, TX6, 10, tyX6, rfl, by omega, inU_X6, lw_Uin (i := 318) (by decide +kernel) rfl, rfl, tyX6_ok, nmX6, rfl, rfl, by decide +kernel⟩
theorem ff_X6_31 : FFk "Lastbus$Search" 31 6 0 (.object "Lastbus$Stops") := ⟨RX6, TX6, 10, tyX6, rfl, by omega, inU_X6, lw_Uin (i := 306) (by decide +kernel) rfl, rfl, tyX6_ok, nmX6, rfl, rfl, by decide +kernel⟩
theorem ff_X6_35 : FFk "Lastbus$Search" 35 6 1 (.object "Lastbus$Net") := ⟨RX6, TX6, 10, tyX6, rfl, by omega, inU_X6, lw_Uin (i := 307) (by decide +kernel) rfl, rfl, tyX6_ok, nmX6, rfl, rfl, by decide +kernel⟩
theorem no_X6_39 : Cond.classLink "Lastbus$Search" 39 "Lastbus$Labels" ∈ lw_U ∧ Cond.instantiable "Lastbus$Labels" 3 ∈ lw_U ∧ Cond.initialized "Lastbus$Labels" ∈ lw_U := ⟨lw_Uin (i := 287) (by decide +kernel) rfl, lw_Uin (i := 288) (by decide +kernel) rfl, lw_Uin (i := 40) (by decide +kernel) rfl⟩
theorem df_X2 : ∀ j, j < 3 → defaultValue (tyX2 j) = vp_V [.null, .null, .null] j := by
  intro j hj
  match j, hj with
  | 0, _ => rfl
  | 1, _ => rfl
  | 2, _ => rfl
  | j + 3, h => exact absurd h (by omega)
theorem ci_X6_41 : CIk "Lastbus$Search" 41 yX2_init cX2_init 2 1 := ⟨Or.inr (lw_Uin (i := 289) (by decide +kernel) rfl), lw_Uin (i := 290) (by decide +kernel) rfl, lw_Uin (i := 40) (by decide +kernel) rfl, cd_X2_init, rfl, ⟨by decide +kernel, by decide +kernel, by decide +kernel⟩⟩
theorem ff_X6_44 : FFk "Lastbus$Search" 44 6 2 (.object "Lastbus$Labels") := ⟨RX6, TX6, 10, tyX6, rfl, by omega, inU_X6, lw_Uin (i := 308) (by decide +kernel) rfl, rfl, tyX6_ok, nmX6, rfl, rfl, by decide +kernel⟩
set_option maxRecDepth 100000 in
theorem cd_X10_init : Cond.code yX10_init cX10_init 5 none ∈ lw_U := lw_Uin (i := 389) (rfl) rfl
theorem ol_X10 : Cond.methodLink "Lastbus$Wishes" 3 Lib.objectInit ∈ lw_U := lw_Uin (i := 390) (by decide +kernel) rfl
theorem ff_X10_9 : FFk "Lastbus$Wishes" 9 10 5 (.array .int) := ⟨RX10, TX10, 11, tyX10, rfl, by omega, inU_X10, lw_Uin (i := 396) (by decide +kernel) rfl, rfl, tyX10_ok, nmX10, rfl, rfl, by decide +kernel⟩
theorem ff_X10_15 : FFk "Lastbus$Wishes" 15 10 6 (.array .int) := ⟨RX10, TX10, 11, tyX10, rfl, by omega, inU_X10, lw_Uin (i := 397) (by decide +kernel) rfl, rfl, tyX10_ok, nmX10, rfl, rfl, by decide +kernel⟩
theorem ff_X10_18 : FFk "Lastbus$Wishes" 18 10 7 (.array .int) := ⟨RX10, TX10, 11, tyX10, rfl, by omega, inU_X10, lw_Uin (i := 398) (by decide +kernel) rfl, rfl, tyX10_ok, nmX10, rfl, rfl, by decide +kernel⟩
theorem ff_X10_21 : FFk "Lastbus$Wishes" 21 10 8 (.array .int) := ⟨RX10, TX10, 11, tyX10, rfl, by omega, inU_X10, lw_Uin (i := 399) (by decide +kernel) rfl, rfl, tyX10_ok, nmX10, rfl, rfl, by decide +kernel⟩
theorem ff_X10_24 : FFk "Lastbus$Wishes" 24 10 9 (.array .int) := ⟨RX10, TX10, 11, tyX10, rfl, by omega, inU_X10, lw_Uin (i := 400) (by decide +kernel) rfl, rfl, tyX10_ok, nmX10, rfl, rfl, by decide +kernel⟩
theorem clA_X10_27 : Cond.classLink "Lastbus$Wishes" 27 "[[I" ∈ lw_U := lw_Uin (i := 391) (by decide +kernel) rfl
theorem ff_X10_29 : FFk "Lastbus$Wishes" 29 10 10 (.array (.array .int)) := ⟨RX10, TX10, 11, tyX10, rfl, by omega, inU_X10, lw_Uin (i := 401) (by decide +kernel) rfl, rfl, tyX10_ok, nmX10, rfl, rfl, by decide +kernel⟩
theorem ff_X10_32 : FFk "Lastbus$Wishes" 32 10 0 (.object "Lastbus$Stops") := ⟨RX10, TX10, 11, tyX10, rfl, by omega, inU_X10, lw_Uin (i := 392) (by decide +kernel) rfl, rfl, tyX10_ok, nmX10, rfl, rfl, by decide +kernel⟩
theorem ff_X10_36 : FFk "Lastbus$Wishes" 36 10 1 (.object "Lastbus$Services") := ⟨RX10, TX10, 11, tyX10, rfl, by omega, inU_X10, lw_Uin (i := 393) (by decide +kernel) rfl, rfl, tyX10_ok, nmX10, rfl, rfl, by decide +kernel⟩
theorem ff_X10_40 : FFk "Lastbus$Wishes" 40 10 2 (.object "Lastbus$Trips") := ⟨RX10, TX10, 11, tyX10, rfl, by omega, inU_X10, lw_Uin (i := 394) (by decide +kernel) rfl, rfl, tyX10_ok, nmX10, rfl, rfl, by decide +kernel⟩
theorem ff_X10_44 : FFk "Lastbus$Wishes" 44 10 3 (.object "Lastbus$Delays") := ⟨RX10, TX10, 11, tyX10, rfl, by omega, inU_X10, lw_Uin (i := 395) (by decide +kernel) rfl, rfl, tyX10_ok, nmX10, rfl, rfl, by decide +kernel⟩
set_option maxRecDepth 100000 in
theorem cd_X1_init : Cond.code yX1_init cX1_init 1 none ∈ lw_U := lw_Uin (i := 429) (rfl) rfl
theorem ol_X1 : Cond.methodLink "Lastbus$Fleet" 3 Lib.objectInit ∈ lw_U := lw_Uin (i := 430) (by decide +kernel) rfl
theorem ff_X1_9 : FFk "Lastbus$Fleet" 9 1 1 (.array .int) := ⟨RX1, TX1, 11, tyX1, rfl, by omega, inU_X1, lw_Uin (i := 432) (by decide +kernel) rfl, rfl, tyX1_ok, nmX1, rfl, rfl, by decide +kernel⟩
theorem ff_X1_15 : FFk "Lastbus$Fleet" 15 1 2 (.array .int) := ⟨RX1, TX1, 11, tyX1, rfl, by omega, inU_X1, lw_Uin (i := 433) (by decide +kernel) rfl, rfl, tyX1_ok, nmX1, rfl, rfl, by decide +kernel⟩
theorem ff_X1_18 : FFk "Lastbus$Fleet" 18 1 3 (.array .int) := ⟨RX1, TX1, 11, tyX1, rfl, by omega, inU_X1, lw_Uin (i := 434) (by decide +kernel) rfl, rfl, tyX1_ok, nmX1, rfl, rfl, by decide +kernel⟩
theorem ff_X1_21 : FFk "Lastbus$Fleet" 21 1 4 (.array .int) := ⟨RX1, TX1, 11, tyX1, rfl, by omega, inU_X1, lw_Uin (i := 435) (by decide +kernel) rfl, rfl, tyX1_ok, nmX1, rfl, rfl, by decide +kernel⟩
theorem ff_X1_24 : FFk "Lastbus$Fleet" 24 1 5 (.array .int) := ⟨RX1, TX1, 11, tyX1, rfl, by omega, inU_X1, lw_Uin (i := 436) (by decide +kernel) rfl, rfl, tyX1_ok, nmX1, rfl, rfl, by decide +kernel⟩
theorem ff_X1_27 : FFk "Lastbus$Fleet" 27 1 6 (.array .int) := ⟨RX1, TX1, 11, tyX1, rfl, by omega, inU_X1, lw_Uin (i := 437) (by decide +kernel) rfl, rfl, tyX1_ok, nmX1, rfl, rfl, by decide +kernel⟩
theorem ff_X1_30 : FFk "Lastbus$Fleet" 30 1 7 (.array .int) := ⟨RX1, TX1, 11, tyX1, rfl, by omega, inU_X1, lw_Uin (i := 438) (by decide +kernel) rfl, rfl, tyX1_ok, nmX1, rfl, rfl, by decide +kernel⟩
theorem ff_X1_33 : FFk "Lastbus$Fleet" 33 1 8 (.array .int) := ⟨RX1, TX1, 11, tyX1, rfl, by omega, inU_X1, lw_Uin (i := 439) (by decide +kernel) rfl, rfl, tyX1_ok, nmX1, rfl, rfl, by decide +kernel⟩
theorem ff_X1_36 : FFk "Lastbus$Fleet" 36 1 9 (.array .int) := ⟨RX1, TX1, 11, tyX1, rfl, by omega, inU_X1, lw_Uin (i := 440) (by decide +kernel) rfl, rfl, tyX1_ok, nmX1, rfl, rfl, by decide +kernel⟩
theorem ff_X1_39 : FFk "Lastbus$Fleet" 39 1 10 (.array .int) := ⟨RX1, TX1, 11, tyX1, rfl, by omega, inU_X1, lw_Uin (i := 441) (by decide +kernel) rfl, rfl, tyX1_ok, nmX1, rfl, rfl, by decide +kernel⟩
def SN_X8 : List Sh := [.inr (0, 12, none), .inr (3, 12, some (2, 1)), .inr (0, 12, none), .inr (0, 12, none), .inr (0, 12, none), .inr (0, 12, none), .inr (0, 12, none), .inr (0, 12, none), .inr (0, 12, none), .inr (0, 12, none), .inr (0, 12, none), .inr (0, 12, none), .inr (0, 12, none), .inr (0, 12, none), .inr (3, 12, some (15, 1)), .inr (0, 12, none), .inr (0, 12, none), .inr (0, 12, none), .inr (0, 12, none), .inr (0, 12, none), .inr (0, 12, none), .inr (0, 12, none), .inr (0, 12, none), .inr (0, 12, none), .inr (0, 12, none), .inr (0, 12, none), .inr (0, 12, none)]
def rm_N_X8 : Room := { frames := 1, cells := 27, slots := 324, locals := 12 }
def fkT_X8 : List FV := [.inl (.int 0), .inr 0, .inr 1, .inr 14, .inl (.int (i32 (-1)))]
set_option maxRecDepth 100000 in
set_option maxHeartbeats 4000000 in
theorem N_X8 (G : Gl) (ex : List Nat) (hex : ex.length = 0) : ConN G yX8_init cX8_init 1 rm_N_X8 8 [.int 0, .null, .null, .null, .int 0] ex fkT_X8 SN_X8 zM := by
  obtain rfl : ex = [] := List.length_eq_zero_iff.mp hex
  refine conN_of (own := "Lastbus$Stops") (by decide) rfl rfl (Nat.le_of_ble_eq_true rfl) (fun a C X nm ao => ?_)
  show NJ G rm_N_X8 (QN G rm_N_X8 C [] a 8 fkT_X8 SN_X8 zM) C [] a 8 0 0 0 [(0, .inl (.ref a))] [] [.inl (.int 0), .inl .null, .inl .null, .inl .null, .inl (.int 0)] [] zM (fun _ => [])
  refine n_load X 0 rfl dX8_init_0 ?_
  refine n_objInit X ol_X8 oi_i oi_c rfl dX8_init_1 (Nat.le_of_ble_eq_true rfl) (Nat.le_of_ble_eq_true rfl) ?_
  refine n_load X 0 rfl dX8_init_4 ?_
  refine n_bipush X (by omega) dX8_init_5 ?_
  refine n_newa (t := 0) (N := 12) X (at9 := .int) (ty := .int) rfl rfl (fun _ _ => Iff.rfl) ac_int (fun _ => rfl) (by omega) (by decide) (fun _ => rfl) (Nat.le_of_ble_eq_true rfl) rfl (fun _ _ _ => rfl) (Nat.le_of_ble_eq_true rfl) (Nat.le_of_ble_eq_true rfl) dX8_init_7 ?_
  refine n_putF (v := .inr 0) X nm ff_X8_9 (fun _ => ⟨rfl, rfl⟩) (Nat.le_of_ble_eq_true rfl) dX8_init_9 ?_
  refine n_load X 0 rfl dX8_init_12 ?_
  refine n_bipush X (by omega) dX8_init_13 ?_
  refine n_bipush X (by omega) dX8_init_15 ?_
  refine n_mna (N := 12) (K := 12) X clA_X8_15 ac_int ao.1 (by omega) (by omega) (fun c _ _ i => rfl) (Nat.le_of_ble_eq_true rfl) rfl (fun _ _ _ => rfl) (Nat.le_of_ble_eq_true rfl) (Nat.le_of_ble_eq_true rfl) dX8_init_17 ?_
  refine n_putF (v := .inr 1) X nm ff_X8_17 (fun _ => ⟨rfl, rfl⟩) (Nat.le_of_ble_eq_true rfl) dX8_init_21 ?_
  refine n_load X 0 rfl dX8_init_24 ?_
  refine n_bipush X (by omega) dX8_init_25 ?_
  refine n_bipush X (by omega) dX8_init_27 ?_
  refine n_mna (N := 12) (K := 12) X clA_X8_15 ac_int ao.1 (by omega) (by omega) (fun c _ _ i => rfl) (Nat.le_of_ble_eq_true rfl) rfl (fun _ _ _ => rfl) (Nat.le_of_ble_eq_true rfl) (Nat.le_of_ble_eq_true rfl) dX8_init_29 ?_
  refine n_putF (v := .inr 14) X nm ff_X8_20 (fun _ => ⟨rfl, rfl⟩) (Nat.le_of_ble_eq_true rfl) dX8_init_33 ?_
  refine n_load X 0 rfl dX8_init_36 ?_
  refine n_const X dX8_init_37 ?_
  refine n_putI (v := .inl (.int (i32 (-1)))) X fpN_X8_23 (fun _ => ⟨rfl, rfl⟩) (Nat.le_of_ble_eq_true rfl) dX8_init_38 ?_
  exact n_ret X (Nat.le_of_ble_eq_true rfl) (Nat.le_of_ble_eq_true rfl) dX8_init_41
def SN_X7 : List Sh := [.inr (0, 6, none)]
def rm_N_X7 : Room := { frames := 1, cells := 1, slots := 6, locals := 12 }
def fkT_X7 : List FV := [.inl (.int 0), .inr 0]
set_option maxRecDepth 100000 in
set_option maxHeartbeats 4000000 in
theorem N_X7 (G : Gl) (ex : List Nat) (hex : ex.length = 0) : ConN G yX7_init cX7_init 1 rm_N_X7 7 [.int 0, .null] ex fkT_X7 SN_X7 zM := by
  obtain rfl : ex = [] := List.length_eq_zero_iff.mp hex
  refine conN_of (own := "Lastbus$Services") (by decide) rfl rfl (Nat.le_of_ble_eq_true rfl) (fun a C X nm ao => ?_)
  show NJ G rm_N_X7 (QN G rm_N_X7 C [] a 7 fkT_X7 SN_X7 zM) C [] a 7 0 0 0 [(0, .inl (.ref a))] [] [.inl (.int 0), .inl .null] [] zM (fun _ => [])
  refine n_load X 0 rfl dX7_init_0 ?_
  refine n_objInit X ol_X7 oi_i oi_c rfl dX7_init_1 (Nat.le_of_ble_eq_true rfl) (Nat.le_of_ble_eq_true rfl) ?_
  refine n_load X 0 rfl dX7_init_4 ?_
  refine n_bipush X (by omega) dX7_init_5 ?_
  refine n_newa (t := 0) (N := 6) X (at9 := .int) (ty := .int) rfl rfl (fun _ _ => Iff.rfl) ac_int (fun _ => rfl) (by omega) (by decide) (fun _ => rfl) (Nat.le_of_ble_eq_true rfl) rfl (fun _ _ _ => rfl) (Nat.le_of_ble_eq_true rfl) (Nat.le_of_ble_eq_true rfl) dX7_init_7 ?_
  refine n_putF (v := .inr 0) X nm ff_X7_9 (fun _ => ⟨rfl, rfl⟩) (Nat.le_of_ble_eq_true rfl) dX7_init_9 ?_
  exact n_ret X (Nat.le_of_ble_eq_true rfl) (Nat.le_of_ble_eq_true rfl) dX7_init_12
def SN_X9 : List Sh := [.inr (0, 24, none), .inr (0, 24, none), .inr (3, 24, some (3, 1)), .inr (0, 8, none), .inr (0, 8, none), .inr (0, 8, none), .inr (0, 8, none), .inr (0, 8, none), .inr (0, 8, none), .inr (0, 8, none), .inr (0, 8, none), .inr (0, 8, none), .inr (0, 8, none), .inr (0, 8, none), .inr (0, 8, none), .inr (0, 8, none), .inr (0, 8, none), .inr (0, 8, none), .inr (0, 8, none), .inr (0, 8, none), .inr (0, 8, none), .inr (0, 8, none), .inr (0, 8, none), .inr (0, 8, none), .inr (0, 8, none), .inr (0, 8, none), .inr (0, 8, none), .inr (3, 24, some (28, 1)), .inr (0, 8, none), .inr (0, 8, none), .inr (0, 8, none), .inr (0, 8, none), .inr (0, 8, none), .inr (0, 8, none), .inr (0, 8, none), .inr (0, 8, none), .inr (0, 8, none), .inr (0, 8, none), .inr (0, 8, none), .inr (0, 8, none), .inr (0, 8, none), .inr (0, 8, none), .inr (0, 8, none), .inr (0, 8, none), .inr (0, 8, none), .inr (0, 8, none), .inr (0, 8, none), .inr (0, 8, none), .inr (0, 8, none), .inr (0, 8, none), .inr (0, 8, none), .inr (0, 8, none), .inr (3, 24, some (53, 1)), .inr (0, 8, none), .inr (0, 8, none), .inr (0, 8, none), .inr (0, 8, none), .inr (0, 8, none), .inr (0, 8, none), .inr (0, 8, none), .inr (0, 8, none), .inr (0, 8, none), .inr (0, 8, none), .inr (0, 8, none), .inr (0, 8, none), .inr (0, 8, none), .inr (0, 8, none), .inr (0, 8, none), .inr (0, 8, none), .inr (0, 8, none), .inr (0, 8, none), .inr (0, 8, none), .inr (0, 8, none), .inr (0, 8, none), .inr (0, 8, none), .inr (0, 8, none), .inr (0, 8, none)]
def rm_N_X9 : Room := { frames := 1, cells := 77, slots := 696, locals := 12 }
def fkT_X9 : List FV := [.inl (.int 0), .inr 0, .inr 1, .inr 2, .inr 27, .inr 52]
set_option maxRecDepth 100000 in
set_option maxHeartbeats 4000000 in
theorem N_X9 (G : Gl) (ex : List Nat) (hex : ex.length = 0) : ConN G yX9_init cX9_init 1 rm_N_X9 9 [.int 0, .null, .null, .null, .null, .null] ex fkT_X9 SN_X9 zM := by
  obtain rfl : ex = [] := List.length_eq_zero_iff.mp hex
  refine conN_of (own := "Lastbus$Trips") (by decide) rfl rfl (Nat.le_of_ble_eq_true rfl) (fun a C X nm ao => ?_)
  show NJ G rm_N_X9 (QN G rm_N_X9 C [] a 9 fkT_X9 SN_X9 zM) C [] a 9 0 0 0 [(0, .inl (.ref a))] [] [.inl (.int 0), .inl .null, .inl .null, .inl .null, .inl .null, .inl .null] [] zM (fun _ => [])
  refine n_load X 0 rfl dX9_init_0 ?_
  refine n_objInit X ol_X9 oi_i oi_c rfl dX9_init_1 (Nat.le_of_ble_eq_true rfl) (Nat.le_of_ble_eq_true rfl) ?_
  refine n_load X 0 rfl dX9_init_4 ?_
  refine n_bipush X (by omega) dX9_init_5 ?_
  refine n_newa (t := 0) (N := 24) X (at9 := .int) (ty := .int) rfl rfl (fun _ _ => Iff.rfl) ac_int (fun _ => rfl) (by omega) (by decide) (fun _ => rfl) (Nat.le_of_ble_eq_true rfl) rfl (fun _ _ _ => rfl) (Nat.le_of_ble_eq_true rfl) (Nat.le_of_ble_eq_true rfl) dX9_init_7 ?_
  refine n_putF (v := .inr 0) X nm ff_X9_9 (fun _ => ⟨rfl, rfl⟩) (Nat.le_of_ble_eq_true rfl) dX9_init_9 ?_
  refine n_load X 0 rfl dX9_init_12 ?_
  refine n_bipush X (by omega) dX9_init_13 ?_
  refine n_newa (t := 0) (N := 24) X (at9 := .int) (ty := .int) rfl rfl (fun _ _ => Iff.rfl) ac_int (fun _ => rfl) (by omega) (by decide) (fun _ => rfl) (Nat.le_of_ble_eq_true rfl) rfl (fun _ _ _ => rfl) (Nat.le_of_ble_eq_true rfl) (Nat.le_of_ble_eq_true rfl) dX9_init_15 ?_
  refine n_putF (v := .inr 1) X nm ff_X9_15 (fun _ => ⟨rfl, rfl⟩) (Nat.le_of_ble_eq_true rfl) dX9_init_17 ?_
  refine n_load X 0 rfl dX9_init_20 ?_
  refine n_bipush X (by omega) dX9_init_21 ?_
  refine n_bipush X (by omega) dX9_init_23 ?_
  refine n_mna (N := 24) (K := 8) X clA_X9_18 ac_int ao.1 (by omega) (by omega) (fun c _ _ i => rfl) (Nat.le_of_ble_eq_true rfl) rfl (fun _ _ _ => rfl) (Nat.le_of_ble_eq_true rfl) (Nat.le_of_ble_eq_true rfl) dX9_init_25 ?_
  refine n_putF (v := .inr 2) X nm ff_X9_20 (fun _ => ⟨rfl, rfl⟩) (Nat.le_of_ble_eq_true rfl) dX9_init_29 ?_
  refine n_load X 0 rfl dX9_init_32 ?_
  refine n_bipush X (by omega) dX9_init_33 ?_
  refine n_bipush X (by omega) dX9_init_35 ?_
  refine n_mna (N := 24) (K := 8) X clA_X9_18 ac_int ao.1 (by omega) (by omega) (fun c _ _ i => rfl) (Nat.le_of_ble_eq_true rfl) rfl (fun _ _ _ => rfl) (Nat.le_of_ble_eq_true rfl) (Nat.le_of_ble_eq_true rfl) dX9_init_37 ?_
  refine n_putF (v := .inr 27) X nm ff_X9_23 (fun _ => ⟨rfl, rfl⟩) (Nat.le_of_ble_eq_true rfl) dX9_init_41 ?_
  refine n_load X 0 rfl dX9_init_44 ?_
  refine n_bipush X (by omega) dX9_init_45 ?_
  refine n_bipush X (by omega) dX9_init_47 ?_
  refine n_mna (N := 24) (K := 8) X clA_X9_18 ac_int ao.1 (by omega) (by omega) (fun c _ _ i => rfl) (Nat.le_of_ble_eq_true rfl) rfl (fun _ _ _ => rfl) (Nat.le_of_ble_eq_true rfl) (Nat.le_of_ble_eq_true rfl) dX9_init_49 ?_
  refine n_putF (v := .inr 52) X nm ff_X9_26 (fun _ => ⟨rfl, rfl⟩) (Nat.le_of_ble_eq_true rfl) dX9_init_53 ?_
  exact n_ret X (Nat.le_of_ble_eq_true rfl) (Nat.le_of_ble_eq_true rfl) dX9_init_56
def SN_X0 : List Sh := [.inr (0, 12, none), .inr (0, 12, none), .inr (0, 12, none), .inr (0, 12, none)]
def rm_N_X0 : Room := { frames := 1, cells := 4, slots := 48, locals := 12 }
def fkT_X0 : List FV := [.inl (.int 0), .inr 0, .inr 1, .inr 2, .inr 3]
set_option maxRecDepth 100000 in
set_option maxHeartbeats 4000000 in
theorem N_X0 (G : Gl) (ex : List Nat) (hex : ex.length = 0) : ConN G yX0_init cX0_init 1 rm_N_X0 0 [.int 0, .null, .null, .null, .null] ex fkT_X0 SN_X0 zM := by
  obtain rfl : ex = [] := List.length_eq_zero_iff.mp hex
  refine conN_of (own := "Lastbus$Delays") (by decide) rfl rfl (Nat.le_of_ble_eq_true rfl) (fun a C X nm ao => ?_)
  show NJ G rm_N_X0 (QN G rm_N_X0 C [] a 0 fkT_X0 SN_X0 zM) C [] a 0 0 0 0 [(0, .inl (.ref a))] [] [.inl (.int 0), .inl .null, .inl .null, .inl .null, .inl .null] [] zM (fun _ => [])
  refine n_load X 0 rfl dX0_init_0 ?_
  refine n_objInit X ol_X0 oi_i oi_c rfl dX0_init_1 (Nat.le_of_ble_eq_true rfl) (Nat.le_of_ble_eq_true rfl) ?_
  refine n_load X 0 rfl dX0_init_4 ?_
  refine n_bipush X (by omega) dX0_init_5 ?_
  refine n_newa (t := 0) (N := 12) X (at9 := .int) (ty := .int) rfl rfl (fun _ _ => Iff.rfl) ac_int (fun _ => rfl) (by omega) (by decide) (fun _ => rfl) (Nat.le_of_ble_eq_true rfl) rfl (fun _ _ _ => rfl) (Nat.le_of_ble_eq_true rfl) (Nat.le_of_ble_eq_true rfl) dX0_init_7 ?_
  refine n_putF (v := .inr 0) X nm ff_X0_9 (fun _ => ⟨rfl, rfl⟩) (Nat.le_of_ble_eq_true rfl) dX0_init_9 ?_
  refine n_load X 0 rfl dX0_init_12 ?_
  refine n_bipush X (by omega) dX0_init_13 ?_
  refine n_newa (t := 0) (N := 12) X (at9 := .int) (ty := .int) rfl rfl (fun _ _ => Iff.rfl) ac_int (fun _ => rfl) (by omega) (by decide) (fun _ => rfl) (Nat.le_of_ble_eq_true rfl) rfl (fun _ _ _ => rfl) (Nat.le_of_ble_eq_true rfl) (Nat.le_of_ble_eq_true rfl) dX0_init_15 ?_
  refine n_putF (v := .inr 1) X nm ff_X0_15 (fun _ => ⟨rfl, rfl⟩) (Nat.le_of_ble_eq_true rfl) dX0_init_17 ?_
  refine n_load X 0 rfl dX0_init_20 ?_
  refine n_bipush X (by omega) dX0_init_21 ?_
  refine n_newa (t := 0) (N := 12) X (at9 := .int) (ty := .int) rfl rfl (fun _ _ => Iff.rfl) ac_int (fun _ => rfl) (by omega) (by decide) (fun _ => rfl) (Nat.le_of_ble_eq_true rfl) rfl (fun _ _ _ => rfl) (Nat.le_of_ble_eq_true rfl) (Nat.le_of_ble_eq_true rfl) dX0_init_23 ?_
  refine n_putF (v := .inr 2) X nm ff_X0_18 (fun _ => ⟨rfl, rfl⟩) (Nat.le_of_ble_eq_true rfl) dX0_init_25 ?_
  refine n_load X 0 rfl dX0_init_28 ?_
  refine n_bipush X (by omega) dX0_init_29 ?_
  refine n_newa (t := 0) (N := 12) X (at9 := .int) (ty := .int) rfl rfl (fun _ _ => Iff.rfl) ac_int (fun _ => rfl) (by omega) (by decide) (fun _ => rfl) (Nat.le_of_ble_eq_true rfl) rfl (fun _ _ _ => rfl) (Nat.le_of_ble_eq_true rfl) (Nat.le_of_ble_eq_true rfl) dX0_init_31 ?_
  refine n_putF (v := .inr 3) X nm ff_X0_21 (fun _ => ⟨rfl, rfl⟩) (Nat.le_of_ble_eq_true rfl) dX0_init_33 ?_
  exact n_ret X (Nat.le_of_ble_eq_true rfl) (Nat.le_of_ble_eq_true rfl) dX0_init_36
def SN_X5 : List Sh := [.inr (2, 80, none), .inr (0, 8, none), .inr (0, 8, none), .inr (0, 8, none)]
def rm_N_X5 : Room := { frames := 1, cells := 4, slots := 104, locals := 12 }
def fkT_X5 : List FV := [.inr 0, .inl (.int 0), .inl (.int (i32 (-1))), .inl (.int 0), .inl (.int 0), .inr 1, .inr 2, .inr 3, .inl (.int 0), .inl (.int 0)]
set_option maxRecDepth 100000 in
set_option maxHeartbeats 4000000 in
theorem N_X5 (G : Gl) (ex : List Nat) (hex : ex.length = 0) : ConN G yX5_init cX5_init 1 rm_N_X5 5 [.null, .int 0, .int 0, .int 0, .int 0, .null, .null, .null, .int 0, .int 0] ex fkT_X5 SN_X5 zM := by
  obtain rfl : ex = [] := List.length_eq_zero_iff.mp hex
  refine conN_of (own := "Lastbus$Row") (by decide) rfl rfl (Nat.le_of_ble_eq_true rfl) (fun a C X nm ao => ?_)
  show NJ G rm_N_X5 (QN G rm_N_X5 C [] a 5 fkT_X5 SN_X5 zM) C [] a 5 0 0 0 [(0, .inl (.ref a))] [] [.inl .null, .inl (.int 0), .inl (.int 0), .inl (.int 0), .inl (.int 0), .inl .null, .inl .null, .inl .null, .inl (.int 0), .inl (.int 0)] [] zM (fun _ => [])
  refine n_load X 0 rfl dX5_init_0 ?_
  refine n_objInit X ol_X5 oi_i oi_c rfl dX5_init_1 (Nat.le_of_ble_eq_true rfl) (Nat.le_of_ble_eq_true rfl) ?_
  refine n_load X 0 rfl dX5_init_4 ?_
  refine n_bipush X (by omega) dX5_init_5 ?_
  refine n_newa (t := 2) (N := 80) X (at9 := .char) (ty := .char) rfl rfl (fun _ _ => Iff.rfl) ac_char (fun _ => rfl) (by omega) (by decide) (fun _ => rfl) (Nat.le_of_ble_eq_true rfl) rfl (fun _ _ _ => rfl) (Nat.le_of_ble_eq_true rfl) (Nat.le_of_ble_eq_true rfl) dX5_init_7 ?_
  refine n_putF (v := .inr 0) X nm ff_X5_9 (fun _ => ⟨rfl, rfl⟩) (Nat.le_of_ble_eq_true rfl) dX5_init_9 ?_
  refine n_load X 0 rfl dX5_init_12 ?_
  refine n_const X dX5_init_13 ?_
  refine n_putI (v := .inl (.int (i32 (-1)))) X fpN_X5_15 (fun _ => ⟨rfl, rfl⟩) (Nat.le_of_ble_eq_true rfl) dX5_init_14 ?_
  refine n_load X 0 rfl dX5_init_17 ?_
  refine n_bipush X (by omega) dX5_init_18 ?_
  refine n_newa (t := 0) (N := 8) X (at9 := .int) (ty := .int) rfl rfl (fun _ _ => Iff.rfl) ac_int (fun _ => rfl) (by omega) (by decide) (fun _ => rfl) (Nat.le_of_ble_eq_true rfl) rfl (fun _ _ _ => rfl) (Nat.le_of_ble_eq_true rfl) (Nat.le_of_ble_eq_true rfl) dX5_init_20 ?_
  refine n_putF (v := .inr 1) X nm ff_X5_19 (fun _ => ⟨rfl, rfl⟩) (Nat.le_of_ble_eq_true rfl) dX5_init_22 ?_
  refine n_load X 0 rfl dX5_init_25 ?_
  refine n_bipush X (by omega) dX5_init_26 ?_
  refine n_newa (t := 0) (N := 8) X (at9 := .int) (ty := .int) rfl rfl (fun _ _ => Iff.rfl) ac_int (fun _ => rfl) (by omega) (by decide) (fun _ => rfl) (Nat.le_of_ble_eq_true rfl) rfl (fun _ _ _ => rfl) (Nat.le_of_ble_eq_true rfl) (Nat.le_of_ble_eq_true rfl) dX5_init_28 ?_
  refine n_putF (v := .inr 2) X nm ff_X5_23 (fun _ => ⟨rfl, rfl⟩) (Nat.le_of_ble_eq_true rfl) dX5_init_30 ?_
  refine n_load X 0 rfl dX5_init_33 ?_
  refine n_bipush X (by omega) dX5_init_34 ?_
  refine n_newa (t := 0) (N := 8) X (at9 := .int) (ty := .int) rfl rfl (fun _ _ => Iff.rfl) ac_int (fun _ => rfl) (by omega) (by decide) (fun _ => rfl) (Nat.le_of_ble_eq_true rfl) rfl (fun _ _ _ => rfl) (Nat.le_of_ble_eq_true rfl) (Nat.le_of_ble_eq_true rfl) dX5_init_36 ?_
  refine n_putF (v := .inr 3) X nm ff_X5_26 (fun _ => ⟨rfl, rfl⟩) (Nat.le_of_ble_eq_true rfl) dX5_init_38 ?_
  exact n_ret X (Nat.le_of_ble_eq_true rfl) (Nat.le_of_ble_eq_true rfl) dX5_init_41
def SN_X3 : List Sh := [.inr (0, 0, none), .inr (0, 0, none), .inr (0, 0, none), .inr (0, 0, none), .inr (0, 72, none), .inr (0, 72, none), .inr (0, 72, none), .inr (3, 72, some (8, 1)), .inr (0, 8, none), .inr (0, 8, none), .inr (0, 8, none), .inr (0, 8, none), .inr (0, 8, none), .inr (0, 8, none), .inr (0, 8, none), .inr (0, 8, none), .inr (0, 8, none), .inr (0, 8, none), .inr (0, 8, none), .inr (0, 8, none), .inr (0, 8, none), .inr (0, 8, none), .inr (0, 8, none), .inr (0, 8, none), .inr (0, 8, none), .inr (0, 8, none), .inr (0, 8, none), .inr (0, 8, none), .inr (0, 8, none), .inr (0, 8, none), .inr (0, 8, none), .inr (0, 8, none), .inr (0, 8, none), .inr (0, 8, none), .inr (0, 8, none), .inr (0, 8, none), .inr (0, 8, none), .inr (0, 8, none), .inr (0, 8, none), .inr (0, 8, none), .inr (0, 8, none), .inr (0, 8, none), .inr (0, 8, none), .inr (0, 8, none), .inr (0, 8, none), .inr (0, 8, none), .inr (0, 8, none), .inr (0, 8, none), .inr (0, 8, none), .inr (0, 8, none), .inr (0, 8, none), .inr (0, 8, none), .inr (0, 8, none), .inr (0, 8, none), .inr (0, 8, none), .inr (0, 8, none), .inr (0, 8, none), .inr (0, 8, none), .inr (0, 8, none), .inr (0, 8, none), .inr (0, 8, none), .inr (0, 8, none), .inr (0, 8, none), .inr (0, 8, none), .inr (0, 8, none), .inr (0, 8, none), .inr (0, 8, none), .inr (0, 8, none), .inr (0, 8, none), .inr (0, 8, none), .inr (0, 8, none), .inr (0, 8, none), .inr (0, 8, none), .inr (0, 8, none), .inr (0, 8, none), .inr (0, 8, none), .inr (0, 8, none), .inr (0, 8, none), .inr (0, 8, none), .inr (0, 8, none), .inr (3, 72, some (81, 1)), .inr (0, 8, none), .inr (0, 8, none), .inr (0, 8, none), .inr (0, 8, none), .inr (0, 8, none), .inr (0, 8, none), .inr (0, 8, none), .inr (0, 8, none), .inr (0, 8, none), .inr (0, 8, none), .inr (0, 8, none), .inr (0, 8, none), .inr (0, 8, none), .inr (0, 8, none), .inr (0, 8, none), .inr (0, 8, none), .inr (0, 8, none), .inr (0, 8, none), .inr (0, 8, none), .inr (0, 8, none), .inr (0, 8, none), .inr (0, 8, none), .inr (0, 8, none), .inr (0, 8, none), .inr (0, 8, none), .inr (0, 8, none), .inr (0, 8, none), .inr (0, 8, none), .inr (0, 8, none), .inr (0, 8, none), .inr (0, 8, none), .inr (0, 8, none), .inr (0, 8, none), .inr (0, 8, none), .inr (0, 8, none), .inr (0, 8, none), .inr (0, 8, none), .inr (0, 8, none), .inr (0, 8, none), .inr (0, 8, none), .inr (0, 8, none), .inr (0, 8, none), .inr (0, 8, none), .inr (0, 8, none), .inr (0, 8, none), .inr (0, 8, none), .inr (0, 8, none), .inr (0, 8, none), .inr (0, 8, none), .inr (0, 8, none), .inr (0, 8, none), .inr (0, 8, none), .inr (0, 8, none), .inr (0, 8, none), .inr (0, 8, none), .inr (0, 8, none), .inr (0, 8, none), .inr (0, 8, none), .inr (0, 8, none), .inr (0, 8, none), .inr (0, 8, none), .inr (0, 8, none), .inr (0, 8, none), .inr (0, 8, none), .inr (0, 8, none), .inr (0, 8, none), .inr (0, 8, none), .inr (0, 8, none), .inr (0, 8, none), .inr (0, 8, none), .inr (0, 8, none), .inr (0, 8, none), .inr (3, 72, some (154, 1)), .inr (0, 8, none), .inr (0, 8, none), .inr (0, 8, none), .inr (0, 8, none), .inr (0, 8, none), .inr (0, 8, none), .inr (0, 8, none), .inr (0, 8, none), .inr (0, 8, none), .inr (0, 8, none), .inr (0, 8, none), .inr (0, 8, none), .inr (0, 8, none), .inr (0, 8, none), .inr (0, 8, none), .inr (0, 8, none), .inr (0, 8, none), .inr (0, 8, none), .inr (0, 8, none), .inr (0, 8, none), .inr (0, 8, none), .inr (0, 8, none), .inr (0, 8, none), .inr (0, 8, none), .inr (0, 8, none), .inr (0, 8, none), .inr (0, 8, none), .inr (0, 8, none), .inr (0, 8, none), .inr (0, 8, none), .inr (0, 8, none), .inr (0, 8, none), .inr (0, 8, none), .inr (0, 8, none), .inr (0, 8, none), .inr (0, 8, none), .inr (0, 8, none), .inr (0, 8, none), .inr (0, 8, none), .inr (0, 8, none), .inr (0, 8, none), .inr (0, 8, none), .inr (0, 8, none), .inr (0, 8, none), .inr (0, 8, none), .inr (0, 8, none), .inr (0, 8, none), .inr (0, 8, none), .inr (0, 8, none), .inr (0, 8, none), .inr (0, 8, none), .inr (0, 8, none), .inr (0, 8, none), .inr (0, 8, none), .inr (0, 8, none), .inr (0, 8, none), .inr (0, 8, none), .inr (0, 8, none), .inr (0, 8, none), .inr (0, 8, none), .inr (0, 8, none), .inr (0, 8, none), .inr (0, 8, none), .inr (0, 8, none), .inr (0, 8, none), .inr (0, 8, none), .inr (0, 8, none), .inr (0, 8, none), .inr (0, 8, none), .inr (0, 8, none), .inr (0, 8, none), .inr (0, 8, none), .inr (0, 576, none), .inr (0, 576, none), .inr (0, 576, none)]
def rm_N_X3 : Room := { frames := 1, cells := 225, slots := 3888, locals := 12 }
def fkT_X3 : List FV := [.inr 0, .inr 1, .inr 2, .inr 3, .inl (.int 0), .inr 4, .inr 5, .inr 6, .inr 7, .inr 80, .inr 153, .inl (.int 0), .inr 226, .inr 227, .inr 228]
set_option maxRecDepth 100000 in
set_option maxHeartbeats 4000000 in
theorem N_X3 (G : Gl) (ex : List Nat) (hex : ex.length = 4) : ConN G yX3_init cX3_init 5 rm_N_X3 3 [.null, .null, .null, .null, .int 0, .null, .null, .null, .null, .null, .null, .int 0, .null, .null, .null] ex fkT_X3 SN_X3 zM := by
  obtain ⟨b0, b1, b2, b3, rfl⟩ : ∃ b0 b1 b2 b3 , ex = [b0, b1, b2, b3] := by
    match ex, hex with
    | [b0, b1, b2, b3], _ => exact ⟨_, _, _, _, rfl⟩
  refine conN_of (own := "Lastbus$Net") (by decide) rfl rfl (Nat.le_of_ble_eq_true rfl) (fun a C X nm ao => ?_)
  show NJ G rm_N_X3 (QN G rm_N_X3 C [b0, b1, b2, b3] a 3 fkT_X3 SN_X3 zM) C [b0, b1, b2, b3] a 3 0 0 0 [(0, .inl (.ref a)), (1, .inr 0), (2, .inr 1), (3, .inr 2), (4, .inr 3)] [] [.inl .null, .inl .null, .inl .null, .inl .null, .inl (.int 0), .inl .null, .inl .null, .inl .null, .inl .null, .inl .null, .inl .null, .inl (.int 0), .inl .null, .inl .null, .inl .null] [.inr (0, 0, none), .inr (0, 0, none), .inr (0, 0, none), .inr (0, 0, none)] zM (fun _ => [])
  refine n_load X 0 rfl dX3_init_0 ?_
  refine n_objInit X ol_X3 oi_i oi_c rfl dX3_init_1 (Nat.le_of_ble_eq_true rfl) (Nat.le_of_ble_eq_true rfl) ?_
  refine n_load X 0 rfl dX3_init_4 ?_
  refine n_bipush X (by omega) dX3_init_5 ?_
  refine n_newa (t := 0) (N := 72) X (at9 := .int) (ty := .int) rfl rfl (fun _ _ => Iff.rfl) ac_int (fun _ => rfl) (by omega) (by decide) (fun _ => rfl) (Nat.le_of_ble_eq_true rfl) rfl (fun _ _ _ => rfl) (Nat.le_of_ble_eq_true rfl) (Nat.le_of_ble_eq_true rfl) dX3_init_7 ?_
  refine n_putF (v := .inr 4) X nm ff_X3_9 (fun _ => ⟨rfl, rfl⟩) (Nat.le_of_ble_eq_true rfl) dX3_init_9 ?_
  refine n_load X 0 rfl dX3_init_12 ?_
  refine n_bipush X (by omega) dX3_init_13 ?_
  refine n_newa (t := 0) (N := 72) X (at9 := .int) (ty := .int) rfl rfl (fun _ _ => Iff.rfl) ac_int (fun _ => rfl) (by omega) (by decide) (fun _ => rfl) (Nat.le_of_ble_eq_true rfl) rfl (fun _ _ _ => rfl) (Nat.le_of_ble_eq_true rfl) (Nat.le_of_ble_eq_true rfl) dX3_init_15 ?_
  refine n_putF (v := .inr 5) X nm ff_X3_15 (fun _ => ⟨rfl, rfl⟩) (Nat.le_of_ble_eq_true rfl) dX3_init_17 ?_
  refine n_load X 0 rfl dX3_init_20 ?_
  refine n_bipush X (by omega) dX3_init_21 ?_
  refine n_newa (t := 0) (N := 72) X (at9 := .int) (ty := .int) rfl rfl (fun _ _ => Iff.rfl) ac_int (fun _ => rfl) (by omega) (by decide) (fun _ => rfl) (Nat.le_of_ble_eq_true rfl) rfl (fun _ _ _ => rfl) (Nat.le_of_ble_eq_true rfl) (Nat.le_of_ble_eq_true rfl) dX3_init_23 ?_
  refine n_putF (v := .inr 6) X nm ff_X3_18 (fun _ => ⟨rfl, rfl⟩) (Nat.le_of_ble_eq_true rfl) dX3_init_25 ?_
  refine n_load X 0 rfl dX3_init_28 ?_
  refine n_bipush X (by omega) dX3_init_29 ?_
  refine n_bipush X (by omega) dX3_init_31 ?_
  refine n_mna (N := 72) (K := 8) X clA_X3_21 ac_int ao.1 (by omega) (by omega) (fun c _ _ i => rfl) (Nat.le_of_ble_eq_true rfl) rfl (fun _ _ _ => rfl) (Nat.le_of_ble_eq_true rfl) (Nat.le_of_ble_eq_true rfl) dX3_init_33 ?_
  refine n_putF (v := .inr 7) X nm ff_X3_23 (fun _ => ⟨rfl, rfl⟩) (Nat.le_of_ble_eq_true rfl) dX3_init_37 ?_
  refine n_load X 0 rfl dX3_init_40 ?_
  refine n_bipush X (by omega) dX3_init_41 ?_
  refine n_bipush X (by omega) dX3_init_43 ?_
  refine n_mna (N := 72) (K := 8) X clA_X3_21 ac_int ao.1 (by omega) (by omega) (fun c _ _ i => rfl) (Nat.le_of_ble_eq_true rfl) rfl (fun _ _ _ => rfl) (Nat.le_of_ble_eq_true rfl) (Nat.le_of_ble_eq_true rfl) dX3_init_45 ?_
  refine n_putF (v := .inr 80) X nm ff_X3_26 (fun _ => ⟨rfl, rfl⟩) (Nat.le_of_ble_eq_true rfl) dX3_init_49 ?_
  refine n_load X 0 rfl dX3_init_52 ?_
  refine n_bipush X (by omega) dX3_init_53 ?_
  refine n_bipush X (by omega) dX3_init_55 ?_
  refine n_mna (N := 72) (K := 8) X clA_X3_21 ac_int ao.1 (by omega) (by omega) (fun c _ _ i => rfl) (Nat.le_of_ble_eq_true rfl) rfl (fun _ _ _ => rfl) (Nat.le_of_ble_eq_true rfl) (Nat.le_of_ble_eq_true rfl) dX3_init_57 ?_
  refine n_putF (v := .inr 153) X nm ff_X3_29 (fun _ => ⟨rfl, rfl⟩) (Nat.le_of_ble_eq_true rfl) dX3_init_61 ?_
  refine n_load X 0 rfl dX3_init_64 ?_
  refine n_sipush X (by omega) dX3_init_65 ?_
  refine n_newa (t := 0) (N := 576) X (at9 := .int) (ty := .int) rfl rfl (fun _ _ => Iff.rfl) ac_int (fun _ => rfl) (by omega) (by decide) (fun _ => rfl) (Nat.le_of_ble_eq_true rfl) rfl (fun _ _ _ => rfl) (Nat.le_of_ble_eq_true rfl) (Nat.le_of_ble_eq_true rfl) dX3_init_68 ?_
  refine n_putF (v := .inr 226) X nm ff_X3_32 (fun _ => ⟨rfl, rfl⟩) (Nat.le_of_ble_eq_true rfl) dX3_init_70 ?_
  refine n_load X 0 rfl dX3_init_73 ?_
  refine n_sipush X (by omega) dX3_init_74 ?_
  refine n_newa (t := 0) (N := 576) X (at9 := .int) (ty := .int) rfl rfl (fun _ _ => Iff.rfl) ac_int (fun _ => rfl) (by omega) (by decide) (fun _ => rfl) (Nat.le_of_ble_eq_true rfl) rfl (fun _ _ _ => rfl) (Nat.le_of_ble_eq_true rfl) (Nat.le_of_ble_eq_true rfl) dX3_init_77 ?_
  refine n_putF (v := .inr 227) X nm ff_X3_35 (fun _ => ⟨rfl, rfl⟩) (Nat.le_of_ble_eq_true rfl) dX3_init_79 ?_
  refine n_load X 0 rfl dX3_init_82 ?_
  refine n_sipush X (by omega) dX3_init_83 ?_
  refine n_newa (t := 0) (N := 576) X (at9 := .int) (ty := .int) rfl rfl (fun _ _ => Iff.rfl) ac_int (fun _ => rfl) (by omega) (by decide) (fun _ => rfl) (Nat.le_of_ble_eq_true rfl) rfl (fun _ _ _ => rfl) (Nat.le_of_ble_eq_true rfl) (Nat.le_of_ble_eq_true rfl) dX3_init_86 ?_
  refine n_putF (v := .inr 228) X nm ff_X3_38 (fun _ => ⟨rfl, rfl⟩) (Nat.le_of_ble_eq_true rfl) dX3_init_88 ?_
  refine n_load X 0 rfl dX3_init_91 ?_
  refine n_loadI X 1 rfl dX3_init_92 ?_
  refine n_putF (v := .inr 0) X nm ff_X3_41 (fun _ => ⟨rfl, rfl⟩) (Nat.le_of_ble_eq_true rfl) dX3_init_93 ?_
  refine n_load X 0 rfl dX3_init_96 ?_
  refine n_loadI X 2 rfl dX3_init_97 ?_
  refine n_putF (v := .inr 1) X nm ff_X3_45 (fun _ => ⟨rfl, rfl⟩) (Nat.le_of_ble_eq_true rfl) dX3_init_98 ?_
  refine n_load X 0 rfl dX3_init_101 ?_
  refine n_loadI X 3 rfl dX3_init_102 ?_
  refine n_putF (v := .inr 2) X nm ff_X3_49 (fun _ => ⟨rfl, rfl⟩) (Nat.le_of_ble_eq_true rfl) dX3_init_103 ?_
  refine n_load X 0 rfl dX3_init_106 ?_
  refine n_loadIW X 4 rfl dX3_init_107 ?_
  refine n_putF (v := .inr 3) X nm ff_X3_53 (fun _ => ⟨rfl, rfl⟩) (Nat.le_of_ble_eq_true rfl) dX3_init_109 ?_
  exact n_ret X (Nat.le_of_ble_eq_true rfl) (Nat.le_of_ble_eq_true rfl) dX3_init_112
def SN_X2 : List Sh := [.inr (0, 0, none), .inr (0, 12, none), .inr (0, 12, none)]
def rm_N_X2 : Room := { frames := 1, cells := 2, slots := 24, locals := 12 }
def fkT_X2 : List FV := [.inr 0, .inr 1, .inr 2]
set_option maxRecDepth 100000 in
set_option maxHeartbeats 4000000 in
theorem N_X2 (G : Gl) (ex : List Nat) (hex : ex.length = 1) : ConN G yX2_init cX2_init 2 rm_N_X2 2 [.null, .null, .null] ex fkT_X2 SN_X2 zM := by
  obtain ⟨b0, rfl⟩ : ∃ b0 , ex = [b0] := by
    match ex, hex with
    | [b0], _ => exact ⟨_, rfl⟩
  refine conN_of (own := "Lastbus$Labels") (by decide) rfl rfl (Nat.le_of_ble_eq_true rfl) (fun a C X nm ao => ?_)
  show NJ G rm_N_X2 (QN G rm_N_X2 C [b0] a 2 fkT_X2 SN_X2 zM) C [b0] a 2 0 0 0 [(0, .inl (.ref a)), (1, .inr 0)] [] [.inl .null, .inl .null, .inl .null] [.inr (0, 0, none)] zM (fun _ => [])
  refine n_load X 0 rfl dX2_init_0 ?_
  refine n_objInit X ol_X2 oi_i oi_c rfl dX2_init_1 (Nat.le_of_ble_eq_true rfl) (Nat.le_of_ble_eq_true rfl) ?_
  refine n_load X 0 rfl dX2_init_4 ?_
  refine n_bipush X (by omega) dX2_init_5 ?_
  refine n_newa (t := 0) (N := 12) X (at9 := .int) (ty := .int) rfl rfl (fun _ _ => Iff.rfl) ac_int (fun _ => rfl) (by omega) (by decide) (fun _ => rfl) (Nat.le_of_ble_eq_true rfl) rfl (fun _ _ _ => rfl) (Nat.le_of_ble_eq_true rfl) (Nat.le_of_ble_eq_true rfl) dX2_init_7 ?_
  refine n_putF (v := .inr 1) X nm ff_X2_9 (fun _ => ⟨rfl, rfl⟩) (Nat.le_of_ble_eq_true rfl) dX2_init_9 ?_
  refine n_load X 0 rfl dX2_init_12 ?_
  refine n_bipush X (by omega) dX2_init_13 ?_
  refine n_newa (t := 0) (N := 12) X (at9 := .int) (ty := .int) rfl rfl (fun _ _ => Iff.rfl) ac_int (fun _ => rfl) (by omega) (by decide) (fun _ => rfl) (Nat.le_of_ble_eq_true rfl) rfl (fun _ _ _ => rfl) (Nat.le_of_ble_eq_true rfl) (Nat.le_of_ble_eq_true rfl) dX2_init_15 ?_
  refine n_putF (v := .inr 2) X nm ff_X2_15 (fun _ => ⟨rfl, rfl⟩) (Nat.le_of_ble_eq_true rfl) dX2_init_17 ?_
  refine n_load X 0 rfl dX2_init_20 ?_
  refine n_loadI X 1 rfl dX2_init_21 ?_
  refine n_putF (v := .inr 0) X nm ff_X2_18 (fun _ => ⟨rfl, rfl⟩) (Nat.le_of_ble_eq_true rfl) dX2_init_22 ?_
  exact n_ret X (Nat.le_of_ble_eq_true rfl) (Nat.le_of_ble_eq_true rfl) dX2_init_25
def SN_X6 : List Sh := [.inr (0, 0, none), .inr (0, 0, none), .inr (1, 72, none), .inr (0, 12, none), .inr (0, 12, none), .inr (1, 24, none), .inr (0, 576, none), .inr (0, 576, none), .inl (2, [some 0, some 9, some 10]), .inr (0, 12, none), .inr (0, 12, none)]
def rm_N_X6 : Room := { frames := 2, cells := 9, slots := 1299, locals := 33 }
def fkT_X6 : List FV := [.inr 0, .inr 1, .inr 8, .inr 2, .inr 3, .inr 4, .inr 5, .inl (.int 0), .inr 6, .inr 7]
set_option maxRecDepth 100000 in
set_option maxHeartbeats 4000000 in
theorem N_X6 (G : Gl) (ex : List Nat) (hex : ex.length = 2) : ConN G yX6_init cX6_init 3 rm_N_X6 6 [.null, .null, .null, .null, .null, .null, .null, .int 0, .null, .null] ex fkT_X6 SN_X6 zM := by
  obtain ⟨b0, b1, rfl⟩ : ∃ b0 b1 , ex = [b0, b1] := by
    match ex, hex with
    | [b0, b1], _ => exact ⟨_, _, rfl⟩
  refine conN_of (own := "Lastbus$Search") (by decide) rfl rfl (Nat.le_of_ble_eq_true rfl) (fun a C X nm ao => ?_)
  show NJ G rm_N_X6 (QN G rm_N_X6 C [b0, b1] a 6 fkT_X6 SN_X6 zM) C [b0, b1] a 6 0 0 0 [(0, .inl (.ref a)), (1, .inr 0), (2, .inr 1)] [] [.inl .null, .inl .null, .inl .null, .inl .null, .inl .null, .inl .null, .inl .null, .inl (.int 0), .inl .null, .inl .null] [.inr (0, 0, none), .inr (0, 0, none)] zM (fun _ => [])
  refine n_load X 0 rfl dX6_init_0 ?_
  refine n_objInit X ol_X6 oi_i oi_c rfl dX6_init_1 (Nat.le_of_ble_eq_true rfl) (Nat.le_of_ble_eq_true rfl) ?_
  refine n_load X 0 rfl dX6_init_4 ?_
  refine n_bipush X (by omega) dX6_init_5 ?_
  refine n_newa (t := 1) (N := 72) X (at9 := .boolean) (ty := .boolean) rfl rfl (fun _ _ => Iff.rfl) ac_boolean (fun _ => rfl) (by omega) (by decide) (fun _ => rfl) (Nat.le_of_ble_eq_true rfl) rfl (fun _ _ _ => rfl) (Nat.le_of_ble_eq_true rfl) (Nat.le_of_ble_eq_true rfl) dX6_init_7 ?_
  refine n_putF (v := .inr 2) X nm ff_X6_9 (fun _ => ⟨rfl, rfl⟩) (Nat.le_of_ble_eq_true rfl) dX6_init_9 ?_
  refine n_load X 0 rfl dX6_init_12 ?_
  refine n_bipush X (by omega) dX6_init_13 ?_
  refine n_newa (t := 0) (N := 12) X (at9 := .int) (ty := .int) rfl rfl (fun _ _ => Iff.rfl) ac_int (fun _ => rfl) (by omega) (by decide) (fun _ => rfl) (Nat.le_of_ble_eq_true rfl) rfl (fun _ _ _ => rfl) (Nat.le_of_ble_eq_true rfl) (Nat.le_of_ble_eq_true rfl) dX6_init_15 ?_
  refine n_putF (v := .inr 3) X nm ff_X6_15 (fun _ => ⟨rfl, rfl⟩) (Nat.le_of_ble_eq_true rfl) dX6_init_17 ?_
  refine n_load X 0 rfl dX6_init_20 ?_
  refine n_bipush X (by omega) dX6_init_21 ?_
  refine n_newa (t := 0) (N := 12) X (at9 := .int) (ty := .int) rfl rfl (fun _ _ => Iff.rfl) ac_int (fun _ => rfl) (by omega) (by decide) (fun _ => rfl) (Nat.le_of_ble_eq_true rfl) rfl (fun _ _ _ => rfl) (Nat.le_of_ble_eq_true rfl) (Nat.le_of_ble_eq_true rfl) dX6_init_23 ?_
  refine n_putF (v := .inr 4) X nm ff_X6_19 (fun _ => ⟨rfl, rfl⟩) (Nat.le_of_ble_eq_true rfl) dX6_init_25 ?_
  refine n_load X 0 rfl dX6_init_28 ?_
  refine n_bipush X (by omega) dX6_init_29 ?_
  refine n_newa (t := 1) (N := 24) X (at9 := .boolean) (ty := .boolean) rfl rfl (fun _ _ => Iff.rfl) ac_boolean (fun _ => rfl) (by omega) (by decide) (fun _ => rfl) (Nat.le_of_ble_eq_true rfl) rfl (fun _ _ _ => rfl) (Nat.le_of_ble_eq_true rfl) (Nat.le_of_ble_eq_true rfl) dX6_init_31 ?_
  refine n_putF (v := .inr 5) X nm ff_X6_22 (fun _ => ⟨rfl, rfl⟩) (Nat.le_of_ble_eq_true rfl) dX6_init_33 ?_
  refine n_load X 0 rfl dX6_init_36 ?_
  refine n_sipush X (by omega) dX6_init_37 ?_
  refine n_newa (t := 0) (N := 576) X (at9 := .int) (ty := .int) rfl rfl (fun _ _ => Iff.rfl) ac_int (fun _ => rfl) (by omega) (by decide) (fun _ => rfl) (Nat.le_of_ble_eq_true rfl) rfl (fun _ _ _ => rfl) (Nat.le_of_ble_eq_true rfl) (Nat.le_of_ble_eq_true rfl) dX6_init_40 ?_
  refine n_putF (v := .inr 6) X nm ff_X6_25 (fun _ => ⟨rfl, rfl⟩) (Nat.le_of_ble_eq_true rfl) dX6_init_42 ?_
  refine n_load X 0 rfl dX6_init_45 ?_
  refine n_sipush X (by omega) dX6_init_46 ?_
  refine n_newa (t := 0) (N := 576) X (at9 := .int) (ty := .int) rfl rfl (fun _ _ => Iff.rfl) ac_int (fun _ => rfl) (by omega) (by decide) (fun _ => rfl) (Nat.le_of_ble_eq_true rfl) rfl (fun _ _ _ => rfl) (Nat.le_of_ble_eq_true rfl) (Nat.le_of_ble_eq_true rfl) dX6_init_49 ?_
  refine n_putF (v := .inr 7) X nm ff_X6_28 (fun _ => ⟨rfl, rfl⟩) (Nat.le_of_ble_eq_true rfl) dX6_init_51 ?_
  refine n_load X 0 rfl dX6_init_54 ?_
  refine n_loadI X 1 rfl dX6_init_55 ?_
  refine n_putF (v := .inr 0) X nm ff_X6_31 (fun _ => ⟨rfl, rfl⟩) (Nat.le_of_ble_eq_true rfl) dX6_init_56 ?_
  refine n_load X 0 rfl dX6_init_59 ?_
  refine n_loadI X 2 rfl dX6_init_60 ?_
  refine n_putF (v := .inr 1) X nm ff_X6_35 (fun _ => ⟨rfl, rfl⟩) (Nat.le_of_ble_eq_true rfl) dX6_init_61 ?_
  refine n_load X 0 rfl dX6_init_64 ?_
  refine n_newo (cx := 2) (fs := [.null, .null, .null]) X rfl inU_X2 tyX2_ok no_X6_39.1 no_X6_39.2.1 no_X6_39.2.2 df_X2 (Nat.le_of_ble_eq_true rfl) (Nat.le_of_ble_eq_true rfl) dX6_init_65 (fun q => ?_)
  refine n_dup X dX6_init_68 ?_
  refine n_loadI X 1 rfl dX6_init_69 ?_
  refine n_init (q := q) (av := [0]) (fkc := fkT_X2) (fsh := [some 0, some 9, some 10]) (Sc := SN_X2) (mc := zM) X ao ci_X6_41 (fun exc h => N_X2 G exc h) rfl (fun al9 alc9 h9 => by
      have e0 : al9 0 = alc9 0 := h9 0 (by decide)
      have e1 : al9 9 = alc9 1 := h9 1 (by decide)
      have e2 : al9 10 = alc9 2 := h9 2 (by decide)
      show [Value.ref (al9 0), Value.ref (al9 9), Value.ref (al9 10)] = _
      rw [e0, e1, e2]
      rfl) (fun c _ i => rfl) (Nat.le_of_ble_eq_true rfl) rfl (fun _ _ _ => rfl) rfl rfl (Nat.le_of_ble_eq_true rfl) ⟨Nat.le_of_ble_eq_true rfl, Nat.le_of_ble_eq_true rfl⟩ ⟨Nat.le_of_ble_eq_true rfl, Nat.le_of_ble_eq_true rfl⟩ (fun _ => Nat.le_of_ble_eq_true rfl) dX6_init_70 ?_
  refine n_putF (v := .inr 8) X nm ff_X6_44 (fun _ => ⟨rfl, rfl⟩) (Nat.le_of_ble_eq_true rfl) dX6_init_73 ?_
  exact n_ret X (Nat.le_of_ble_eq_true rfl) (Nat.le_of_ble_eq_true rfl) dX6_init_76
def SN_X10 : List Sh := [.inr (0, 0, none), .inr (0, 0, none), .inr (0, 0, none), .inr (0, 0, none), .inr (0, 6, none), .inr (0, 6, none), .inr (0, 6, none), .inr (0, 6, none), .inr (0, 6, none), .inr (3, 24, some (10, 1)), .inr (0, 8, none), .inr (0, 8, none), .inr (0, 8, none), .inr (0, 8, none), .inr (0, 8, none), .inr (0, 8, none), .inr (0, 8, none), .inr (0, 8, none), .inr (0, 8, none), .inr (0, 8, none), .inr (0, 8, none), .inr (0, 8, none), .inr (0, 8, none), .inr (0, 8, none), .inr (0, 8, none), .inr (0, 8, none), .inr (0, 8, none), .inr (0, 8, none), .inr (0, 8, none), .inr (0, 8, none), .inr (0, 8, none), .inr (0, 8, none), .inr (0, 8, none), .inr (0, 8, none)]
def rm_N_X10 : Room := { frames := 1, cells := 30, slots := 246, locals := 12 }
def fkT_X10 : List FV := [.inr 0, .inr 1, .inr 2, .inr 3, .inl (.int 0), .inr 4, .inr 5, .inr 6, .inr 7, .inr 8, .inr 9]
set_option maxRecDepth 100000 in
set_option maxHeartbeats 4000000 in
theorem N_X10 (G : Gl) (ex : List Nat) (hex : ex.length = 4) : ConN G yX10_init cX10_init 5 rm_N_X10 10 [.null, .null, .null, .null, .int 0, .null, .null, .null, .null, .null, .null] ex fkT_X10 SN_X10 zM := by
  obtain ⟨b0, b1, b2, b3, rfl⟩ : ∃ b0 b1 b2 b3 , ex = [b0, b1, b2, b3] := by
    match ex, hex with
    | [b0, b1, b2, b3], _ => exact ⟨_, _, _, _, rfl⟩
  refine conN_of (own := "Lastbus$Wishes") (by decide) rfl rfl (Nat.le_of_ble_eq_true rfl) (fun a C X nm ao => ?_)
  show NJ G rm_N_X10 (QN G rm_N_X10 C [b0, b1, b2, b3] a 10 fkT_X10 SN_X10 zM) C [b0, b1, b2, b3] a 10 0 0 0 [(0, .inl (.ref a)), (1, .inr 0), (2, .inr 1), (3, .inr 2), (4, .inr 3)] [] [.inl .null, .inl .null, .inl .null, .inl .null, .inl (.int 0), .inl .null, .inl .null, .inl .null, .inl .null, .inl .null, .inl .null] [.inr (0, 0, none), .inr (0, 0, none), .inr (0, 0, none), .inr (0, 0, none)] zM (fun _ => [])
  refine n_load X 0 rfl dX10_init_0 ?_
  refine n_objInit X ol_X10 oi_i oi_c rfl dX10_init_1 (Nat.le_of_ble_eq_true rfl) (Nat.le_of_ble_eq_true rfl) ?_
  refine n_load X 0 rfl dX10_init_4 ?_
  refine n_bipush X (by omega) dX10_init_5 ?_
  refine n_newa (t := 0) (N := 6) X (at9 := .int) (ty := .int) rfl rfl (fun _ _ => Iff.rfl) ac_int (fun _ => rfl) (by omega) (by decide) (fun _ => rfl) (Nat.le_of_ble_eq_true rfl) rfl (fun _ _ _ => rfl) (Nat.le_of_ble_eq_true rfl) (Nat.le_of_ble_eq_true rfl) dX10_init_7 ?_
  refine n_putF (v := .inr 4) X nm ff_X10_9 (fun _ => ⟨rfl, rfl⟩) (Nat.le_of_ble_eq_true rfl) dX10_init_9 ?_
  refine n_load X 0 rfl dX10_init_12 ?_
  refine n_bipush X (by omega) dX10_init_13 ?_
  refine n_newa (t := 0) (N := 6) X (at9 := .int) (ty := .int) rfl rfl (fun _ _ => Iff.rfl) ac_int (fun _ => rfl) (by omega) (by decide) (fun _ => rfl) (Nat.le_of_ble_eq_true rfl) rfl (fun _ _ _ => rfl) (Nat.le_of_ble_eq_true rfl) (Nat.le_of_ble_eq_true rfl) dX10_init_15 ?_
  refine n_putF (v := .inr 5) X nm ff_X10_15 (fun _ => ⟨rfl, rfl⟩) (Nat.le_of_ble_eq_true rfl) dX10_init_17 ?_
  refine n_load X 0 rfl dX10_init_20 ?_
  refine n_bipush X (by omega) dX10_init_21 ?_
  refine n_newa (t := 0) (N := 6) X (at9 := .int) (ty := .int) rfl rfl (fun _ _ => Iff.rfl) ac_int (fun _ => rfl) (by omega) (by decide) (fun _ => rfl) (Nat.le_of_ble_eq_true rfl) rfl (fun _ _ _ => rfl) (Nat.le_of_ble_eq_true rfl) (Nat.le_of_ble_eq_true rfl) dX10_init_23 ?_
  refine n_putF (v := .inr 6) X nm ff_X10_18 (fun _ => ⟨rfl, rfl⟩) (Nat.le_of_ble_eq_true rfl) dX10_init_25 ?_
  refine n_load X 0 rfl dX10_init_28 ?_
  refine n_bipush X (by omega) dX10_init_29 ?_
  refine n_newa (t := 0) (N := 6) X (at9 := .int) (ty := .int) rfl rfl (fun _ _ => Iff.rfl) ac_int (fun _ => rfl) (by omega) (by decide) (fun _ => rfl) (Nat.le_of_ble_eq_true rfl) rfl (fun _ _ _ => rfl) (Nat.le_of_ble_eq_true rfl) (Nat.le_of_ble_eq_true rfl) dX10_init_31 ?_
  refine n_putF (v := .inr 7) X nm ff_X10_21 (fun _ => ⟨rfl, rfl⟩) (Nat.le_of_ble_eq_true rfl) dX10_init_33 ?_
  refine n_load X 0 rfl dX10_init_36 ?_
  refine n_bipush X (by omega) dX10_init_37 ?_
  refine n_newa (t := 0) (N := 6) X (at9 := .int) (ty := .int) rfl rfl (fun _ _ => Iff.rfl) ac_int (fun _ => rfl) (by omega) (by decide) (fun _ => rfl) (Nat.le_of_ble_eq_true rfl) rfl (fun _ _ _ => rfl) (Nat.le_of_ble_eq_true rfl) (Nat.le_of_ble_eq_true rfl) dX10_init_39 ?_
  refine n_putF (v := .inr 8) X nm ff_X10_24 (fun _ => ⟨rfl, rfl⟩) (Nat.le_of_ble_eq_true rfl) dX10_init_41 ?_
  refine n_load X 0 rfl dX10_init_44 ?_
  refine n_bipush X (by omega) dX10_init_45 ?_
  refine n_bipush X (by omega) dX10_init_47 ?_
  refine n_mna (N := 24) (K := 8) X clA_X10_27 ac_int ao.1 (by omega) (by omega) (fun c _ _ i => rfl) (Nat.le_of_ble_eq_true rfl) rfl (fun _ _ _ => rfl) (Nat.le_of_ble_eq_true rfl) (Nat.le_of_ble_eq_true rfl) dX10_init_49 ?_
  refine n_putF (v := .inr 9) X nm ff_X10_29 (fun _ => ⟨rfl, rfl⟩) (Nat.le_of_ble_eq_true rfl) dX10_init_53 ?_
  refine n_load X 0 rfl dX10_init_56 ?_
  refine n_loadI X 1 rfl dX10_init_57 ?_
  refine n_putF (v := .inr 0) X nm ff_X10_32 (fun _ => ⟨rfl, rfl⟩) (Nat.le_of_ble_eq_true rfl) dX10_init_58 ?_
  refine n_load X 0 rfl dX10_init_61 ?_
  refine n_loadI X 2 rfl dX10_init_62 ?_
  refine n_putF (v := .inr 1) X nm ff_X10_36 (fun _ => ⟨rfl, rfl⟩) (Nat.le_of_ble_eq_true rfl) dX10_init_63 ?_
  refine n_load X 0 rfl dX10_init_66 ?_
  refine n_loadI X 3 rfl dX10_init_67 ?_
  refine n_putF (v := .inr 2) X nm ff_X10_40 (fun _ => ⟨rfl, rfl⟩) (Nat.le_of_ble_eq_true rfl) dX10_init_68 ?_
  refine n_load X 0 rfl dX10_init_71 ?_
  refine n_loadIW X 4 rfl dX10_init_72 ?_
  refine n_putF (v := .inr 3) X nm ff_X10_44 (fun _ => ⟨rfl, rfl⟩) (Nat.le_of_ble_eq_true rfl) dX10_init_74 ?_
  exact n_ret X (Nat.le_of_ble_eq_true rfl) (Nat.le_of_ble_eq_true rfl) dX10_init_77
def SN_X1 : List Sh := [.inr (0, 24, none), .inr (0, 24, none), .inr (0, 24, none), .inr (0, 24, none), .inr (0, 48, none), .inr (0, 48, none), .inr (0, 24, none), .inr (0, 24, none), .inr (0, 24, none), .inr (0, 24, none)]
def rm_N_X1 : Room := { frames := 1, cells := 10, slots := 288, locals := 12 }
def fkT_X1 : List FV := [.inl (.int 0), .inr 0, .inr 1, .inr 2, .inr 3, .inr 4, .inr 5, .inr 6, .inr 7, .inr 8, .inr 9]
set_option maxRecDepth 100000 in
set_option maxHeartbeats 4000000 in
theorem N_X1 (G : Gl) (ex : List Nat) (hex : ex.length = 0) : ConN G yX1_init cX1_init 1 rm_N_X1 1 [.int 0, .null, .null, .null, .null, .null, .null, .null, .null, .null, .null] ex fkT_X1 SN_X1 zM := by
  obtain rfl : ex = [] := List.length_eq_zero_iff.mp hex
  refine conN_of (own := "Lastbus$Fleet") (by decide) rfl rfl (Nat.le_of_ble_eq_true rfl) (fun a C X nm ao => ?_)
  show NJ G rm_N_X1 (QN G rm_N_X1 C [] a 1 fkT_X1 SN_X1 zM) C [] a 1 0 0 0 [(0, .inl (.ref a))] [] [.inl (.int 0), .inl .null, .inl .null, .inl .null, .inl .null, .inl .null, .inl .null, .inl .null, .inl .null, .inl .null, .inl .null] [] zM (fun _ => [])
  refine n_load X 0 rfl dX1_init_0 ?_
  refine n_objInit X ol_X1 oi_i oi_c rfl dX1_init_1 (Nat.le_of_ble_eq_true rfl) (Nat.le_of_ble_eq_true rfl) ?_
  refine n_load X 0 rfl dX1_init_4 ?_
  refine n_bipush X (by omega) dX1_init_5 ?_
  refine n_newa (t := 0) (N := 24) X (at9 := .int) (ty := .int) rfl rfl (fun _ _ => Iff.rfl) ac_int (fun _ => rfl) (by omega) (by decide) (fun _ => rfl) (Nat.le_of_ble_eq_true rfl) rfl (fun _ _ _ => rfl) (Nat.le_of_ble_eq_true rfl) (Nat.le_of_ble_eq_true rfl) dX1_init_7 ?_
  refine n_putF (v := .inr 0) X nm ff_X1_9 (fun _ => ⟨rfl, rfl⟩) (Nat.le_of_ble_eq_true rfl) dX1_init_9 ?_
  refine n_load X 0 rfl dX1_init_12 ?_
  refine n_bipush X (by omega) dX1_init_13 ?_
  refine n_newa (t := 0) (N := 24) X (at9 := .int) (ty := .int) rfl rfl (fun _ _ => Iff.rfl) ac_int (fun _ => rfl) (by omega) (by decide) (fun _ => rfl) (Nat.le_of_ble_eq_true rfl) rfl (fun _ _ _ => rfl) (Nat.le_of_ble_eq_true rfl) (Nat.le_of_ble_eq_true rfl) dX1_init_15 ?_
  refine n_putF (v := .inr 1) X nm ff_X1_15 (fun _ => ⟨rfl, rfl⟩) (Nat.le_of_ble_eq_true rfl) dX1_init_17 ?_
  refine n_load X 0 rfl dX1_init_20 ?_
  refine n_bipush X (by omega) dX1_init_21 ?_
  refine n_newa (t := 0) (N := 24) X (at9 := .int) (ty := .int) rfl rfl (fun _ _ => Iff.rfl) ac_int (fun _ => rfl) (by omega) (by decide) (fun _ => rfl) (Nat.le_of_ble_eq_true rfl) rfl (fun _ _ _ => rfl) (Nat.le_of_ble_eq_true rfl) (Nat.le_of_ble_eq_true rfl) dX1_init_23 ?_
  refine n_putF (v := .inr 2) X nm ff_X1_18 (fun _ => ⟨rfl, rfl⟩) (Nat.le_of_ble_eq_true rfl) dX1_init_25 ?_
  refine n_load X 0 rfl dX1_init_28 ?_
  refine n_bipush X (by omega) dX1_init_29 ?_
  refine n_newa (t := 0) (N := 24) X (at9 := .int) (ty := .int) rfl rfl (fun _ _ => Iff.rfl) ac_int (fun _ => rfl) (by omega) (by decide) (fun _ => rfl) (Nat.le_of_ble_eq_true rfl) rfl (fun _ _ _ => rfl) (Nat.le_of_ble_eq_true rfl) (Nat.le_of_ble_eq_true rfl) dX1_init_31 ?_
  refine n_putF (v := .inr 3) X nm ff_X1_21 (fun _ => ⟨rfl, rfl⟩) (Nat.le_of_ble_eq_true rfl) dX1_init_33 ?_
  refine n_load X 0 rfl dX1_init_36 ?_
  refine n_bipush X (by omega) dX1_init_37 ?_
  refine n_newa (t := 0) (N := 48) X (at9 := .int) (ty := .int) rfl rfl (fun _ _ => Iff.rfl) ac_int (fun _ => rfl) (by omega) (by decide) (fun _ => rfl) (Nat.le_of_ble_eq_true rfl) rfl (fun _ _ _ => rfl) (Nat.le_of_ble_eq_true rfl) (Nat.le_of_ble_eq_true rfl) dX1_init_39 ?_
  refine n_putF (v := .inr 4) X nm ff_X1_24 (fun _ => ⟨rfl, rfl⟩) (Nat.le_of_ble_eq_true rfl) dX1_init_41 ?_
  refine n_load X 0 rfl dX1_init_44 ?_
  refine n_bipush X (by omega) dX1_init_45 ?_
  refine n_newa (t := 0) (N := 48) X (at9 := .int) (ty := .int) rfl rfl (fun _ _ => Iff.rfl) ac_int (fun _ => rfl) (by omega) (by decide) (fun _ => rfl) (Nat.le_of_ble_eq_true rfl) rfl (fun _ _ _ => rfl) (Nat.le_of_ble_eq_true rfl) (Nat.le_of_ble_eq_true rfl) dX1_init_47 ?_
  refine n_putF (v := .inr 5) X nm ff_X1_27 (fun _ => ⟨rfl, rfl⟩) (Nat.le_of_ble_eq_true rfl) dX1_init_49 ?_
  refine n_load X 0 rfl dX1_init_52 ?_
  refine n_bipush X (by omega) dX1_init_53 ?_
  refine n_newa (t := 0) (N := 24) X (at9 := .int) (ty := .int) rfl rfl (fun _ _ => Iff.rfl) ac_int (fun _ => rfl) (by omega) (by decide) (fun _ => rfl) (Nat.le_of_ble_eq_true rfl) rfl (fun _ _ _ => rfl) (Nat.le_of_ble_eq_true rfl) (Nat.le_of_ble_eq_true rfl) dX1_init_55 ?_
  refine n_putF (v := .inr 6) X nm ff_X1_30 (fun _ => ⟨rfl, rfl⟩) (Nat.le_of_ble_eq_true rfl) dX1_init_57 ?_
  refine n_load X 0 rfl dX1_init_60 ?_
  refine n_bipush X (by omega) dX1_init_61 ?_
  refine n_newa (t := 0) (N := 24) X (at9 := .int) (ty := .int) rfl rfl (fun _ _ => Iff.rfl) ac_int (fun _ => rfl) (by omega) (by decide) (fun _ => rfl) (Nat.le_of_ble_eq_true rfl) rfl (fun _ _ _ => rfl) (Nat.le_of_ble_eq_true rfl) (Nat.le_of_ble_eq_true rfl) dX1_init_63 ?_
  refine n_putF (v := .inr 7) X nm ff_X1_33 (fun _ => ⟨rfl, rfl⟩) (Nat.le_of_ble_eq_true rfl) dX1_init_65 ?_
  refine n_load X 0 rfl dX1_init_68 ?_
  refine n_bipush X (by omega) dX1_init_69 ?_
  refine n_newa (t := 0) (N := 24) X (at9 := .int) (ty := .int) rfl rfl (fun _ _ => Iff.rfl) ac_int (fun _ => rfl) (by omega) (by decide) (fun _ => rfl) (Nat.le_of_ble_eq_true rfl) rfl (fun _ _ _ => rfl) (Nat.le_of_ble_eq_true rfl) (Nat.le_of_ble_eq_true rfl) dX1_init_71 ?_
  refine n_putF (v := .inr 8) X nm ff_X1_36 (fun _ => ⟨rfl, rfl⟩) (Nat.le_of_ble_eq_true rfl) dX1_init_73 ?_
  refine n_load X 0 rfl dX1_init_76 ?_
  refine n_bipush X (by omega) dX1_init_77 ?_
  refine n_newa (t := 0) (N := 24) X (at9 := .int) (ty := .int) rfl rfl (fun _ _ => Iff.rfl) ac_int (fun _ => rfl) (by omega) (by decide) (fun _ => rfl) (Nat.le_of_ble_eq_true rfl) rfl (fun _ _ _ => rfl) (Nat.le_of_ble_eq_true rfl) (Nat.le_of_ble_eq_true rfl) dX1_init_79 ?_
  refine n_putF (v := .inr 9) X nm ff_X1_39 (fun _ => ⟨rfl, rfl⟩) (Nat.le_of_ble_eq_true rfl) dX1_init_81 ?_
  exact n_ret X (Nat.le_of_ble_eq_true rfl) (Nat.le_of_ble_eq_true rfl) dX1_init_84
