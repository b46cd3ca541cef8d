def m0L : Mem := fun c i => if c = 0 ∧ i = 4 then -1 else if c = 113 ∧ i = 2 then -1 else 0
theorem m0L_z {c i : Nat} (h1 : c ≠ 0) (h2 : c ≠ 113) : m0L c i = 0 := by
  unfold m0L
  rw [if_neg (fun q => h1 q.1), if_neg (fun q => h2 q.1)]
set_option maxRecDepth 100000 in
theorem cd_X11_init : Cond.code yX11_init cX11_init 1 none ∈ lw_U := lw_Uin (i := 60) (rfl) rfl
theorem ol_X11 : Cond.methodLink "Lastbus" 3 Lib.objectInit ∈ lw_U := lw_Uin (i := 61) (by decide +kernel) rfl
theorem no_X11_9 : Cond.classLink "Lastbus" 9 "Lastbus$Stops" ∈ lw_U ∧ Cond.instantiable "Lastbus$Stops" 5 ∈ lw_U ∧ Cond.initialized "Lastbus$Stops" ∈ lw_U := ⟨lw_Uin (i := 64) (by decide +kernel) rfl, lw_Uin (i := 65) (by decide +kernel) rfl, lw_Uin (i := 33) (by decide +kernel) rfl⟩
theorem df_X8 : ∀ j, j < 5 → defaultValue (tyX8 j) = vp_V [.int 0, .null, .null, .null, .int 0] j := by
  intro j hj
  match j, hj with
  | 0, _ => rfl
  | 1, _ => rfl
  | 2, _ => rfl
  | 3, _ => rfl
  | 4, _ => rfl
  | j + 5, h => exact absurd h (by omega)
theorem ci_X11_11 : CIk "Lastbus" 11 yX8_init cX8_init 1 0 := ⟨Or.inl ⟨"Lastbus", List.mem_of_getElem? (i := 66) (by decide +kernel)⟩, lw_Uin (i := 67) (by decide +kernel) rfl, lw_Uin (i := 33) (by decide +kernel) rfl, cd_X8_init, rfl, ⟨by decide +kernel, by decide +kernel, by decide +kernel⟩⟩
theorem ff_X11_12 : FFk "Lastbus" 12 11 0 (.object "Lastbus$Stops") := ⟨RX11, TX11, 11, tyX11, rfl, by omega, inU_X11, lw_Uin (i := 466) (by decide +kernel) rfl, rfl, tyX11_ok, nmX11, rfl, rfl, by decide +kernel⟩
theorem no_X11_16 : Cond.classLink "Lastbus" 16 "Lastbus$Services" ∈ lw_U ∧ Cond.instantiable "Lastbus$Services" 2 ∈ lw_U ∧ Cond.initialized "Lastbus$Services" ∈ lw_U := ⟨lw_Uin (i := 101) (by decide +kernel) rfl, lw_Uin (i := 102) (by decide +kernel) rfl, lw_Uin (i := 34) (by decide +kernel) rfl⟩
theorem df_X7 : ∀ j, j < 2 → defaultValue (tyX7 j) = vp_V [.int 0, .null] j := by
  intro j hj
  match j, hj with
  | 0, _ => rfl
  | 1, _ => rfl
  | j + 2, h => exact absurd h (by omega)
theorem ci_X11_18 : CIk "Lastbus" 18 yX7_init cX7_init 1 0 := ⟨Or.inl ⟨"Lastbus", List.mem_of_getElem? (i := 103) (by decide +kernel)⟩, lw_Uin (i := 104) (by decide +kernel) rfl, lw_Uin (i := 34) (by decide +kernel) rfl, cd_X7_init, rfl, ⟨by decide +kernel, by decide +kernel, by decide +kernel⟩⟩
theorem ff_X11_19 : FFk "Lastbus" 19 11 1 (.object "Lastbus$Services") := ⟨RX11, TX11, 11, tyX11, rfl, by omega, inU_X11, lw_Uin (i := 467) (by decide +kernel) rfl, rfl, tyX11_ok, nmX11, rfl, rfl, by decide +kernel⟩
theorem no_X11_23 : Cond.classLink "Lastbus" 23 "Lastbus$Trips" ∈ lw_U ∧ Cond.instantiable "Lastbus$Trips" 6 ∈ lw_U ∧ Cond.initialized "Lastbus$Trips" ∈ lw_U := ⟨lw_Uin (i := 116) (by decide +kernel) rfl, lw_Uin (i := 117) (by decide +kernel) rfl, lw_Uin (i := 35) (by decide +kernel) rfl⟩
theorem df_X9 : ∀ j, j < 6 → defaultValue (tyX9 j) = vp_V [.int 0, .null, .null, .null, .null, .null] j := by
  intro j hj
  match j, hj with
  | 0, _ => rfl
  | 1, _ => rfl
  | 2, _ => rfl
  | 3, _ => rfl
  | 4, _ => rfl
  | 5, _ => rfl
  | j + 6, h => exact absurd h (by omega)
theorem ci_X11_25 : CIk "Lastbus" 25 yX9_init cX9_init 1 0 := ⟨Or.inl ⟨"Lastbus", List.mem_of_getElem? (i := 118) (by decide +kernel)⟩, lw_Uin (i := 119) (by decide +kernel) rfl, lw_Uin (i := 35) (by decide +kernel) rfl, cd_X9_init, rfl, ⟨by decide +kernel, by decide +kernel, by decide +kernel⟩⟩
theorem ff_X11_26 : FFk "Lastbus" 26 11 2 (.object "Lastbus$Trips") := ⟨RX11, TX11, 11, tyX11, rfl, by omega, inU_X11, lw_Uin (i := 468) (by decide +kernel) rfl, rfl, tyX11_ok, nmX11, rfl, rfl, by decide +kernel⟩
theorem no_X11_30 : Cond.classLink "Lastbus" 30 "Lastbus$Delays" ∈ lw_U ∧ Cond.instantiable "Lastbus$Delays" 5 ∈ lw_U ∧ Cond.initialized "Lastbus$Delays" ∈ lw_U := ⟨lw_Uin (i := 158) (by decide +kernel) rfl, lw_Uin (i := 159) (by decide +kernel) rfl, lw_Uin (i := 36) (by decide +kernel) rfl⟩
theorem df_X0 : ∀ j, j < 5 → defaultValue (tyX0 j) = vp_V [.int 0, .null, .null, .null, .null] j := by
  intro j hj
  match j, hj with
  | 0, _ => rfl
  | 1, _ => rfl
  | 2, _ => rfl
  | 3, _ => rfl
  | 4, _ => rfl
  | j + 5, h => exact absurd h (by omega)
theorem ci_X11_32 : CIk "Lastbus" 32 yX0_init cX0_init 1 0 := ⟨Or.inl ⟨"Lastbus", List.mem_of_getElem? (i := 160) (by decide +kernel)⟩, lw_Uin (i := 161) (by decide +kernel) rfl, lw_Uin (i := 36) (by decide +kernel) rfl, cd_X0_init, rfl, ⟨by decide +kernel, by decide +kernel, by decide +kernel⟩⟩
theorem ff_X11_33 : FFk "Lastbus" 33 11 3 (.object "Lastbus$Delays") := ⟨RX11, TX11, 11, tyX11, rfl, by omega, inU_X11, lw_Uin (i := 469) (by decide +kernel) rfl, rfl, tyX11_ok, nmX11, rfl, rfl, by decide +kernel⟩
theorem no_X11_37 : Cond.classLink "Lastbus" 37 "Lastbus$Row" ∈ lw_U ∧ Cond.instantiable "Lastbus$Row" 10 ∈ lw_U ∧ Cond.initialized "Lastbus$Row" ∈ lw_U := ⟨lw_Uin (i := 180) (by decide +kernel) rfl, lw_Uin (i := 181) (by decide +kernel) rfl, lw_Uin (i := 37) (by decide +kernel) rfl⟩
theorem df_X5 : ∀ j, j < 10 → defaultValue (tyX5 j) = vp_V [.null, .int 0, .int 0, .int 0, .int 0, .null, .null, .null, .int 0, .int 0] j := by
  intro j hj
  match j, hj with
  | 0, _ => rfl
  | 1, _ => rfl
  | 2, _ => rfl
  | 3, _ => rfl
  | 4, _ => rfl
  | 5, _ => rfl
  | 6, _ => rfl
  | 7, _ => rfl
  | 8, _ => rfl
  | 9, _ => rfl
  | j + 10, h => exact absurd h (by omega)
theorem ci_X11_39 : CIk "Lastbus" 39 yX5_init cX5_init 1 0 := ⟨Or.inl ⟨"Lastbus", List.mem_of_getElem? (i := 182) (by decide +kernel)⟩, lw_Uin (i := 183) (by decide +kernel) rfl, lw_Uin (i := 37) (by decide +kernel) rfl, cd_X5_init, rfl, ⟨by decide +kernel, by decide +kernel, by decide +kernel⟩⟩
theorem ff_X11_40 : FFk "Lastbus" 40 11 4 (.object "Lastbus$Row") := ⟨RX11, TX11, 11, tyX11, rfl, by omega, inU_X11, lw_Uin (i := 470) (by decide +kernel) rfl, rfl, tyX11_ok, nmX11, rfl, rfl, by decide +kernel⟩
theorem no_X11_44 : Cond.classLink "Lastbus" 44 "Lastbus$Net" ∈ lw_U ∧ Cond.instantiable "Lastbus$Net" 15 ∈ lw_U ∧ Cond.initialized "Lastbus$Net" ∈ lw_U := ⟨lw_Uin (i := 213) (by decide +kernel) rfl, lw_Uin (i := 214) (by decide +kernel) rfl, lw_Uin (i := 38) (by decide +kernel) rfl⟩
theorem df_X3 : ∀ j, j < 15 → defaultValue (tyX3 j) = vp_V [.null, .null, .null, .null, .int 0, .null, .null, .null, .null, .null, .null, .int 0, .null, .null, .null] j := by
  intro j hj
  match j, hj with
  | 0, _ => rfl
  | 1, _ => rfl
  | 2, _ => rfl
  | 3, _ => rfl
  | 4, _ => rfl
  | 5, _ => rfl
  | 6, _ => rfl
  | 7, _ => rfl
  | 8, _ => rfl
  | 9, _ => rfl
  | 10, _ => rfl
  | 11, _ => rfl
  | 12, _ => rfl
  | 13, _ => rfl
  | 14, _ => rfl
  | j + 15, h => exact absurd h (by omega)
theorem fkN_X11_12 : FLk "Lastbus" 12 11 0 := ⟨RX11, TX11, 11, rfl, by omega, inU_X11, lw_Uin (i := 466) (by decide +kernel) rfl, rfl⟩
theorem fkN_X11_19 : FLk "Lastbus" 19 11 1 := ⟨RX11, TX11, 11, rfl, by omega, inU_X11, lw_Uin (i := 467) (by decide +kernel) rfl, rfl⟩
theorem fkN_X11_26 : FLk "Lastbus" 26 11 2 := ⟨RX11, TX11, 11, rfl, by omega, inU_X11, lw_Uin (i := 468) (by decide +kernel) rfl, rfl⟩
theorem fkN_X11_33 : FLk "Lastbus" 33 11 3 := ⟨RX11, TX11, 11, rfl, by omega, inU_X11, lw_Uin (i := 469) (by decide +kernel) rfl, rfl⟩
theorem ci_X11_46 : CIk "Lastbus" 46 yX3_init cX3_init 5 4 := ⟨Or.inr (lw_Uin (i := 215) (by decide +kernel) rfl), lw_Uin (i := 216) (by decide +kernel) rfl, lw_Uin (i := 38) (by decide +kernel) rfl, cd_X3_init, rfl, ⟨by decide +kernel, by decide +kernel, by decide +kernel⟩⟩
theorem ff_X11_49 : FFk "Lastbus" 49 11 5 (.object "Lastbus$Net") := ⟨RX11, TX11, 11, tyX11, rfl, by omega, inU_X11, lw_Uin (i := 471) (by decide +kernel) rfl, rfl, tyX11_ok, nmX11, rfl, rfl, by decide +kernel⟩
theorem no_X11_53 : Cond.classLink "Lastbus" 53 "Lastbus$Search" ∈ lw_U ∧ Cond.instantiable "Lastbus$Search" 10 ∈ lw_U ∧ Cond.initialized "Lastbus$Search" ∈ lw_U := ⟨lw_Uin (i := 281) (by decide +kernel) rfl, lw_Uin (i := 282) (by decide +kernel) rfl, lw_Uin (i := 39) (by decide +kernel) rfl⟩
theorem df_X6 : ∀ j, j < 10 → defaultValue (tyX6 j) = vp_V [.null, .null, .null, .null, .null, .null, .null, .int 0, .null, .null] j := by
  intro j hj
  match j, hj with
  | 0, _ => rfl
  | 1, _ => rfl
  | 2, _ => rfl
  | 3, _ => rfl
  | 4, _ => rfl
  | 5, _ => rfl
  | 6, _ => rfl
  | 7, _ => rfl
  | 8, _ => rfl
  | 9, _ => rfl
  | j + 10, h => exact absurd h (by omega)
theorem fkN_X11_49 : FLk "Lastbus" 49 11 5 := ⟨RX11, TX11, 11, rfl, by omega, inU_X11, lw_Uin (i := 471) (by decide +kernel) rfl, rfl⟩
theorem ci_X11_55 : CIk "Lastbus" 55 yX6_init cX6_init 3 2 := ⟨Or.inr (lw_Uin (i := 283) (by decide +kernel) rfl), lw_Uin (i := 284) (by decide +kernel) rfl, lw_Uin (i := 39) (by decide +kernel) rfl, cd_X6_init, rfl, ⟨by decide +kernel, by decide +kernel, by decide +kernel⟩⟩
theorem ff_X11_58 : FFk "Lastbus" 58 11 6 (.object "Lastbus$Search") := ⟨RX11, TX11, 11, tyX11, rfl, by omega, inU_X11, lw_Uin (i := 472) (by decide +kernel) rfl, rfl, tyX11_ok, nmX11, rfl, rfl, by decide +kernel⟩
theorem no_X11_62 : Cond.classLink "Lastbus" 62 "Lastbus$Rounds" ∈ lw_U ∧ Cond.instantiable "Lastbus$Rounds" 9 ∈ lw_U ∧ Cond.initialized "Lastbus$Rounds" ∈ lw_U := ⟨lw_Uin (i := 341) (by decide +kernel) rfl, lw_Uin (i := 342) (by decide +kernel) rfl, lw_Uin (i := 41) (by decide +kernel) rfl⟩
theorem df_X4 : ∀ j, j < 9 → defaultValue (tyX4 j) = vp_V [.null, .null, .null, .int 0, .int 0, .null, .null, .null, .null] j := by
  intro j hj
  match j, hj with
  | 0, _ => rfl
  | 1, _ => rfl
  | 2, _ => rfl
  | 3, _ => rfl
  | 4, _ => rfl
  | 5, _ => rfl
  | 6, _ => rfl
  | 7, _ => rfl
  | 8, _ => rfl
  | j + 9, h => exact absurd h (by omega)
theorem ci_X11_64 : CIk "Lastbus" 64 yX4_init cX4_init 4 2 := ⟨Or.inr (lw_Uin (i := 343) (by decide +kernel) rfl), lw_Uin (i := 344) (by decide +kernel) rfl, lw_Uin (i := 41) (by decide +kernel) rfl, cd_X4_init, rfl, ⟨by decide +kernel, by decide +kernel, by decide +kernel⟩⟩
theorem ff_X11_65 : FFk "Lastbus" 65 11 7 (.object "Lastbus$Rounds") := ⟨RX11, TX11, 11, tyX11, rfl, by omega, inU_X11, lw_Uin (i := 473) (by decide +kernel) rfl, rfl, tyX11_ok, nmX11, rfl, rfl, by decide +kernel⟩
theorem no_X11_69 : Cond.classLink "Lastbus" 69 "Lastbus$Wishes" ∈ lw_U ∧ Cond.instantiable "Lastbus$Wishes" 11 ∈ lw_U ∧ Cond.initialized "Lastbus$Wishes" ∈ lw_U := ⟨lw_Uin (i := 385) (by decide +kernel) rfl, lw_Uin (i := 386) (by decide +kernel) rfl, lw_Uin (i := 42) (by decide +kernel) rfl⟩
theorem df_X10 : ∀ j, j < 11 → defaultValue (tyX10 j) = vp_V [.null, .null, .null, .null, .int 0, .null, .null, .null, .null, .null, .null] j := by
  intro j hj
  match j, hj with
  | 0, _ => rfl
  | 1, _ => rfl
  | 2, _ => rfl
  | 3, _ => rfl
  | 4, _ => rfl
  | 5, _ => rfl
  | 6, _ => rfl
  | 7, _ => rfl
  | 8, _ => rfl
  | 9, _ => rfl
  | 10, _ => rfl
  | j + 11, h => exact absurd h (by omega)
theorem ci_X11_71 : CIk "Lastbus" 71 yX10_init cX10_init 5 4 := ⟨Or.inr (lw_Uin (i := 387) (by decide +kernel) rfl), lw_Uin (i := 388) (by decide +kernel) rfl, lw_Uin (i := 42) (by decide +kernel) rfl, cd_X10_init, rfl, ⟨by decide +kernel, by decide +kernel, by decide +kernel⟩⟩
theorem ff_X11_72 : FFk "Lastbus" 72 11 8 (.object "Lastbus$Wishes") := ⟨RX11, TX11, 11, tyX11, rfl, by omega, inU_X11, lw_Uin (i := 474) (by decide +kernel) rfl, rfl, tyX11_ok, nmX11, rfl, rfl, by decide +kernel⟩
theorem no_X11_76 : Cond.classLink "Lastbus" 76 "Lastbus$Fleet" ∈ lw_U ∧ Cond.instantiable "Lastbus$Fleet" 11 ∈ lw_U ∧ Cond.initialized "Lastbus$Fleet" ∈ lw_U := ⟨lw_Uin (i := 425) (by decide +kernel) rfl, lw_Uin (i := 426) (by decide +kernel) rfl, lw_Uin (i := 43) (by decide +kernel) rfl⟩
theorem df_X1 : ∀ j, j < 11 → defaultValue (tyX1 j) = vp_V [.int 0, .null, .null, .null, .null, .null, .null, .null, .null, .null, .null] j := by
  intro j hj
  match j, hj with
  | 0, _ => rfl
  | 1, _ => rfl
  | 2, _ => rfl
  | 3, _ => rfl
  | 4, _ => rfl
  | 5, _ => rfl
  | 6, _ => rfl
  | 7, _ => rfl
  | 8, _ => rfl
  | 9, _ => rfl
  | 10, _ => rfl
  | j + 11, h => exact absurd h (by omega)
theorem ci_X11_78 : CIk "Lastbus" 78 yX1_init cX1_init 1 0 := ⟨Or.inl ⟨"Lastbus", List.mem_of_getElem? (i := 427) (by decide +kernel)⟩, lw_Uin (i := 428) (by decide +kernel) rfl, lw_Uin (i := 43) (by decide +kernel) rfl, cd_X1_init, rfl, ⟨by decide +kernel, by decide +kernel, by decide +kernel⟩⟩
theorem ff_X11_79 : FFk "Lastbus" 79 11 9 (.object "Lastbus$Fleet") := ⟨RX11, TX11, 11, tyX11, rfl, by omega, inU_X11, lw_Uin (i := 475) (by decide +kernel) rfl, rfl, tyX11_ok, nmX11, rfl, rfl, by decide +kernel⟩
theorem clA_X11_83 : Cond.classLink "Lastbus" 83 "[[I" ∈ lw_U := lw_Uin (i := 465) (by decide +kernel) rfl
theorem ff_X11_85 : FFk "Lastbus" 85 11 10 (.array (.array .int)) := ⟨RX11, TX11, 11, tyX11, rfl, by omega, inU_X11, lw_Uin (i := 476) (by decide +kernel) rfl, rfl, tyX11_ok, nmX11, rfl, rfl, by decide +kernel⟩
def SN_X11 : List Sh := [.inl (8, [none, some 1, some 2, some 15, none]), .inr (0, 12, none), .inr (3, 12, some (3, 1)), .inr (0, 12, none), .inr (0, 12, none), .inr (0, 12, none), .inr (0, 12, none), .inr (0, 12, none), .inr (0, 12, none), .inr (0, 12, none), .inr (0, 12, none), .inr (0, 12, none), .inr (0, 12, none), .inr (0, 12, none), .inr (0, 12, none), .inr (3, 12, some (16, 1)), .inr (0, 12, none), .inr (0, 12, none), .inr (0, 12, none), .inr (0, 12, none), .inr (0, 12, none), .inr (0, 12, none), .inr (0, 12, none), .inr (0, 12, none), .inr (0, 12, none), .inr (0, 12, none), .inr (0, 12, none), .inr (0, 12, none), .inl (7, [none, some 29]), .inr (0, 6, none), .inl (9, [none, some 31, some 32, some 33, some 58, some 83]), .inr (0, 24, none), .inr (0, 24, none), .inr (3, 24, some (34, 1)), .inr (0, 8, none), .inr (0, 8, none), .inr (0, 8, none), .inr (0, 8, none), .inr (0, 8, none), .inr (0, 8, none), .inr (0, 8, none), .inr (0, 8, none), .inr (0, 8, none), .inr (0, 8, none), .inr (0, 8, none), .inr (0, 8, none), .inr (0, 8, none), .inr (0, 8, none), .inr (0, 8, none), .inr (0, 8, none), .inr (0, 8, none), .inr (0, 8, none), .inr (0, 8, none), .inr (0, 8, none), .inr (0, 8, none), .inr (0, 8, none), .inr (0, 8, none), .inr (0, 8, none), .inr (3, 24, some (59, 1)), .inr (0, 8, none), .inr (0, 8, none), .inr (0, 8, none), .inr (0, 8, none), .inr (0, 8, none), .inr (0, 8, none), .inr (0, 8, none), .inr (0, 8, none), .inr (0, 8, none), .inr (0, 8, none), .inr (0, 8, none), .inr (0, 8, none), .inr (0, 8, none), .inr (0, 8, none), .inr (0, 8, none), .inr (0, 8, none), .inr (0, 8, none), .inr (0, 8, none), .inr (0, 8, none), .inr (0, 8, none), .inr (0, 8, none), .inr (0, 8, none), .inr (0, 8, none), .inr (0, 8, none), .inr (3, 24, some (84, 1)), .inr (0, 8, none), .inr (0, 8, none), .inr (0, 8, none), .inr (0, 8, none), .inr (0, 8, none), .inr (0, 8, none), .inr (0, 8, none), .inr (0, 8, none), .inr (0, 8, none), .inr (0, 8, none), .inr (0, 8, none), .inr (0, 8, none), .inr (0, 8, none), .inr (0, 8, none), .inr (0, 8, none), .inr (0, 8, none), .inr (0, 8, none), .inr (0, 8, none), .inr (0, 8, none), .inr (0, 8, none), .inr (0, 8, none), .inr (0, 8, none), .inr (0, 8, none), .inr (0, 8, none), .inl (0, [none, some 109, some 110, some 111, some 112]), .inr (0, 12, none), .inr (0, 12, none), .inr (0, 12, none), .inr (0, 12, none), .inl (5, [some 114, none, none, none, none, some 115, some 116, some 117, none, none]), .inr (2, 80, none), .inr (0, 8, none), .inr (0, 8, none), .inr (0, 8, none), .inl (3, [some 0, some 28, some 30, some 108, none, some 119, some 120, some 121, some 122, some 195, some 268, none, some 341, some 342, some 343]), .inr (0, 72, none), .inr (0, 72, none), .inr (0, 72, none), .inr (3, 72, some (123, 1)), .inr (0, 8, none), .inr (0, 8, none), .inr (0, 8, none), .inr (0, 8, none), .inr (0, 8, none), .inr (0, 8, none), .inr (0, 8, none), .inr (0, 8, none), .inr (0, 8, none), .inr (0, 8, none), .inr (0, 8, none), .inr (0, 8, none), .inr (0, 8, none), .inr (0, 8, none), .inr (0, 8, none), .inr (0, 8, none), .inr (0, 8, none), .inr (0, 8, none), .inr (0, 8, none), .inr (0, 8, none), .inr (0, 8, none), .inr (0, 8, none), .inr (0, 8, none), .inr (0, 8, none), .inr (0, 8, none), .inr (0, 8, none), .inr (0, 8, none), .inr (0, 8, none), .inr (0, 8, none), .inr (0, 8, none), .inr (0, 8, none), .inr (0, 8, none), .inr (0, 8, none), .inr (0, 8, none), .inr (0, 8, none), .inr (0, 8, none), .inr (0, 8, none), .inr (0, 8, none), .inr (0, 8, none), .inr (0, 8, none), .inr (0, 8, none), .inr (0, 8, none), .inr (0, 8, none), .inr (0, 8, none), .inr (0, 8, none), .inr (0, 8, none), .inr (0, 8, none), .inr (0, 8, none), .inr (0, 8, none), .inr (0, 8, none), .inr (0, 8, none), .inr (0, 8, none), .inr (0, 8, none), .inr (0, 8, none), .inr (0, 8, none), .inr (0, 8, none), .inr (0, 8, none), .inr (0, 8, none), .inr (0, 8, none), .inr (0, 8, none), .inr (0, 8, none), .inr (0, 8, none), .inr (0, 8, none), .inr (0, 8, none), .inr (0, 8, none), .inr (0, 8, none), .inr (0, 8, none), .inr (0, 8, none), .inr (0, 8, none), .inr (0, 8, none), .inr (0, 8, none), .inr (0, 8, none), .inr (3, 72, some (196, 1)), .inr (0, 8, none), .inr (0, 8, none), .inr (0, 8, none), .inr (0, 8, none), .inr (0, 8, none), .inr (0, 8, none), .inr (0, 8, none), .inr (0, 8, none), .inr (0, 8, none), .inr (0, 8, none), .inr (0, 8, none), .inr (0, 8, none), .inr (0, 8, none), .inr (0, 8, none), .inr (0, 8, none), .inr (0, 8, none), .inr (0, 8, none), .inr (0, 8, none), .inr (0, 8, none), .inr (0, 8, none), .inr (0, 8, none), .inr (0, 8, none), .inr (0, 8, none), .inr (0, 8, none), .inr (0, 8, none), .inr (0, 8, none), .inr (0, 8, none), .inr (0, 8, none), .inr (0, 8, none), .inr (0, 8, none), .inr (0, 8, none), .inr (0, 8, none), .inr (0, 8, none), .inr (0, 8, none), .inr (0, 8, none), .inr (0, 8, none), .inr (0, 8, none), .inr (0, 8, none), .inr (0, 8, none), .inr (0, 8, none), .inr (0, 8, none), .inr (0, 8, none), .inr (0, 8, none), .inr (0, 8, none), .inr (0, 8, none), .inr (0, 8, none), .inr (0, 8, none), .inr (0, 8, none), .inr (0, 8, none), .inr (0, 8, none), .inr (0, 8, none), .inr (0, 8, none), .inr (0, 8, none), .inr (0, 8, none), .inr (0, 8, none), .inr (0, 8, none), .inr (0, 8, none), .inr (0, 8, none), .inr (0, 8, none), .inr (0, 8, none), .inr (0, 8, none), .inr (0, 8, none), .inr (0, 8, none), .inr (0, 8, none), .inr (0, 8, none), .inr (0, 8, none), .inr (0, 8, none), .inr (0, 8, none), .inr (0, 8, none), .inr (0, 8, none), .inr (0, 8, none), .inr (0, 8, none), .inr (3, 72, some (269, 1)), .inr (0, 8, none), .inr (0, 8, none), .inr (0, 8, none), .inr (0, 8, none), .inr (0, 8, none), .inr (0, 8, none), .inr (0, 8, none), .inr (0, 8, none), .inr (0, 8, none), .inr (0, 8, none), .inr (0, 8, none), .inr (0, 8, none), .inr (0, 8, none), .inr (0, 8, none), .inr (0, 8, none), .inr (0, 8, none), .inr (0, 8, none), .inr (0, 8, none), .inr (0, 8, none), .inr (0, 8, none), .inr (0, 8, none), .inr (0, 8, none), .inr (0, 8, none), .inr (0, 8, none), .inr (0, 8, none), .inr (0, 8, none), .inr (0, 8, none), .inr (0, 8, none), .inr (0, 8, none), .inr (0, 8, none), .inr (0, 8, none), .inr (0, 8, none), .inr (0, 8, none), .inr (0, 8, none), .inr (0, 8, none), .inr (0, 8, none), .inr (0, 8, none), .inr (0, 8, none), .inr (0, 8, none), .inr (0, 8, none), .inr (0, 8, none), .inr (0, 8, none), .inr (0, 8, none), .inr (0, 8, none), .inr (0, 8, none), .inr (0, 8, none), .inr (0, 8, none), .inr (0, 8, none), .inr (0, 8, none), .inr (0, 8, none), .inr (0, 8, none), .inr (0, 8, none), .inr (0, 8, none), .inr (0, 8, none), .inr (0, 8, none), .inr (0, 8, none), .inr (0, 8, none), .inr (0, 8, none), .inr (0, 8, none), .inr (0, 8, none), .inr (0, 8, none), .inr (0, 8, none), .inr (0, 8, none), .inr (0, 8, none), .inr (0, 8, none), .inr (0, 8, none), .inr (0, 8, none), .inr (0, 8, none), .inr (0, 8, none), .inr (0, 8, none), .inr (0, 8, none), .inr (0, 8, none), .inr (0, 576, none), .inr (0, 576, none), .inr (0, 576, none), .inl (6, [some 0, some 118, some 351, some 345, some 346, some 347, some 348, none, some 349, some 350]), .inr (1, 72, none), .inr (0, 12, none), .inr (0, 12, none), .inr (1, 24, none), .inr (0, 576, none), .inr (0, 576, none), .inl (2, [some 0, some 352, some 353]), .inr (0, 12, none), .inr (0, 12, none), .inl (4, [some 0, some 118, some 355, none, none, some 356, some 357, some 358, some 359]), .inr (4, 13, some (360, 3)), .inr (0, 12, none), .inr (0, 12, none), .inr (0, 12, none), .inr (0, 12, none), .inl (2, [some 0, some 361, some 362]), .inr (0, 12, none), .inr (0, 12, none), .inl (2, [some 0, some 364, some 365]), .inr (0, 12, none), .inr (0, 12, none), .inl (2, [some 0, some 367, some 368]), .inr (0, 12, none), .inr (0, 12, none), .inl (2, [some 0, some 370, some 371]), .inr (0, 12, none), .inr (0, 12, none), .inl (2, [some 0, some 373, some 374]), .inr (0, 12, none), .inr (0, 12, none), .inl (2, [some 0, some 376, some 377]), .inr (0, 12, none), .inr (0, 12, none), .inl (2, [some 0, some 379, some 380]), .inr (0, 12, none), .inr (0, 12, none), .inl (2, [some 0, some 382, some 383]), .inr (0, 12, none), .inr (0, 12, none), .inl (2, [some 0, some 385, some 386]), .inr (0, 12, none), .inr (0, 12, none), .inl (2, [some 0, some 388, some 389]), .inr (0, 12, none), .inr (0, 12, none), .inl (2, [some 0, some 391, some 392]), .inr (0, 12, none), .inr (0, 12, none), .inl (2, [some 0, some 394, some 395]), .inr (0, 12, none), .inr (0, 12, none), .inl (2, [some 0, some 397, some 398]), .inr (0, 12, none), .inr (0, 12, none), .inl (10, [some 0, some 28, some 30, some 108, none, some 400, some 401, some 402, some 403, some 404, some 405]), .inr (0, 6, none), .inr (0, 6, none), .inr (0, 6, none), .inr (0, 6, none), .inr (0, 6, none), .inr (3, 24, some (406, 1)), .inr (0, 8, none), .inr (0, 8, none), .inr (0, 8, none), .inr (0, 8, none), .inr (0, 8, none), .inr (0, 8, none), .inr (0, 8, none), .inr (0, 8, none), .inr (0, 8, none), .inr (0, 8, none), .inr (0, 8, none), .inr (0, 8, none), .inr (0, 8, none), .inr (0, 8, none), .inr (0, 8, none), .inr (0, 8, none), .inr (0, 8, none), .inr (0, 8, none), .inr (0, 8, none), .inr (0, 8, none), .inr (0, 8, none), .inr (0, 8, none), .inr (0, 8, none), .inr (0, 8, none), .inl (1, [none, some 431, some 432, some 433, some 434, some 435, some 436, some 437, some 438, some 439, some 440]), .inr (0, 24, none), .inr (0, 24, none), .inr (0, 24, none), .inr (0, 24, none), .inr (0, 48, none), .inr (0, 48, none), .inr (0, 24, none), .inr (0, 24, none), .inr (0, 24, none), .inr (0, 24, none), .inr (3, 12, some (442, 1)), .inr (0, 12, none), .inr (0, 12, none), .inr (0, 12, none), .inr (0, 12, none), .inr (0, 12, none), .inr (0, 12, none), .inr (0, 12, none), .inr (0, 12, none), .inr (0, 12, none), .inr (0, 12, none), .inr (0, 12, none), .inr (0, 12, none)]
def rm_N_X11 : Room := { frames := 3, cells := 454, slots := 7551, locals := 56 }
def fkT_X11 : List FV := [.inr 0, .inr 28, .inr 30, .inr 108, .inr 113, .inr 118, .inr 344, .inr 354, .inr 399, .inr 430, .inr 441]
set_option maxRecDepth 100000 in
set_option maxHeartbeats 4000000 in
theorem N_X11 (G : Gl) (ex : List Nat) (hex : ex.length = 0) : ConN G yX11_init cX11_init 1 rm_N_X11 11 [.null, .null, .null, .null, .null, .null, .null, .null, .null, .null, .null] ex fkT_X11 SN_X11 m0L := by
  obtain rfl : ex = [] := List.length_eq_zero_iff.mp hex
  refine conN_of (own := "Lastbus") (by decide) rfl rfl (Nat.le_of_ble_eq_true rfl) (fun a C X nm ao => ?_)
  show NJ G rm_N_X11 (QN G rm_N_X11 C [] a 11 fkT_X11 SN_X11 m0L) C [] a 11 0 0 0 [(0, .inl (.ref a))] [] [.inl .null, .inl .null, .inl .null, .inl .null, .inl .null, .inl .null, .inl .null, .inl .null, .inl .null, .inl .null, .inl .null] [] m0L (fun _ => [])
  refine n_load X 0 rfl dX11_init_0 ?_
  refine n_objInit X ol_X11 oi_i oi_c rfl dX11_init_1 (Nat.le_of_ble_eq_true rfl) (Nat.le_of_ble_eq_true rfl) ?_
  refine n_load X 0 rfl dX11_init_4 ?_
  refine n_newo (cx := 8) (fs := [.int 0, .null, .null, .null, .int 0]) X rfl inU_X8 tyX8_ok no_X11_9.1 no_X11_9.2.1 no_X11_9.2.2 df_X8 (Nat.le_of_ble_eq_true rfl) (Nat.le_of_ble_eq_true rfl) dX11_init_5 (fun q => ?_)
  refine n_dup X dX11_init_8 ?_
  refine n_init (q := q) (av := []) (fkc := fkT_X8) (fsh := [none, some 1, some 2, some 15, none]) (Sc := SN_X8) (mc := zM) X ao ci_X11_11 (fun exc h => N_X8 G exc h) rfl (fun al9 alc9 h9 => by
      have e0 : al9 1 = alc9 0 := h9 0 (by decide)
      have e1 : al9 2 = alc9 1 := h9 1 (by decide)
      have e14 : al9 15 = alc9 14 := h9 14 (by decide)
      show [_, Value.ref (al9 1), Value.ref (al9 2), Value.ref (al9 15), _] = _
      rw [e0, e1, e14]
      rfl) (fun c hc i => m0L_z (c := 1 + c) (by omega) (by have h4 : 0 + c < 27 := hc; omega)) (Nat.le_of_ble_eq_true rfl) rfl (fun _ _ _ => rfl) rfl rfl (Nat.le_of_ble_eq_true rfl) ⟨Nat.le_of_ble_eq_true rfl, Nat.le_of_ble_eq_true rfl⟩ ⟨Nat.le_of_ble_eq_true rfl, Nat.le_of_ble_eq_true rfl⟩ (fun _ => Nat.le_of_ble_eq_true rfl) dX11_init_9 ?_
  refine n_putF (v := .inr 0) X nm ff_X11_12 (fun _ => ⟨rfl, rfl⟩) (Nat.le_of_ble_eq_true rfl) dX11_init_12 ?_
  refine n_load X 0 rfl dX11_init_15 ?_
  refine n_newo (cx := 7) (fs := [.int 0, .null]) X rfl inU_X7 tyX7_ok no_X11_16.1 no_X11_16.2.1 no_X11_16.2.2 df_X7 (Nat.le_of_ble_eq_true rfl) (Nat.le_of_ble_eq_true rfl) dX11_init_16 (fun q => ?_)
  refine n_dup X dX11_init_19 ?_
  refine n_init (q := q) (av := []) (fkc := fkT_X7) (fsh := [none, some 29]) (Sc := SN_X7) (mc := zM) X ao ci_X11_18 (fun exc h => N_X7 G exc h) rfl (fun al9 alc9 h9 => by
      have e0 : al9 29 = alc9 0 := h9 0 (by decide)
      show [_, Value.ref (al9 29)] = _
      rw [e0]
      rfl) (fun c hc i => m0L_z (c := 29 + c) (by omega) (by have h4 : 0 + c < 1 := hc; omega)) (Nat.le_of_ble_eq_true rfl) rfl (fun _ _ _ => rfl) rfl rfl (Nat.le_of_ble_eq_true rfl) ⟨Nat.le_of_ble_eq_true rfl, Nat.le_of_ble_eq_true rfl⟩ ⟨Nat.le_of_ble_eq_true rfl, Nat.le_of_ble_eq_true rfl⟩ (fun _ => Nat.le_of_ble_eq_true rfl) dX11_init_20 ?_
  refine n_putF (v := .inr 28) X nm ff_X11_19 (fun _ => ⟨rfl, rfl⟩) (Nat.le_of_ble_eq_true rfl) dX11_init_23 ?_
  refine n_load X 0 rfl dX11_init_26 ?_
  refine n_newo (cx := 9) (fs := [.int 0, .null, .null, .null, .null, .null]) X rfl inU_X9 tyX9_ok no_X11_23.1 no_X11_23.2.1 no_X11_23.2.2 df_X9 (Nat.le_of_ble_eq_true rfl) (Nat.le_of_ble_eq_true rfl) dX11_init_27 (fun q => ?_)
  refine n_dup X dX11_init_30 ?_
  refine n_init (q := q) (av := []) (fkc := fkT_X9) (fsh := [none, some 31, some 32, some 33, some 58, some 83]) (Sc := SN_X9) (mc := zM) X ao ci_X11_25 (fun exc h => N_X9 G exc h) rfl (fun al9 alc9 h9 => by
      have e0 : al9 31 = alc9 0 := h9 0 (by decide)
      have e1 : al9 32 = alc9 1 := h9 1 (by decide)
      have e2 : al9 33 = alc9 2 := h9 2 (by decide)
      have e27 : al9 58 = alc9 27 := h9 27 (by decide)
      have e52 : al9 83 = alc9 52 := h9 52 (by decide)
      show [_, Value.ref (al9 31), Value.ref (al9 32), Value.ref (al9 33), Value.ref (al9 58), Value.ref (al9 83)] = _
      rw [e0, e1, e2, e27, e52]
      rfl) (fun c hc i => m0L_z (c := 31 + c) (by omega) (by have h4 : 0 + c < 77 := hc; omega)) (Nat.le_of_ble_eq_true rfl) rfl (fun _ _ _ => rfl) rfl rfl (Nat.le_of_ble_eq_true rfl) ⟨Nat.le_of_ble_eq_true rfl, Nat.le_of_ble_eq_true rfl⟩ ⟨Nat.le_of_ble_eq_true rfl, Nat.le_of_ble_eq_true rfl⟩ (fun _ => Nat.le_of_ble_eq_true rfl) dX11_init_31 ?_
  refine n_putF (v := .inr 30) X nm ff_X11_26 (fun _ => ⟨rfl, rfl⟩) (Nat.le_of_ble_eq_true rfl) dX11_init_34 ?_
  refine n_load X 0 rfl dX11_init_37 ?_
  refine n_newo (cx := 0) (fs := [.int 0, .null, .null, .null, .null]) X rfl inU_X0 tyX0_ok no_X11_30.1 no_X11_30.2.1 no_X11_30.2.2 df_X0 (Nat.le_of_ble_eq_true rfl) (Nat.le_of_ble_eq_true rfl) dX11_init_38 (fun q => ?_)
  refine n_dup X dX11_init_41 ?_
  refine n_init (q := q) (av := []) (fkc := fkT_X0) (fsh := [none, some 109, some 110, some 111, some 112]) (Sc := SN_X0) (mc := zM) X ao ci_X11_32 (fun exc h => N_X0 G exc h) rfl (fun al9 alc9 h9 => by
      have e0 : al9 109 = alc9 0 := h9 0 (by decide)
      have e1 : al9 110 = alc9 1 := h9 1 (by decide)
      have e2 : al9 111 = alc9 2 := h9 2 (by decide)
      have e3 : al9 112 = alc9 3 := h9 3 (by decide)
      show [_, Value.ref (al9 109), Value.ref (al9 110), Value.ref (al9 111), Value.ref (al9 112)] = _
      rw [e0, e1, e2, e3]
      rfl) (fun c hc i => m0L_z (c := 109 + c) (by omega) (by have h4 : 0 + c < 4 := hc; omega)) (Nat.le_of_ble_eq_true rfl) rfl (fun _ _ _ => rfl) rfl rfl (Nat.le_of_ble_eq_true rfl) ⟨Nat.le_of_ble_eq_true rfl, Nat.le_of_ble_eq_true rfl⟩ ⟨Nat.le_of_ble_eq_true rfl, Nat.le_of_ble_eq_true rfl⟩ (fun _ => Nat.le_of_ble_eq_true rfl) dX11_init_42 ?_
  refine n_putF (v := .inr 108) X nm ff_X11_33 (fun _ => ⟨rfl, rfl⟩) (Nat.le_of_ble_eq_true rfl) dX11_init_45 ?_
  refine n_load X 0 rfl dX11_init_48 ?_
  refine n_newo (cx := 5) (fs := [.null, .int 0, .int 0, .int 0, .int 0, .null, .null, .null, .int 0, .int 0]) X rfl inU_X5 tyX5_ok no_X11_37.1 no_X11_37.2.1 no_X11_37.2.2 df_X5 (Nat.le_of_ble_eq_true rfl) (Nat.le_of_ble_eq_true rfl) dX11_init_49 (fun q => ?_)
  refine n_dup X dX11_init_52 ?_
  refine n_init (q := q) (av := []) (fkc := fkT_X5) (fsh := [some 114, none, none, none, none, some 115, some 116, some 117, none, none]) (Sc := SN_X5) (mc := zM) X ao ci_X11_39 (fun exc h => N_X5 G exc h) rfl (fun al9 alc9 h9 => by
      have e0 : al9 114 = alc9 0 := h9 0 (by decide)
      have e1 : al9 115 = alc9 1 := h9 1 (by decide)
      have e2 : al9 116 = alc9 2 := h9 2 (by decide)
      have e3 : al9 117 = alc9 3 := h9 3 (by decide)
      show [Value.ref (al9 114), _, _, _, _, Value.ref (al9 115), Value.ref (al9 116), Value.ref (al9 117), _, _] = _
      rw [e0, e1, e2, e3]
      rfl) (fun c hc i => m0L_z (c := 114 + c) (by omega) (by have h4 : 0 + c < 4 := hc; omega)) (Nat.le_of_ble_eq_true rfl) rfl (fun _ _ _ => rfl) rfl rfl (Nat.le_of_ble_eq_true rfl) ⟨Nat.le_of_ble_eq_true rfl, Nat.le_of_ble_eq_true rfl⟩ ⟨Nat.le_of_ble_eq_true rfl, Nat.le_of_ble_eq_true rfl⟩ (fun _ => Nat.le_of_ble_eq_true rfl) dX11_init_53 ?_
  refine n_putF (v := .inr 113) X nm ff_X11_40 (fun _ => ⟨rfl, rfl⟩) (Nat.le_of_ble_eq_true rfl) dX11_init_56 ?_
  refine n_load X 0 rfl dX11_init_59 ?_
  refine n_newo (cx := 3) (fs := [.null, .null, .null, .null, .int 0, .null, .null, .null, .null, .null, .null, .int 0, .null, .null, .null]) X rfl inU_X3 tyX3_ok no_X11_44.1 no_X11_44.2.1 no_X11_44.2.2 df_X3 (Nat.le_of_ble_eq_true rfl) (Nat.le_of_ble_eq_true rfl) dX11_init_60 (fun q => ?_)
  refine n_dup X dX11_init_63 ?_
  refine n_load X 0 rfl dX11_init_64 ?_
  refine n_get (v := .inr 0) X fkN_X11_12 rfl dX11_init_65 ?_
  refine n_load X 0 rfl dX11_init_68 ?_
  refine n_get (v := .inr 28) X fkN_X11_19 rfl dX11_init_69 ?_
  refine n_load X 0 rfl dX11_init_72 ?_
  refine n_get (v := .inr 30) X fkN_X11_26 rfl dX11_init_73 ?_
  refine n_load X 0 rfl dX11_init_76 ?_
  refine n_get (v := .inr 108) X fkN_X11_33 rfl dX11_init_77 ?_
  refine n_init (q := q) (av := [0, 28, 30, 108]) (fkc := fkT_X3) (fsh := [some 0, some 28, some 30, some 108, none, some 119, some 120, some 121, some 122, some 195, some 268, none, some 341, some 342, some 343]) (Sc := SN_X3) (mc := zM) X ao ci_X11_46 (fun exc h => N_X3 G exc h) rfl (fun al9 alc9 h9 => by
      have e0 : al9 0 = alc9 0 := h9 0 (by decide)
      have e1 : al9 28 = alc9 1 := h9 1 (by decide)
      have e2 : al9 30 = alc9 2 := h9 2 (by decide)
      have e3 : al9 108 = alc9 3 := h9 3 (by decide)
      have e4 : al9 119 = alc9 4 := h9 4 (by decide)
      have e5 : al9 120 = alc9 5 := h9 5 (by decide)
      have e6 : al9 121 = alc9 6 := h9 6 (by decide)
      have e7 : al9 122 = alc9 7 := h9 7 (by decide)
      have e80 : al9 195 = alc9 80 := h9 80 (by decide)
      have e153 : al9 268 = alc9 153 := h9 153 (by decide)
      have e226 : al9 341 = alc9 226 := h9 226 (by decide)
      have e227 : al9 342 = alc9 227 := h9 227 (by decide)
      have e228 : al9 343 = alc9 228 := h9 228 (by decide)
      show [Value.ref (al9 0), Value.ref (al9 28), Value.ref (al9 30), Value.ref (al9 108), _, Value.ref (al9 119), Value.ref (al9 120), Value.ref (al9 121), Value.ref (al9 122), Value.ref (al9 195), Value.ref (al9 268), _, Value.ref (al9 341), Value.ref (al9 342), Value.ref (al9 343)] = _
      rw [e0, e1, e2, e3, e4, e5, e6, e7, e80, e153, e226, e227, e228]
      rfl) (fun c hc i => m0L_z (c := 119 + c) (by omega) (by have h4 : 4 + c < 229 := hc; omega)) (Nat.le_of_ble_eq_true rfl) rfl (fun _ _ _ => rfl) rfl rfl (Nat.le_of_ble_eq_true rfl) ⟨Nat.le_of_ble_eq_true rfl, Nat.le_of_ble_eq_true rfl⟩ ⟨Nat.le_of_ble_eq_true rfl, Nat.le_of_ble_eq_true rfl⟩ (fun _ => Nat.le_of_ble_eq_true rfl) dX11_init_80 ?_
  refine n_putF (v := .inr 118) X nm ff_X11_49 (fun _ => ⟨rfl, rfl⟩) (Nat.le_of_ble_eq_true rfl) dX11_init_83 ?_
  refine n_load X 0 rfl dX11_init_86 ?_
  refine n_newo (cx := 6) (fs := [.null, .null, .null, .null, .null, .null, .null, .int 0, .null, .null]) X rfl inU_X6 tyX6_ok no_X11_53.1 no_X11_53.2.1 no_X11_53.2.2 df_X6 (Nat.le_of_ble_eq_true rfl) (Nat.le_of_ble_eq_true rfl) dX11_init_87 (fun q => ?_)
  refine n_dup X dX11_init_90 ?_
  refine n_load X 0 rfl dX11_init_91 ?_
  refine n_get (v := .inr 0) X fkN_X11_12 rfl dX11_init_92 ?_
  refine n_load X 0 rfl dX11_init_95 ?_
  refine n_get (v := .inr 118) X fkN_X11_49 rfl dX11_init_96 ?_
  refine n_init (q := q) (av := [0, 118]) (fkc := fkT_X6) (fsh := [some 0, some 118, some 351, some 345, some 346, some 347, some 348, none, some 349, some 350]) (Sc := SN_X6) (mc := zM) X ao ci_X11_55 (fun exc h => N_X6 G exc h) rfl (fun al9 alc9 h9 => by
      have e0 : al9 0 = alc9 0 := h9 0 (by decide)
      have e1 : al9 118 = alc9 1 := h9 1 (by decide)
      have e2 : al9 345 = alc9 2 := h9 2 (by decide)
      have e3 : al9 346 = alc9 3 := h9 3 (by decide)
      have e4 : al9 347 = alc9 4 := h9 4 (by decide)
      have e5 : al9 348 = alc9 5 := h9 5 (by decide)
      have e6 : al9 349 = alc9 6 := h9 6 (by decide)
      have e7 : al9 350 = alc9 7 := h9 7 (by decide)
      have e8 : al9 351 = alc9 8 := h9 8 (by decide)
      show [Value.ref (al9 0), Value.ref (al9 118), Value.ref (al9 351), Value.ref (al9 345), Value.ref (al9 346), Value.ref (al9 347), Value.ref (al9 348), _, Value.ref (al9 349), Value.ref (al9 350)] = _
      rw [e0, e1, e2, e3, e4, e5, e6, e7, e8]
      rfl) (fun c hc i => m0L_z (c := 345 + c) (by omega) (by have h4 : 2 + c < 11 := hc; omega)) (Nat.le_of_ble_eq_true rfl) rfl (fun _ _ _ => rfl) rfl rfl (Nat.le_of_ble_eq_true rfl) ⟨Nat.le_of_ble_eq_true rfl, Nat.le_of_ble_eq_true rfl⟩ ⟨Nat.le_of_ble_eq_true rfl, Nat.le_of_ble_eq_true rfl⟩ (fun _ => Nat.le_of_ble_eq_true rfl) dX11_init_99 ?_
  refine n_putF (v := .inr 344) X nm ff_X11_58 (fun _ => ⟨rfl, rfl⟩) (Nat.le_of_ble_eq_true rfl) dX11_init_102 ?_
  refine n_load X 0 rfl dX11_init_105 ?_
  refine n_newo (cx := 4) (fs := [.null, .null, .null, .int 0, .int 0, .null, .null, .null, .null]) X rfl inU_X4 tyX4_ok no_X11_62.1 no_X11_62.2.1 no_X11_62.2.2 df_X4 (Nat.le_of_ble_eq_true rfl) (Nat.le_of_ble_eq_true rfl) dX11_init_106 (fun q => ?_)
  refine n_dup X dX11_init_109 ?_
  refine n_load X 0 rfl dX11_init_110 ?_
  refine n_get (v := .inr 0) X fkN_X11_12 rfl dX11_init_111 ?_
  refine n_load X 0 rfl dX11_init_114 ?_
  refine n_get (v := .inr 118) X fkN_X11_49 rfl dX11_init_115 ?_
  refine n_init (q := q) (av := [0, 118]) (fkc := fkT_X4) (fsh := [some 0, some 118, some 355, none, none, some 356, some 357, some 358, some 359]) (Sc := SN_X4) (mc := zM) X ao ci_X11_64 (fun exc h => N_X4 G exc h) rfl (fun al9 alc9 h9 => by
      have e0 : al9 0 = alc9 0 := h9 0 (by decide)
      have e1 : al9 118 = alc9 1 := h9 1 (by decide)
      have e2 : al9 355 = alc9 2 := h9 2 (by decide)
      have e3 : al9 356 = alc9 3 := h9 3 (by decide)
      have e4 : al9 357 = alc9 4 := h9 4 (by decide)
      have e5 : al9 358 = alc9 5 := h9 5 (by decide)
      have e6 : al9 359 = alc9 6 := h9 6 (by decide)
      show [Value.ref (al9 0), Value.ref (al9 118), Value.ref (al9 355), _, _, Value.ref (al9 356), Value.ref (al9 357), Value.ref (al9 358), Value.ref (al9 359)] = _
      rw [e0, e1, e2, e3, e4, e5, e6]
      rfl) (fun c hc i => m0L_z (c := 355 + c) (by omega) (by have h4 : 2 + c < 46 := hc; omega)) (Nat.le_of_ble_eq_true rfl) rfl (fun _ _ _ => rfl) rfl rfl (Nat.le_of_ble_eq_true rfl) ⟨Nat.le_of_ble_eq_true rfl, Nat.le_of_ble_eq_true rfl⟩ ⟨Nat.le_of_ble_eq_true rfl, Nat.le_of_ble_eq_true rfl⟩ (fun _ => Nat.le_of_ble_eq_true rfl) dX11_init_118 ?_
  refine n_putF (v := .inr 354) X nm ff_X11_65 (fun _ => ⟨rfl, rfl⟩) (Nat.le_of_ble_eq_true rfl) dX11_init_121 ?_
  refine n_load X 0 rfl dX11_init_124 ?_
  refine n_newo (cx := 10) (fs := [.null, .null, .null, .null, .int 0, .null, .null, .null, .null, .null, .null]) X rfl inU_X10 tyX10_ok no_X11_69.1 no_X11_69.2.1 no_X11_69.2.2 df_X10 (Nat.le_of_ble_eq_true rfl) (Nat.le_of_ble_eq_true rfl) dX11_init_125 (fun q => ?_)
  refine n_dup X dX11_init_128 ?_
  refine n_load X 0 rfl dX11_init_129 ?_
  refine n_get (v := .inr 0) X fkN_X11_12 rfl dX11_init_130 ?_
  refine n_load X 0 rfl dX11_init_133 ?_
  refine n_get (v := .inr 28) X fkN_X11_19 rfl dX11_init_134 ?_
  refine n_load X 0 rfl dX11_init_137 ?_
  refine n_get (v := .inr 30) X fkN_X11_26 rfl dX11_init_138 ?_
  refine n_load X 0 rfl dX11_init_141 ?_
  refine n_get (v := .inr 108) X fkN_X11_33 rfl dX11_init_142 ?_
  refine n_init (q := q) (av := [0, 28, 30, 108]) (fkc := fkT_X10) (fsh := [some 0, some 28, some 30, some 108, none, some 400, some 401, some 402, some 403, some 404, some 405]) (Sc := SN_X10) (mc := zM) X ao ci_X11_71 (fun exc h => N_X10 G exc h) rfl (fun al9 alc9 h9 => by
      have e0 : al9 0 = alc9 0 := h9 0 (by decide)
      have e1 : al9 28 = alc9 1 := h9 1 (by decide)
      have e2 : al9 30 = alc9 2 := h9 2 (by decide)
      have e3 : al9 108 = alc9 3 := h9 3 (by decide)
      have e4 : al9 400 = alc9 4 := h9 4 (by decide)
      have e5 : al9 401 = alc9 5 := h9 5 (by decide)
      have e6 : al9 402 = alc9 6 := h9 6 (by decide)
      have e7 : al9 403 = alc9 7 := h9 7 (by decide)
      have e8 : al9 404 = alc9 8 := h9 8 (by decide)
      have e9 : al9 405 = alc9 9 := h9 9 (by decide)
      show [Value.ref (al9 0), Value.ref (al9 28), Value.ref (al9 30), Value.ref (al9 108), _, Value.ref (al9 400), Value.ref (al9 401), Value.ref (al9 402), Value.ref (al9 403), Value.ref (al9 404), Value.ref (al9 405)] = _
      rw [e0, e1, e2, e3, e4, e5, e6, e7, e8, e9]
      rfl) (fun c hc i => m0L_z (c := 400 + c) (by omega) (by have h4 : 4 + c < 34 := hc; omega)) (Nat.le_of_ble_eq_true rfl) rfl (fun _ _ _ => rfl) rfl rfl (Nat.le_of_ble_eq_true rfl) ⟨Nat.le_of_ble_eq_true rfl, Nat.le_of_ble_eq_true rfl⟩ ⟨Nat.le_of_ble_eq_true rfl, Nat.le_of_ble_eq_true rfl⟩ (fun _ => Nat.le_of_ble_eq_true rfl) dX11_init_145 ?_
  refine n_putF (v := .inr 399) X nm ff_X11_72 (fun _ => ⟨rfl, rfl⟩) (Nat.le_of_ble_eq_true rfl) dX11_init_148 ?_
  refine n_load X 0 rfl dX11_init_151 ?_
  refine n_newo (cx := 1) (fs := [.int 0, .null, .null, .null, .null, .null, .null, .null, .null, .null, .null]) X rfl inU_X1 tyX1_ok no_X11_76.1 no_X11_76.2.1 no_X11_76.2.2 df_X1 (Nat.le_of_ble_eq_true rfl) (Nat.le_of_ble_eq_true rfl) dX11_init_152 (fun q => ?_)
  refine n_dup X dX11_init_155 ?_
  refine n_init (q := q) (av := []) (fkc := fkT_X1) (fsh := [none, some 431, some 432, some 433, some 434, some 435, some 436, some 437, some 438, some 439, some 440]) (Sc := SN_X1) (mc := zM) X ao ci_X11_78 (fun exc h => N_X1 G exc h) rfl (fun al9 alc9 h9 => by
      have e0 : al9 431 = alc9 0 := h9 0 (by decide)
      have e1 : al9 432 = alc9 1 := h9 1 (by decide)
      have e2 : al9 433 = alc9 2 := h9 2 (by decide)
      have e3 : al9 434 = alc9 3 := h9 3 (by decide)
      have e4 : al9 435 = alc9 4 := h9 4 (by decide)
      have e5 : al9 436 = alc9 5 := h9 5 (by decide)
      have e6 : al9 437 = alc9 6 := h9 6 (by decide)
      have e7 : al9 438 = alc9 7 := h9 7 (by decide)
      have e8 : al9 439 = alc9 8 := h9 8 (by decide)
      have e9 : al9 440 = alc9 9 := h9 9 (by decide)
      show [_, Value.ref (al9 431), Value.ref (al9 432), Value.ref (al9 433), Value.ref (al9 434), Value.ref (al9 435), Value.ref (al9 436), Value.ref (al9 437), Value.ref (al9 438), Value.ref (al9 439), Value.ref (al9 440)] = _
      rw [e0, e1, e2, e3, e4, e5, e6, e7, e8, e9]
      rfl) (fun c hc i => m0L_z (c := 431 + c) (by omega) (by have h4 : 0 + c < 10 := hc; omega)) (Nat.le_of_ble_eq_true rfl) rfl (fun _ _ _ => rfl) rfl rfl (Nat.le_of_ble_eq_true rfl) ⟨Nat.le_of_ble_eq_true rfl, Nat.le_of_ble_eq_true rfl⟩ ⟨Nat.le_of_ble_eq_true rfl, Nat.le_of_ble_eq_true rfl⟩ (fun _ => Nat.le_of_ble_eq_true rfl) dX11_init_156 ?_
  refine n_putF (v := .inr 430) X nm ff_X11_79 (fun _ => ⟨rfl, rfl⟩) (Nat.le_of_ble_eq_true rfl) dX11_init_159 ?_
  refine n_load X 0 rfl dX11_init_162 ?_
  refine n_bipush X (by omega) dX11_init_163 ?_
  refine n_bipush X (by omega) dX11_init_165 ?_
  refine n_mna (N := 12) (K := 12) X clA_X11_83 ac_int ao.1 (by omega) (by omega) (fun c h1 h2 i => m0L_z (by have h3 : 441 ≤ c := h1; omega) (by have h3 : 441 ≤ c := h1; omega)) (Nat.le_of_ble_eq_true rfl) rfl (fun _ _ _ => rfl) (Nat.le_of_ble_eq_true rfl) (Nat.le_of_ble_eq_true rfl) dX11_init_167 ?_
  refine n_putF (v := .inr 441) X nm ff_X11_85 (fun _ => ⟨rfl, rfl⟩) (Nat.le_of_ble_eq_true rfl) dX11_init_171 ?_
  exact n_ret X (Nat.le_of_ble_eq_true rfl) (Nat.le_of_ble_eq_true rfl) dX11_init_174
