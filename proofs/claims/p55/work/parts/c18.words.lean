/-! ===== WORDS of the tables, by their places ===== -/
theorem lw_Ulist {ws : List Cond} (ps : List Nat) (h : ws = ps.filterMap (fun i => lw_tbl[i]?)) (g : ws.all goodWord = true) : ∀ w ∈ ws, w ∈ lw_U := by
  intro w hw
  have h1 := List.all_eq_true.mp g w hw
  rw [h] at hw
  obtain ⟨i, -, hi⟩ := List.mem_filterMap.mp hw
  exact lw_Uin hi h1
theorem inU_X0 : ∀ w ∈ u_ws RX0 TX0 5, w ∈ lw_U := lw_Ulist [169, 171, 173, 175, 177] (by decide +kernel) (by decide +kernel)
theorem inU_X1 : ∀ w ∈ u_ws RX1 TX1 11, w ∈ lw_U := lw_Ulist [442, 444, 446, 448, 450, 452, 454, 456, 458, 460, 462] (by decide +kernel) (by decide +kernel)
theorem inU_X2 : ∀ w ∈ u_ws RX2 TX2 3, w ∈ lw_U := lw_Ulist [298, 300, 302] (by decide +kernel) (by decide +kernel)
theorem inU_X3 : ∀ w ∈ u_ws RX3 TX3 15, w ∈ lw_U := lw_Ulist [250, 252, 254, 256, 258, 260, 262, 264, 266, 268, 270, 272, 274, 276, 278] (by decide +kernel) (by decide +kernel)
theorem inU_X4 : ∀ w ∈ u_ws RX4 TX4 9, w ∈ lw_U := lw_Ulist [366, 368, 370, 372, 374, 376, 378, 380, 382] (by decide +kernel) (by decide +kernel)
theorem inU_X5 : ∀ w ∈ u_ws RX5 TX5 10, w ∈ lw_U := lw_Ulist [191, 193, 195, 197, 199, 201, 203, 205, 207, 209] (by decide +kernel) (by decide +kernel)
theorem inU_X6 : ∀ w ∈ u_ws RX6 TX6 10, w ∈ lw_U := lw_Ulist [320, 322, 324, 326, 328, 330, 332, 334, 336, 338] (by decide +kernel) (by decide +kernel)
theorem inU_X7 : ∀ w ∈ u_ws RX7 TX7 2, w ∈ lw_U := lw_Ulist [111, 113] (by decide +kernel) (by decide +kernel)
theorem inU_X8 : ∀ w ∈ u_ws RX8 TX8 5, w ∈ lw_U := lw_Ulist [89, 91, 93, 95, 97] (by decide +kernel) (by decide +kernel)
theorem inU_X9 : ∀ w ∈ u_ws RX9 TX9 6, w ∈ lw_U := lw_Ulist [145, 147, 149, 151, 153, 155] (by decide +kernel) (by decide +kernel)
theorem inU_X10 : ∀ w ∈ u_ws RX10 TX10 11, w ∈ lw_U := lw_Ulist [402, 404, 406, 408, 410, 412, 414, 416, 418, 420, 422] (by decide +kernel) (by decide +kernel)
theorem inU_X11 : ∀ w ∈ u_ws RX11 TX11 11, w ∈ lw_U := lw_Ulist [477, 479, 481, 483, 485, 487, 489, 491, 493, 495, 497] (by decide +kernel) (by decide +kernel)
theorem fk_X11_12 : FLk "Lastbus" 12 11 0 := ⟨RX11, TX11, 11, rfl, by omega, inU_X11, lw_Uin (i := 466) (by decide +kernel) rfl, rfl⟩
theorem fk_X11_19 : FLk "Lastbus" 19 11 1 := ⟨RX11, TX11, 11, rfl, by omega, inU_X11, lw_Uin (i := 467) (by decide +kernel) rfl, rfl⟩
theorem fk_X11_26 : FLk "Lastbus" 26 11 2 := ⟨RX11, TX11, 11, rfl, by omega, inU_X11, lw_Uin (i := 468) (by decide +kernel) rfl, rfl⟩
theorem fk_X11_49 : FLk "Lastbus" 49 11 5 := ⟨RX11, TX11, 11, rfl, by omega, inU_X11, lw_Uin (i := 471) (by decide +kernel) rfl, rfl⟩
theorem fk_X11_58 : FLk "Lastbus" 58 11 6 := ⟨RX11, TX11, 11, rfl, by omega, inU_X11, lw_Uin (i := 472) (by decide +kernel) rfl, rfl⟩
theorem fk_X11_65 : FLk "Lastbus" 65 11 7 := ⟨RX11, TX11, 11, rfl, by omega, inU_X11, lw_Uin (i := 473) (by decide +kernel) rfl, rfl⟩
theorem fk_X11_79 : FLk "Lastbus" 79 11 9 := ⟨RX11, TX11, 11, rfl, by omega, inU_X11, lw_Uin (i := 475) (by decide +kernel) rfl, rfl⟩
theorem fk_X11_85 : FLk "Lastbus" 85 11 10 := ⟨RX11, TX11, 11, rfl, by omega, inU_X11, lw_Uin (i := 476) (by decide +kernel) rfl, rfl⟩
theorem fk_X11_92 : FLk "Lastbus" 92 8 0 := ⟨RX8, TX8, 5, rfl, by omega, inU_X8, lw_Uin (i := 74) (by decide +kernel) rfl, rfl⟩
theorem fk_X11_119 : FLk "Lastbus" 119 8 2 := ⟨RX8, TX8, 5, rfl, by omega, inU_X8, lw_Uin (i := 81) (by decide +kernel) rfl, rfl⟩
theorem fk_X11_125 : FLk "Lastbus" 125 8 3 := ⟨RX8, TX8, 5, rfl, by omega, inU_X8, lw_Uin (i := 86) (by decide +kernel) rfl, rfl⟩
theorem fk_X11_131 : FLk "Lastbus" 131 7 0 := ⟨RX7, TX7, 2, rfl, by omega, inU_X7, lw_Uin (i := 108) (by decide +kernel) rfl, rfl⟩
theorem fk_X11_152 : FLk "Lastbus" 152 7 1 := ⟨RX7, TX7, 2, rfl, by omega, inU_X7, lw_Uin (i := 110) (by decide +kernel) rfl, rfl⟩
theorem fk_X11_183 : FLk "Lastbus" 183 9 2 := ⟨RX9, TX9, 6, rfl, by omega, inU_X9, lw_Uin (i := 133) (by decide +kernel) rfl, rfl⟩
theorem fk_X11_186 : FLk "Lastbus" 186 9 5 := ⟨RX9, TX9, 6, rfl, by omega, inU_X9, lw_Uin (i := 144) (by decide +kernel) rfl, rfl⟩
theorem fk_X11_195 : FLk "Lastbus" 195 9 3 := ⟨RX9, TX9, 6, rfl, by omega, inU_X9, lw_Uin (i := 137) (by decide +kernel) rfl, rfl⟩
theorem fk_X11_203 : FLk "Lastbus" 203 9 0 := ⟨RX9, TX9, 6, rfl, by omega, inU_X9, lw_Uin (i := 126) (by decide +kernel) rfl, rfl⟩
theorem fk_X11_286 : FLk "Lastbus" 286 6 2 := ⟨RX6, TX6, 10, rfl, by omega, inU_X6, lw_Uin (i := 309) (by decide +kernel) rfl, rfl⟩
theorem fk_X11_311 : FLk "Lastbus" 311 4 4 := ⟨RX4, TX4, 9, rfl, by omega, inU_X4, lw_Uin (i := 357) (by decide +kernel) rfl, rfl⟩
theorem fk_X11_318 : FLk "Lastbus" 318 4 5 := ⟨RX4, TX4, 9, rfl, by omega, inU_X4, lw_Uin (i := 359) (by decide +kernel) rfl, rfl⟩
theorem fk_X11_321 : FLk "Lastbus" 321 4 6 := ⟨RX4, TX4, 9, rfl, by omega, inU_X4, lw_Uin (i := 361) (by decide +kernel) rfl, rfl⟩
theorem fk_X11_324 : FLk "Lastbus" 324 4 7 := ⟨RX4, TX4, 9, rfl, by omega, inU_X4, lw_Uin (i := 363) (by decide +kernel) rfl, rfl⟩
theorem fk_X11_327 : FLk "Lastbus" 327 4 8 := ⟨RX4, TX4, 9, rfl, by omega, inU_X4, lw_Uin (i := 365) (by decide +kernel) rfl, rfl⟩
theorem fk_X11_341 : FLk "Lastbus" 341 6 7 := ⟨RX6, TX6, 10, rfl, by omega, inU_X6, lw_Uin (i := 315) (by decide +kernel) rfl, rfl⟩
theorem fk_X11_346 : FLk "Lastbus" 346 6 9 := ⟨RX6, TX6, 10, rfl, by omega, inU_X6, lw_Uin (i := 319) (by decide +kernel) rfl, rfl⟩
theorem fk_X11_349 : FLk "Lastbus" 349 6 8 := ⟨RX6, TX6, 10, rfl, by omega, inU_X6, lw_Uin (i := 317) (by decide +kernel) rfl, rfl⟩
theorem fk_X11_363 : FLk "Lastbus" 363 4 3 := ⟨RX4, TX4, 9, rfl, by omega, inU_X4, lw_Uin (i := 355) (by decide +kernel) rfl, rfl⟩
theorem fk_X11_369 : FLk "Lastbus" 369 4 2 := ⟨RX4, TX4, 9, rfl, by omega, inU_X4, lw_Uin (i := 353) (by decide +kernel) rfl, rfl⟩
theorem fk_X0_9 : FLk "Lastbus$Delays" 9 0 1 := ⟨RX0, TX0, 5, rfl, by omega, inU_X0, lw_Uin (i := 165) (by decide +kernel) rfl, rfl⟩
theorem fk_X0_15 : FLk "Lastbus$Delays" 15 0 2 := ⟨RX0, TX0, 5, rfl, by omega, inU_X0, lw_Uin (i := 166) (by decide +kernel) rfl, rfl⟩
theorem fk_X0_18 : FLk "Lastbus$Delays" 18 0 3 := ⟨RX0, TX0, 5, rfl, by omega, inU_X0, lw_Uin (i := 167) (by decide +kernel) rfl, rfl⟩
theorem fk_X0_21 : FLk "Lastbus$Delays" 21 0 4 := ⟨RX0, TX0, 5, rfl, by omega, inU_X0, lw_Uin (i := 168) (by decide +kernel) rfl, rfl⟩
theorem fk_X0_24 : FLk "Lastbus$Delays" 24 0 0 := ⟨RX0, TX0, 5, rfl, by omega, inU_X0, lw_Uin (i := 164) (by decide +kernel) rfl, rfl⟩
theorem fk_X1_9 : FLk "Lastbus$Fleet" 9 1 1 := ⟨RX1, TX1, 11, rfl, by omega, inU_X1, lw_Uin (i := 432) (by decide +kernel) rfl, rfl⟩
theorem fk_X1_15 : FLk "Lastbus$Fleet" 15 1 2 := ⟨RX1, TX1, 11, rfl, by omega, inU_X1, lw_Uin (i := 433) (by decide +kernel) rfl, rfl⟩
theorem fk_X1_18 : FLk "Lastbus$Fleet" 18 1 3 := ⟨RX1, TX1, 11, rfl, by omega, inU_X1, lw_Uin (i := 434) (by decide +kernel) rfl, rfl⟩
theorem fk_X1_21 : FLk "Lastbus$Fleet" 21 1 4 := ⟨RX1, TX1, 11, rfl, by omega, inU_X1, lw_Uin (i := 435) (by decide +kernel) rfl, rfl⟩
theorem fk_X1_24 : FLk "Lastbus$Fleet" 24 1 5 := ⟨RX1, TX1, 11, rfl, by omega, inU_X1, lw_Uin (i := 436) (by decide +kernel) rfl, rfl⟩
theorem fk_X1_27 : FLk "Lastbus$Fleet" 27 1 6 := ⟨RX1, TX1, 11, rfl, by omega, inU_X1, lw_Uin (i := 437) (by decide +kernel) rfl, rfl⟩
theorem fk_X1_30 : FLk "Lastbus$Fleet" 30 1 7 := ⟨RX1, TX1, 11, rfl, by omega, inU_X1, lw_Uin (i := 438) (by decide +kernel) rfl, rfl⟩
theorem fk_X1_33 : FLk "Lastbus$Fleet" 33 1 8 := ⟨RX1, TX1, 11, rfl, by omega, inU_X1, lw_Uin (i := 439) (by decide +kernel) rfl, rfl⟩
theorem fk_X1_36 : FLk "Lastbus$Fleet" 36 1 9 := ⟨RX1, TX1, 11, rfl, by omega, inU_X1, lw_Uin (i := 440) (by decide +kernel) rfl, rfl⟩
theorem fk_X1_39 : FLk "Lastbus$Fleet" 39 1 10 := ⟨RX1, TX1, 11, rfl, by omega, inU_X1, lw_Uin (i := 441) (by decide +kernel) rfl, rfl⟩
theorem fk_X1_42 : FLk "Lastbus$Fleet" 42 1 0 := ⟨RX1, TX1, 11, rfl, by omega, inU_X1, lw_Uin (i := 431) (by decide +kernel) rfl, rfl⟩
theorem fk_X1_46 : FLk "Lastbus$Fleet" 46 9 0 := ⟨RX9, TX9, 6, rfl, by omega, inU_X9, lw_Uin (i := 124) (by decide +kernel) rfl, rfl⟩
theorem fk_X1_49 : FLk "Lastbus$Fleet" 49 9 1 := ⟨RX9, TX9, 6, rfl, by omega, inU_X9, lw_Uin (i := 128) (by decide +kernel) rfl, rfl⟩
theorem fk_X1_58 : FLk "Lastbus$Fleet" 58 9 2 := ⟨RX9, TX9, 6, rfl, by omega, inU_X9, lw_Uin (i := 131) (by decide +kernel) rfl, rfl⟩
theorem fk_X1_61 : FLk "Lastbus$Fleet" 61 9 3 := ⟨RX9, TX9, 6, rfl, by omega, inU_X9, lw_Uin (i := 135) (by decide +kernel) rfl, rfl⟩
theorem fk_X1_65 : FLk "Lastbus$Fleet" 65 9 5 := ⟨RX9, TX9, 6, rfl, by omega, inU_X9, lw_Uin (i := 142) (by decide +kernel) rfl, rfl⟩
theorem fk_X1_67 : FLk "Lastbus$Fleet" 67 9 4 := ⟨RX9, TX9, 6, rfl, by omega, inU_X9, lw_Uin (i := 139) (by decide +kernel) rfl, rfl⟩
theorem fk_X2_9 : FLk "Lastbus$Labels" 9 2 1 := ⟨RX2, TX2, 3, rfl, by omega, inU_X2, lw_Uin (i := 294) (by decide +kernel) rfl, rfl⟩
theorem fk_X2_15 : FLk "Lastbus$Labels" 15 2 2 := ⟨RX2, TX2, 3, rfl, by omega, inU_X2, lw_Uin (i := 296) (by decide +kernel) rfl, rfl⟩
theorem fk_X2_18 : FLk "Lastbus$Labels" 18 2 0 := ⟨RX2, TX2, 3, rfl, by omega, inU_X2, lw_Uin (i := 293) (by decide +kernel) rfl, rfl⟩
theorem fk_X2_22 : FLk "Lastbus$Labels" 22 8 0 := ⟨RX8, TX8, 5, rfl, by omega, inU_X8, lw_Uin (i := 73) (by decide +kernel) rfl, rfl⟩
theorem fk_X2_36 : FLk "Lastbus$Labels" 36 8 1 := ⟨RX8, TX8, 5, rfl, by omega, inU_X8, lw_Uin (i := 77) (by decide +kernel) rfl, rfl⟩
theorem fk_X2_39 : FLk "Lastbus$Labels" 39 8 4 := ⟨RX8, TX8, 5, rfl, by omega, inU_X8, lw_Uin (i := 88) (by decide +kernel) rfl, rfl⟩
theorem fk_X2_42 : FLk "Lastbus$Labels" 42 8 3 := ⟨RX8, TX8, 5, rfl, by omega, inU_X8, lw_Uin (i := 84) (by decide +kernel) rfl, rfl⟩
theorem fk_X3_9 : FLk "Lastbus$Net" 9 3 5 := ⟨RX3, TX3, 15, rfl, by omega, inU_X3, lw_Uin (i := 227) (by decide +kernel) rfl, rfl⟩
theorem fk_X3_15 : FLk "Lastbus$Net" 15 3 6 := ⟨RX3, TX3, 15, rfl, by omega, inU_X3, lw_Uin (i := 229) (by decide +kernel) rfl, rfl⟩
theorem fk_X3_18 : FLk "Lastbus$Net" 18 3 7 := ⟨RX3, TX3, 15, rfl, by omega, inU_X3, lw_Uin (i := 231) (by decide +kernel) rfl, rfl⟩
theorem fk_X3_23 : FLk "Lastbus$Net" 23 3 8 := ⟨RX3, TX3, 15, rfl, by omega, inU_X3, lw_Uin (i := 234) (by decide +kernel) rfl, rfl⟩
theorem fk_X3_26 : FLk "Lastbus$Net" 26 3 9 := ⟨RX3, TX3, 15, rfl, by omega, inU_X3, lw_Uin (i := 237) (by decide +kernel) rfl, rfl⟩
theorem fk_X3_29 : FLk "Lastbus$Net" 29 3 10 := ⟨RX3, TX3, 15, rfl, by omega, inU_X3, lw_Uin (i := 240) (by decide +kernel) rfl, rfl⟩
theorem fk_X3_32 : FLk "Lastbus$Net" 32 3 12 := ⟨RX3, TX3, 15, rfl, by omega, inU_X3, lw_Uin (i := 245) (by decide +kernel) rfl, rfl⟩
theorem fk_X3_35 : FLk "Lastbus$Net" 35 3 13 := ⟨RX3, TX3, 15, rfl, by omega, inU_X3, lw_Uin (i := 247) (by decide +kernel) rfl, rfl⟩
theorem fk_X3_38 : FLk "Lastbus$Net" 38 3 14 := ⟨RX3, TX3, 15, rfl, by omega, inU_X3, lw_Uin (i := 249) (by decide +kernel) rfl, rfl⟩
theorem fk_X3_41 : FLk "Lastbus$Net" 41 3 0 := ⟨RX3, TX3, 15, rfl, by omega, inU_X3, lw_Uin (i := 220) (by decide +kernel) rfl, rfl⟩
theorem fk_X3_45 : FLk "Lastbus$Net" 45 3 1 := ⟨RX3, TX3, 15, rfl, by omega, inU_X3, lw_Uin (i := 221) (by decide +kernel) rfl, rfl⟩
theorem fk_X3_49 : FLk "Lastbus$Net" 49 3 2 := ⟨RX3, TX3, 15, rfl, by omega, inU_X3, lw_Uin (i := 222) (by decide +kernel) rfl, rfl⟩
theorem fk_X3_53 : FLk "Lastbus$Net" 53 3 3 := ⟨RX3, TX3, 15, rfl, by omega, inU_X3, lw_Uin (i := 223) (by decide +kernel) rfl, rfl⟩
theorem fk_X3_63 : FLk "Lastbus$Net" 63 3 4 := ⟨RX3, TX3, 15, rfl, by omega, inU_X3, lw_Uin (i := 224) (by decide +kernel) rfl, rfl⟩
theorem fk_X3_67 : FLk "Lastbus$Net" 67 3 11 := ⟨RX3, TX3, 15, rfl, by omega, inU_X3, lw_Uin (i := 243) (by decide +kernel) rfl, rfl⟩
theorem fk_X3_70 : FLk "Lastbus$Net" 70 9 0 := ⟨RX9, TX9, 6, rfl, by omega, inU_X9, lw_Uin (i := 125) (by decide +kernel) rfl, rfl⟩
theorem fk_X3_75 : FLk "Lastbus$Net" 75 9 1 := ⟨RX9, TX9, 6, rfl, by omega, inU_X9, lw_Uin (i := 129) (by decide +kernel) rfl, rfl⟩
theorem fk_X3_98 : FLk "Lastbus$Net" 98 9 2 := ⟨RX9, TX9, 6, rfl, by omega, inU_X9, lw_Uin (i := 132) (by decide +kernel) rfl, rfl⟩
theorem fk_X3_99 : FLk "Lastbus$Net" 99 9 3 := ⟨RX9, TX9, 6, rfl, by omega, inU_X9, lw_Uin (i := 136) (by decide +kernel) rfl, rfl⟩
theorem fk_X3_100 : FLk "Lastbus$Net" 100 9 4 := ⟨RX9, TX9, 6, rfl, by omega, inU_X9, lw_Uin (i := 140) (by decide +kernel) rfl, rfl⟩
theorem fk_X3_104 : FLk "Lastbus$Net" 104 9 5 := ⟨RX9, TX9, 6, rfl, by omega, inU_X9, lw_Uin (i := 143) (by decide +kernel) rfl, rfl⟩
theorem fk_X4_11 : FLk "Lastbus$Rounds" 11 4 2 := ⟨RX4, TX4, 9, rfl, by omega, inU_X4, lw_Uin (i := 352) (by decide +kernel) rfl, rfl⟩
theorem fk_X4_17 : FLk "Lastbus$Rounds" 17 4 5 := ⟨RX4, TX4, 9, rfl, by omega, inU_X4, lw_Uin (i := 358) (by decide +kernel) rfl, rfl⟩
theorem fk_X4_21 : FLk "Lastbus$Rounds" 21 4 6 := ⟨RX4, TX4, 9, rfl, by omega, inU_X4, lw_Uin (i := 360) (by decide +kernel) rfl, rfl⟩
theorem fk_X4_24 : FLk "Lastbus$Rounds" 24 4 7 := ⟨RX4, TX4, 9, rfl, by omega, inU_X4, lw_Uin (i := 362) (by decide +kernel) rfl, rfl⟩
theorem fk_X4_27 : FLk "Lastbus$Rounds" 27 4 8 := ⟨RX4, TX4, 9, rfl, by omega, inU_X4, lw_Uin (i := 364) (by decide +kernel) rfl, rfl⟩
theorem fk_X4_30 : FLk "Lastbus$Rounds" 30 4 0 := ⟨RX4, TX4, 9, rfl, by omega, inU_X4, lw_Uin (i := 350) (by decide +kernel) rfl, rfl⟩
theorem fk_X4_34 : FLk "Lastbus$Rounds" 34 4 1 := ⟨RX4, TX4, 9, rfl, by omega, inU_X4, lw_Uin (i := 351) (by decide +kernel) rfl, rfl⟩
theorem fk_X4_45 : FLk "Lastbus$Rounds" 45 4 3 := ⟨RX4, TX4, 9, rfl, by omega, inU_X4, lw_Uin (i := 354) (by decide +kernel) rfl, rfl⟩
theorem fk_X4_57 : FLk "Lastbus$Rounds" 57 3 4 := ⟨RX3, TX3, 15, rfl, by omega, inU_X3, lw_Uin (i := 225) (by decide +kernel) rfl, rfl⟩
theorem fk_X4_62 : FLk "Lastbus$Rounds" 62 3 7 := ⟨RX3, TX3, 15, rfl, by omega, inU_X3, lw_Uin (i := 232) (by decide +kernel) rfl, rfl⟩
theorem fk_X4_65 : FLk "Lastbus$Rounds" 65 3 8 := ⟨RX3, TX3, 15, rfl, by omega, inU_X3, lw_Uin (i := 235) (by decide +kernel) rfl, rfl⟩
theorem fk_X4_69 : FLk "Lastbus$Rounds" 69 3 9 := ⟨RX3, TX3, 15, rfl, by omega, inU_X3, lw_Uin (i := 238) (by decide +kernel) rfl, rfl⟩
theorem fk_X4_76 : FLk "Lastbus$Rounds" 76 3 10 := ⟨RX3, TX3, 15, rfl, by omega, inU_X3, lw_Uin (i := 241) (by decide +kernel) rfl, rfl⟩
theorem fk_X4_93 : FLk "Lastbus$Rounds" 93 4 4 := ⟨RX4, TX4, 9, rfl, by omega, inU_X4, lw_Uin (i := 356) (by decide +kernel) rfl, rfl⟩
theorem fk_X4_100 : FLk "Lastbus$Rounds" 100 3 5 := ⟨RX3, TX3, 15, rfl, by omega, inU_X3, lw_Uin (i := 228) (by decide +kernel) rfl, rfl⟩
theorem fk_X4_103 : FLk "Lastbus$Rounds" 103 3 6 := ⟨RX3, TX3, 15, rfl, by omega, inU_X3, lw_Uin (i := 230) (by decide +kernel) rfl, rfl⟩
theorem fk_X4_114 : FLk "Lastbus$Rounds" 114 8 1 := ⟨RX8, TX8, 5, rfl, by omega, inU_X8, lw_Uin (i := 78) (by decide +kernel) rfl, rfl⟩
theorem fk_X4_119 : FLk "Lastbus$Rounds" 119 8 3 := ⟨RX8, TX8, 5, rfl, by omega, inU_X8, lw_Uin (i := 85) (by decide +kernel) rfl, rfl⟩
theorem fk_X6_9 : FLk "Lastbus$Search" 9 6 3 := ⟨RX6, TX6, 10, rfl, by omega, inU_X6, lw_Uin (i := 310) (by decide +kernel) rfl, rfl⟩
theorem fk_X6_15 : FLk "Lastbus$Search" 15 6 4 := ⟨RX6, TX6, 10, rfl, by omega, inU_X6, lw_Uin (i := 311) (by decide +kernel) rfl, rfl⟩
theorem fk_X6_19 : FLk "Lastbus$Search" 19 6 5 := ⟨RX6, TX6, 10, rfl, by omega, inU_X6, lw_Uin (i := 312) (by decide +kernel) rfl, rfl⟩
theorem fk_X6_22 : FLk "Lastbus$Search" 22 6 6 := ⟨RX6, TX6, 10, rfl, by omega, inU_X6, lw_Uin (i := 313) (by decide +kernel) rfl, rfl⟩
theorem fk_X6_25 : FLk "Lastbus$Search" 25 6 8 := ⟨RX6, TX6, 10, rfl, by omega, inU_X6, lw_Uin (i := 316) (by decide +kernel) rfl, rfl⟩
theorem fk_X6_28 : FLk "Lastbus$Search" 28 6 9 := ⟨RX6, TX6, 10, rfl, by omega, inU_X6, lw_Uin (i := 318) (by decide +kernel) rfl, rfl⟩
theorem fk_X6_31 : FLk "Lastbus$Search" 31 6 0 := ⟨RX6, TX6, 10, rfl, by omega, inU_X6, lw_Uin (i := 306) (by decide +kernel) rfl, rfl⟩
theorem fk_X6_35 : FLk "Lastbus$Search" 35 6 1 := ⟨RX6, TX6, 10, rfl, by omega, inU_X6, lw_Uin (i := 307) (by decide +kernel) rfl, rfl⟩
theorem fk_X6_44 : FLk "Lastbus$Search" 44 6 2 := ⟨RX6, TX6, 10, rfl, by omega, inU_X6, lw_Uin (i := 308) (by decide +kernel) rfl, rfl⟩
theorem fk_X6_59 : FLk "Lastbus$Search" 59 3 4 := ⟨RX3, TX3, 15, rfl, by omega, inU_X3, lw_Uin (i := 226) (by decide +kernel) rfl, rfl⟩
theorem fk_X6_71 : FLk "Lastbus$Search" 71 3 7 := ⟨RX3, TX3, 15, rfl, by omega, inU_X3, lw_Uin (i := 233) (by decide +kernel) rfl, rfl⟩
theorem fk_X6_74 : FLk "Lastbus$Search" 74 3 8 := ⟨RX3, TX3, 15, rfl, by omega, inU_X3, lw_Uin (i := 236) (by decide +kernel) rfl, rfl⟩
theorem fk_X6_78 : FLk "Lastbus$Search" 78 3 9 := ⟨RX3, TX3, 15, rfl, by omega, inU_X3, lw_Uin (i := 239) (by decide +kernel) rfl, rfl⟩
theorem fk_X6_88 : FLk "Lastbus$Search" 88 3 11 := ⟨RX3, TX3, 15, rfl, by omega, inU_X3, lw_Uin (i := 244) (by decide +kernel) rfl, rfl⟩
theorem fk_X6_91 : FLk "Lastbus$Search" 91 3 12 := ⟨RX3, TX3, 15, rfl, by omega, inU_X3, lw_Uin (i := 246) (by decide +kernel) rfl, rfl⟩
theorem fk_X6_108 : FLk "Lastbus$Search" 108 8 3 := ⟨RX8, TX8, 5, rfl, by omega, inU_X8, lw_Uin (i := 83) (by decide +kernel) rfl, rfl⟩
theorem fk_X6_122 : FLk "Lastbus$Search" 122 8 0 := ⟨RX8, TX8, 5, rfl, by omega, inU_X8, lw_Uin (i := 75) (by decide +kernel) rfl, rfl⟩
theorem fk_X6_125 : FLk "Lastbus$Search" 125 3 13 := ⟨RX3, TX3, 15, rfl, by omega, inU_X3, lw_Uin (i := 248) (by decide +kernel) rfl, rfl⟩
theorem fk_X6_128 : FLk "Lastbus$Search" 128 3 10 := ⟨RX3, TX3, 15, rfl, by omega, inU_X3, lw_Uin (i := 242) (by decide +kernel) rfl, rfl⟩
theorem fk_X6_134 : FLk "Lastbus$Search" 134 8 1 := ⟨RX8, TX8, 5, rfl, by omega, inU_X8, lw_Uin (i := 79) (by decide +kernel) rfl, rfl⟩
theorem fk_X6_147 : FLk "Lastbus$Search" 147 2 2 := ⟨RX2, TX2, 3, rfl, by omega, inU_X2, lw_Uin (i := 297) (by decide +kernel) rfl, rfl⟩
theorem fk_X6_150 : FLk "Lastbus$Search" 150 2 1 := ⟨RX2, TX2, 3, rfl, by omega, inU_X2, lw_Uin (i := 295) (by decide +kernel) rfl, rfl⟩
theorem fk_X6_154 : FLk "Lastbus$Search" 154 6 7 := ⟨RX6, TX6, 10, rfl, by omega, inU_X6, lw_Uin (i := 314) (by decide +kernel) rfl, rfl⟩
theorem fk_X7_9 : FLk "Lastbus$Services" 9 7 1 := ⟨RX7, TX7, 2, rfl, by omega, inU_X7, lw_Uin (i := 109) (by decide +kernel) rfl, rfl⟩
theorem fk_X7_15 : FLk "Lastbus$Services" 15 7 0 := ⟨RX7, TX7, 2, rfl, by omega, inU_X7, lw_Uin (i := 107) (by decide +kernel) rfl, rfl⟩
theorem fk_X8_9 : FLk "Lastbus$Stops" 9 8 1 := ⟨RX8, TX8, 5, rfl, by omega, inU_X8, lw_Uin (i := 76) (by decide +kernel) rfl, rfl⟩
theorem fk_X8_17 : FLk "Lastbus$Stops" 17 8 2 := ⟨RX8, TX8, 5, rfl, by omega, inU_X8, lw_Uin (i := 80) (by decide +kernel) rfl, rfl⟩
theorem fk_X8_20 : FLk "Lastbus$Stops" 20 8 3 := ⟨RX8, TX8, 5, rfl, by omega, inU_X8, lw_Uin (i := 82) (by decide +kernel) rfl, rfl⟩
theorem fk_X8_23 : FLk "Lastbus$Stops" 23 8 4 := ⟨RX8, TX8, 5, rfl, by omega, inU_X8, lw_Uin (i := 87) (by decide +kernel) rfl, rfl⟩
theorem fk_X8_27 : FLk "Lastbus$Stops" 27 8 0 := ⟨RX8, TX8, 5, rfl, by omega, inU_X8, lw_Uin (i := 72) (by decide +kernel) rfl, rfl⟩
theorem fk_X9_9 : FLk "Lastbus$Trips" 9 9 1 := ⟨RX9, TX9, 6, rfl, by omega, inU_X9, lw_Uin (i := 127) (by decide +kernel) rfl, rfl⟩
theorem fk_X9_15 : FLk "Lastbus$Trips" 15 9 2 := ⟨RX9, TX9, 6, rfl, by omega, inU_X9, lw_Uin (i := 130) (by decide +kernel) rfl, rfl⟩
theorem fk_X9_20 : FLk "Lastbus$Trips" 20 9 3 := ⟨RX9, TX9, 6, rfl, by omega, inU_X9, lw_Uin (i := 134) (by decide +kernel) rfl, rfl⟩
theorem fk_X9_23 : FLk "Lastbus$Trips" 23 9 4 := ⟨RX9, TX9, 6, rfl, by omega, inU_X9, lw_Uin (i := 138) (by decide +kernel) rfl, rfl⟩
theorem fk_X9_26 : FLk "Lastbus$Trips" 26 9 5 := ⟨RX9, TX9, 6, rfl, by omega, inU_X9, lw_Uin (i := 141) (by decide +kernel) rfl, rfl⟩
theorem fk_X9_29 : FLk "Lastbus$Trips" 29 9 0 := ⟨RX9, TX9, 6, rfl, by omega, inU_X9, lw_Uin (i := 123) (by decide +kernel) rfl, rfl⟩
theorem fp_X1_42 : FPk "Lastbus$Fleet" 42 1 0 .int := ⟨RX1, TX1, 11, tyX1, rfl, by omega, inU_X1, lw_Uin (i := 431) (by decide +kernel) rfl, rfl, tyX1_ok, nmX1, rfl, by decide +kernel⟩
theorem fp_X3_63 : FPk "Lastbus$Net" 63 3 4 .int := ⟨RX3, TX3, 15, tyX3, rfl, by omega, inU_X3, lw_Uin (i := 224) (by decide +kernel) rfl, rfl, tyX3_ok, nmX3, rfl, by decide +kernel⟩
theorem fp_X3_67 : FPk "Lastbus$Net" 67 3 11 .int := ⟨RX3, TX3, 15, tyX3, rfl, by omega, inU_X3, lw_Uin (i := 243) (by decide +kernel) rfl, rfl, tyX3_ok, nmX3, rfl, by decide +kernel⟩
theorem fp_X4_45 : FPk "Lastbus$Rounds" 45 4 3 .int := ⟨RX4, TX4, 9, tyX4, rfl, by omega, inU_X4, lw_Uin (i := 354) (by decide +kernel) rfl, rfl, tyX4_ok, nmX4, rfl, by decide +kernel⟩
theorem fp_X4_93 : FPk "Lastbus$Rounds" 93 4 4 .int := ⟨RX4, TX4, 9, tyX4, rfl, by omega, inU_X4, lw_Uin (i := 356) (by decide +kernel) rfl, rfl, tyX4_ok, nmX4, rfl, by decide +kernel⟩
theorem fp_X6_154 : FPk "Lastbus$Search" 154 6 7 .int := ⟨RX6, TX6, 10, tyX6, rfl, by omega, inU_X6, lw_Uin (i := 314) (by decide +kernel) rfl, rfl, tyX6_ok, nmX6, rfl, by decide +kernel⟩
theorem fp_X7_15 : FPk "Lastbus$Services" 15 7 0 .int := ⟨RX7, TX7, 2, tyX7, rfl, by omega, inU_X7, lw_Uin (i := 107) (by decide +kernel) rfl, rfl, tyX7_ok, nmX7, rfl, by decide +kernel⟩
theorem fp_X8_23 : FPk "Lastbus$Stops" 23 8 4 .int := ⟨RX8, TX8, 5, tyX8, rfl, by omega, inU_X8, lw_Uin (i := 87) (by decide +kernel) rfl, rfl, tyX8_ok, nmX8, rfl, by decide +kernel⟩
theorem fp_X8_27 : FPk "Lastbus$Stops" 27 8 0 .int := ⟨RX8, TX8, 5, tyX8, rfl, by omega, inU_X8, lw_Uin (i := 72) (by decide +kernel) rfl, rfl, tyX8_ok, nmX8, rfl, by decide +kernel⟩
theorem fp_X9_29 : FPk "Lastbus$Trips" 29 9 0 .int := ⟨RX9, TX9, 6, tyX9, rfl, by omega, inU_X9, lw_Uin (i := 123) (by decide +kernel) rfl, rfl, tyX9_ok, nmX9, rfl, by decide +kernel⟩
set_option maxRecDepth 100000 in
theorem cd_X11_needNumber : Cond.code yX11_needNumber cX11_needNumber 3 none ∈ lw_U := lw_Uin (i := 513) (rfl) rfl
theorem cw_X11_88 : CSk "Lastbus" 88 yX11_needNumber cX11_needNumber 3 none 3 := ⟨lw_Uin (i := 511) (by decide +kernel) rfl, lw_Uin (i := 512) (by decide +kernel) rfl, lw_Uin (i := 32) (by decide +kernel) rfl, cd_X11_needNumber, ⟨by decide +kernel, by decide +kernel, by decide +kernel⟩⟩
set_option maxRecDepth 100000 in
theorem cd_X8_add : Cond.code yX8_add cX8_add 2 (some .int) ∈ lw_U := lw_Uin (i := 923) (rfl) rfl
theorem cw_X11_103 : CVk "Lastbus" 103 yX8_add cX8_add 2 (some .int) 1 := ⟨lw_Uin (i := 920) (by decide +kernel) rfl, lw_Uin (i := 921) (by decide +kernel) rfl, lw_Uin (i := 922) (by decide +kernel) rfl, lw_Uin (i := 33) (by decide +kernel) rfl, cd_X8_add, ⟨by decide +kernel, by decide +kernel, by decide +kernel⟩⟩
set_option maxRecDepth 100000 in
theorem cd_X11_needStop : Cond.code yX11_needStop cX11_needStop 2 none ∈ lw_U := lw_Uin (i := 935) (rfl) rfl
theorem cw_X11_107 : CVk "Lastbus" 107 yX11_needStop cX11_needStop 2 none 1 := ⟨lw_Uin (i := 932) (by decide +kernel) rfl, lw_Uin (i := 934) (by decide +kernel) rfl, lw_Uin (i := 22) (by decide +kernel) rfl, lw_Uin (i := 32) (by decide +kernel) rfl, cd_X11_needStop, ⟨by decide +kernel, by decide +kernel, by decide +kernel⟩⟩
set_option maxRecDepth 100000 in
theorem cd_X11_needUnlike : Cond.code yX11_needUnlike cX11_needUnlike 2 none ∈ lw_U := lw_Uin (i := 943) (rfl) rfl
theorem cw_X11_115 : CSk "Lastbus" 115 yX11_needUnlike cX11_needUnlike 2 none 2 := ⟨lw_Uin (i := 941) (by decide +kernel) rfl, lw_Uin (i := 942) (by decide +kernel) rfl, lw_Uin (i := 32) (by decide +kernel) rfl, cd_X11_needUnlike, ⟨by decide +kernel, by decide +kernel, by decide +kernel⟩⟩
set_option maxRecDepth 100000 in
theorem cd_X11_needFound : Cond.code yX11_needFound cX11_needFound 1 none ∈ lw_U := lw_Uin (i := 1014) (rfl) rfl
theorem cw_X11_128 : CSk "Lastbus" 128 yX11_needFound cX11_needFound 1 none 1 := ⟨lw_Uin (i := 1012) (by decide +kernel) rfl, lw_Uin (i := 1013) (by decide +kernel) rfl, lw_Uin (i := 32) (by decide +kernel) rfl, cd_X11_needFound, ⟨by decide +kernel, by decide +kernel, by decide +kernel⟩⟩
set_option maxRecDepth 100000 in
theorem cd_X7_add : Cond.code yX7_add cX7_add 1 (some .int) ∈ lw_U := lw_Uin (i := 839) (rfl) rfl
theorem cw_X11_134 : CVk "Lastbus" 134 yX7_add cX7_add 1 (some .int) 0 := ⟨lw_Uin (i := 836) (by decide +kernel) rfl, lw_Uin (i := 837) (by decide +kernel) rfl, lw_Uin (i := 838) (by decide +kernel) rfl, lw_Uin (i := 34) (by decide +kernel) rfl, cd_X7_add, ⟨by decide +kernel, by decide +kernel, by decide +kernel⟩⟩
set_option maxRecDepth 100000 in
theorem cd_X11_needService : Cond.code yX11_needService cX11_needService 2 none ∈ lw_U := lw_Uin (i := 874) (rfl) rfl
theorem cw_X11_137 : CVk "Lastbus" 137 yX11_needService cX11_needService 2 none 1 := ⟨lw_Uin (i := 871) (by decide +kernel) rfl, lw_Uin (i := 873) (by decide +kernel) rfl, lw_Uin (i := 21) (by decide +kernel) rfl, lw_Uin (i := 32) (by decide +kernel) rfl, cd_X11_needService, ⟨by decide +kernel, by decide +kernel, by decide +kernel⟩⟩
set_option maxRecDepth 100000 in
theorem cd_X11_needDay : Cond.code yX11_needDay cX11_needDay 1 none ∈ lw_U := lw_Uin (i := 510) (rfl) rfl
theorem cw_X11_140 : CSk "Lastbus" 140 yX11_needDay cX11_needDay 1 none 1 := ⟨lw_Uin (i := 508) (by decide +kernel) rfl, lw_Uin (i := 509) (by decide +kernel) rfl, lw_Uin (i := 32) (by decide +kernel) rfl, cd_X11_needDay, ⟨by decide +kernel, by decide +kernel, by decide +kernel⟩⟩
set_option maxRecDepth 100000 in
theorem cd_X7_put : Cond.code yX7_put cX7_put 5 none ∈ lw_U := lw_Uin (i := 896) (rfl) rfl
theorem cw_X11_148 : CVk "Lastbus" 148 yX7_put cX7_put 5 none 3 := ⟨lw_Uin (i := 893) (by decide +kernel) rfl, lw_Uin (i := 894) (by decide +kernel) rfl, lw_Uin (i := 895) (by decide +kernel) rfl, lw_Uin (i := 34) (by decide +kernel) rfl, cd_X7_put, ⟨by decide +kernel, by decide +kernel, by decide +kernel⟩⟩
set_option maxRecDepth 100000 in
theorem cd_X7_isOn : Cond.code yX7_isOn cX7_isOn 3 (some .boolean) ∈ lw_U := lw_Uin (i := 591) (rfl) rfl
theorem cw_X11_160 : CVk "Lastbus" 160 yX7_isOn cX7_isOn 3 (some .boolean) 2 := ⟨lw_Uin (i := 911) (by decide +kernel) rfl, lw_Uin (i := 589) (by decide +kernel) rfl, lw_Uin (i := 590) (by decide +kernel) rfl, lw_Uin (i := 34) (by decide +kernel) rfl, cd_X7_isOn, ⟨by decide +kernel, by decide +kernel, by decide +kernel⟩⟩
set_option maxRecDepth 100000 in
theorem cd_X11_needRoomForTrip : Cond.code yX11_needRoomForTrip cX11_needRoomForTrip 1 none ∈ lw_U := lw_Uin (i := 955) (rfl) rfl
theorem cw_X11_173 : CVk "Lastbus" 173 yX11_needRoomForTrip cX11_needRoomForTrip 1 none 0 := ⟨lw_Uin (i := 952) (by decide +kernel) rfl, lw_Uin (i := 954) (by decide +kernel) rfl, lw_Uin (i := 23) (by decide +kernel) rfl, lw_Uin (i := 32) (by decide +kernel) rfl, cd_X11_needRoomForTrip, ⟨by decide +kernel, by decide +kernel, by decide +kernel⟩⟩
set_option maxRecDepth 100000 in
theorem cd_X9_begin : Cond.code yX9_begin cX9_begin 4 (some .int) ∈ lw_U := lw_Uin (i := 960) (rfl) rfl
theorem cw_X11_176 : CVk "Lastbus" 176 yX9_begin cX9_begin 4 (some .int) 3 := ⟨lw_Uin (i := 957) (by decide +kernel) rfl, lw_Uin (i := 958) (by decide +kernel) rfl, lw_Uin (i := 959) (by decide +kernel) rfl, lw_Uin (i := 35) (by decide +kernel) rfl, cd_X9_begin, ⟨by decide +kernel, by decide +kernel, by decide +kernel⟩⟩
set_option maxRecDepth 100000 in
theorem cd_X11_needTrip : Cond.code yX11_needTrip cX11_needTrip 2 none ∈ lw_U := lw_Uin (i := 976) (rfl) rfl
theorem cw_X11_180 : CVk "Lastbus" 180 yX11_needTrip cX11_needTrip 2 none 1 := ⟨lw_Uin (i := 973) (by decide +kernel) rfl, lw_Uin (i := 975) (by decide +kernel) rfl, lw_Uin (i := 24) (by decide +kernel) rfl, lw_Uin (i := 32) (by decide +kernel) rfl, cd_X11_needTrip, ⟨by decide +kernel, by decide +kernel, by decide +kernel⟩⟩
set_option maxRecDepth 100000 in
theorem cd_X11_goesOn : Cond.code yX11_goesOn cX11_goesOn 3 (some .boolean) ∈ lw_U := lw_Uin (i := 984) (rfl) rfl
theorem cw_X11_189 : CSk "Lastbus" 189 yX11_goesOn cX11_goesOn 3 (some .boolean) 3 := ⟨lw_Uin (i := 982) (by decide +kernel) rfl, lw_Uin (i := 983) (by decide +kernel) rfl, lw_Uin (i := 32) (by decide +kernel) rfl, cd_X11_goesOn, ⟨by decide +kernel, by decide +kernel, by decide +kernel⟩⟩
set_option maxRecDepth 100000 in
theorem cd_X9_add : Cond.code yX9_add cX9_add 6 none ∈ lw_U := lw_Uin (i := 964) (rfl) rfl
theorem cw_X11_200 : CVk "Lastbus" 200 yX9_add cX9_add 6 none 4 := ⟨lw_Uin (i := 987) (by decide +kernel) rfl, lw_Uin (i := 962) (by decide +kernel) rfl, lw_Uin (i := 963) (by decide +kernel) rfl, lw_Uin (i := 35) (by decide +kernel) rfl, cd_X9_add, ⟨by decide +kernel, by decide +kernel, by decide +kernel⟩⟩
set_option maxRecDepth 100000 in
theorem cd_X11_needWay : Cond.code yX11_needWay cX11_needWay 5 none ∈ lw_U := lw_Uin (i := 1011) (rfl) rfl
theorem cw_X11_277 : CVk "Lastbus" 277 yX11_needWay cX11_needWay 5 none 4 := ⟨lw_Uin (i := 1008) (by decide +kernel) rfl, lw_Uin (i := 1010) (by decide +kernel) rfl, lw_Uin (i := 25) (by decide +kernel) rfl, lw_Uin (i := 32) (by decide +kernel) rfl, cd_X11_needWay, ⟨by decide +kernel, by decide +kernel, by decide +kernel⟩⟩
set_option maxRecDepth 100000 in
theorem cd_X3_lay : Cond.code yX3_lay cX3_lay 7 none ∈ lw_U := lw_Uin (i := 646) (rfl) rfl
theorem cw_X11_280 : CVk "Lastbus" 280 yX3_lay cX3_lay 7 none 3 := ⟨lw_Uin (i := 643) (by decide +kernel) rfl, lw_Uin (i := 644) (by decide +kernel) rfl, lw_Uin (i := 645) (by decide +kernel) rfl, lw_Uin (i := 38) (by decide +kernel) rfl, cd_X3_lay, ⟨by decide +kernel, by decide +kernel, by decide +kernel⟩⟩
set_option maxRecDepth 100000 in
theorem cd_X6_scan : Cond.code yX6_scan cX6_scan 3 none ∈ lw_U := lw_Uin (i := 681) (rfl) rfl
theorem cw_X11_283 : CVk "Lastbus" 283 yX6_scan cX6_scan 3 none 2 := ⟨lw_Uin (i := 678) (by decide +kernel) rfl, lw_Uin (i := 679) (by decide +kernel) rfl, lw_Uin (i := 680) (by decide +kernel) rfl, lw_Uin (i := 39) (by decide +kernel) rfl, cd_X6_scan, ⟨by decide +kernel, by decide +kernel, by decide +kernel⟩⟩
set_option maxRecDepth 100000 in
theorem cd_X2_at : Cond.code yX2_at cX2_at 2 (some .int) ∈ lw_U := lw_Uin (i := 720) (rfl) rfl
theorem cw_X11_290 : CVk "Lastbus" 290 yX2_at cX2_at 2 (some .int) 1 := ⟨lw_Uin (i := 717) (by decide +kernel) rfl, lw_Uin (i := 718) (by decide +kernel) rfl, lw_Uin (i := 719) (by decide +kernel) rfl, lw_Uin (i := 40) (by decide +kernel) rfl, cd_X2_at, ⟨by decide +kernel, by decide +kernel, by decide +kernel⟩⟩
set_option maxRecDepth 100000 in
theorem cd_X6_goOnFromNearest : Cond.code yX6_goOnFromNearest cX6_goOnFromNearest 7 none ∈ lw_U := lw_Uin (i := 725) (rfl) rfl
theorem cw_X11_294 : CVk "Lastbus" 294 yX6_goOnFromNearest cX6_goOnFromNearest 7 none 2 := ⟨lw_Uin (i := 722) (by decide +kernel) rfl, lw_Uin (i := 723) (by decide +kernel) rfl, lw_Uin (i := 724) (by decide +kernel) rfl, lw_Uin (i := 39) (by decide +kernel) rfl, cd_X6_goOnFromNearest, ⟨by decide +kernel, by decide +kernel, by decide +kernel⟩⟩
set_option maxRecDepth 100000 in
theorem cd_X4_fill : Cond.code yX4_fill cX4_fill 4 none ∈ lw_U := lw_Uin (i := 742) (rfl) rfl
theorem cw_X11_297 : CVk "Lastbus" 297 yX4_fill cX4_fill 4 none 2 := ⟨lw_Uin (i := 739) (by decide +kernel) rfl, lw_Uin (i := 740) (by decide +kernel) rfl, lw_Uin (i := 741) (by decide +kernel) rfl, lw_Uin (i := 41) (by decide +kernel) rfl, cd_X4_fill, ⟨by decide +kernel, by decide +kernel, by decide +kernel⟩⟩
set_option maxRecDepth 100000 in
theorem cd_X4_least : Cond.code yX4_least cX4_least 2 (some .int) ∈ lw_U := lw_Uin (i := 757) (rfl) rfl
theorem cw_X11_300 : CVk "Lastbus" 300 yX4_least cX4_least 2 (some .int) 1 := ⟨lw_Uin (i := 754) (by decide +kernel) rfl, lw_Uin (i := 755) (by decide +kernel) rfl, lw_Uin (i := 756) (by decide +kernel) rfl, lw_Uin (i := 41) (by decide +kernel) rfl, cd_X4_least, ⟨by decide +kernel, by decide +kernel, by decide +kernel⟩⟩
set_option maxRecDepth 100000 in
theorem cd_X6_lastLeave : Cond.code yX6_lastLeave cX6_lastLeave 6 (some .int) ∈ lw_U := lw_Uin (i := 767) (rfl) rfl
theorem cw_X11_303 : CVk "Lastbus" 303 yX6_lastLeave cX6_lastLeave 6 (some .int) 3 := ⟨lw_Uin (i := 764) (by decide +kernel) rfl, lw_Uin (i := 765) (by decide +kernel) rfl, lw_Uin (i := 766) (by decide +kernel) rfl, lw_Uin (i := 39) (by decide +kernel) rfl, cd_X6_lastLeave, ⟨by decide +kernel, by decide +kernel, by decide +kernel⟩⟩
set_option maxRecDepth 100000 in
theorem cd_X4_keepChain : Cond.code yX4_keepChain cX4_keepChain 7 none ∈ lw_U := lw_Uin (i := 1074) (rfl) rfl
theorem cw_X11_308 : CVk "Lastbus" 308 yX4_keepChain cX4_keepChain 7 none 1 := ⟨lw_Uin (i := 1071) (by decide +kernel) rfl, lw_Uin (i := 1072) (by decide +kernel) rfl, lw_Uin (i := 1073) (by decide +kernel) rfl, lw_Uin (i := 41) (by decide +kernel) rfl, cd_X4_keepChain, ⟨by decide +kernel, by decide +kernel, by decide +kernel⟩⟩
set_option maxRecDepth 100000 in
theorem cd_X11_findPairs : Cond.code yX11_findPairs cX11_findPairs 4 none ∈ lw_U := lw_Uin (i := 1140) (rfl) rfl
theorem cw_X11_338 : CVk "Lastbus" 338 yX11_findPairs cX11_findPairs 4 none 3 := ⟨lw_Uin (i := 1137) (by decide +kernel) rfl, lw_Uin (i := 1139) (by decide +kernel) rfl, lw_Uin (i := 30) (by decide +kernel) rfl, lw_Uin (i := 32) (by decide +kernel) rfl, cd_X11_findPairs, ⟨by decide +kernel, by decide +kernel, by decide +kernel⟩⟩
set_option maxRecDepth 100000 in
theorem cd_X6_collectPairs : Cond.code yX6_collectPairs cX6_collectPairs 6 none ∈ lw_U := lw_Uin (i := 790) (rfl) rfl
theorem cw_X11_352 : CVk "Lastbus" 352 yX6_collectPairs cX6_collectPairs 6 none 2 := ⟨lw_Uin (i := 787) (by decide +kernel) rfl, lw_Uin (i := 788) (by decide +kernel) rfl, lw_Uin (i := 789) (by decide +kernel) rfl, lw_Uin (i := 39) (by decide +kernel) rfl, cd_X6_collectPairs, ⟨by decide +kernel, by decide +kernel, by decide +kernel⟩⟩
set_option maxRecDepth 100000 in
theorem cd_X6_pairArrivalFrom : Cond.code yX6_pairArrivalFrom cX6_pairArrivalFrom 6 (some .int) ∈ lw_U := lw_Uin (i := 799) (rfl) rfl
theorem cw_X11_355 : CVk "Lastbus" 355 yX6_pairArrivalFrom cX6_pairArrivalFrom 6 (some .int) 1 := ⟨lw_Uin (i := 796) (by decide +kernel) rfl, lw_Uin (i := 797) (by decide +kernel) rfl, lw_Uin (i := 798) (by decide +kernel) rfl, lw_Uin (i := 39) (by decide +kernel) rfl, cd_X6_pairArrivalFrom, ⟨by decide +kernel, by decide +kernel, by decide +kernel⟩⟩
set_option maxRecDepth 100000 in
theorem cd_X4_isChoice : Cond.code yX4_isChoice cX4_isChoice 4 (some .boolean) ∈ lw_U := lw_Uin (i := 1062) (rfl) rfl
theorem cw_X11_366 : CVk "Lastbus" 366 yX4_isChoice cX4_isChoice 4 (some .boolean) 2 := ⟨lw_Uin (i := 1059) (by decide +kernel) rfl, lw_Uin (i := 1060) (by decide +kernel) rfl, lw_Uin (i := 1061) (by decide +kernel) rfl, lw_Uin (i := 41) (by decide +kernel) rfl, cd_X4_isChoice, ⟨by decide +kernel, by decide +kernel, by decide +kernel⟩⟩
set_option maxRecDepth 100000 in
theorem cd_X1_gather : Cond.code yX1_gather cX1_gather 6 none ∈ lw_U := lw_Uin (i := 587) (rfl) rfl
theorem cw_X11_398 : CVk "Lastbus" 398 yX1_gather cX1_gather 6 none 3 := ⟨lw_Uin (i := 584) (by decide +kernel) rfl, lw_Uin (i := 585) (by decide +kernel) rfl, lw_Uin (i := 586) (by decide +kernel) rfl, lw_Uin (i := 43) (by decide +kernel) rfl, cd_X1_gather, ⟨by decide +kernel, by decide +kernel, by decide +kernel⟩⟩
set_option maxRecDepth 100000 in
theorem cd_X1_countByTimes : Cond.code yX1_countByTimes cX1_countByTimes 4 (some .int) ∈ lw_U := lw_Uin (i := 595) (rfl) rfl
theorem cw_X11_402 : CVk "Lastbus" 402 yX1_countByTimes cX1_countByTimes 4 (some .int) 1 := ⟨lw_Uin (i := 592) (by decide +kernel) rfl, lw_Uin (i := 593) (by decide +kernel) rfl, lw_Uin (i := 594) (by decide +kernel) rfl, lw_Uin (i := 43) (by decide +kernel) rfl, cd_X1_countByTimes, ⟨by decide +kernel, by decide +kernel, by decide +kernel⟩⟩
set_option maxRecDepth 100000 in
theorem cd_X1_countByMatching : Cond.code yX1_countByMatching cX1_countByMatching 4 (some .int) ∈ lw_U := lw_Uin (i := 623) (rfl) rfl
theorem cw_X11_405 : CVk "Lastbus" 405 yX1_countByMatching cX1_countByMatching 4 (some .int) 0 := ⟨lw_Uin (i := 620) (by decide +kernel) rfl, lw_Uin (i := 621) (by decide +kernel) rfl, lw_Uin (i := 622) (by decide +kernel) rfl, lw_Uin (i := 43) (by decide +kernel) rfl, cd_X1_countByMatching, ⟨by decide +kernel, by decide +kernel, by decide +kernel⟩⟩
set_option maxRecDepth 100000 in
theorem cd_X11_waysAreSound : Cond.code yX11_waysAreSound cX11_waysAreSound 3 (some .boolean) ∈ lw_U := lw_Uin (i := 677) (rfl) rfl
theorem cw_X11_435 : CVk "Lastbus" 435 yX11_waysAreSound cX11_waysAreSound 3 (some .boolean) 0 := ⟨lw_Uin (i := 674) (by decide +kernel) rfl, lw_Uin (i := 676) (by decide +kernel) rfl, lw_Uin (i := 8) (by decide +kernel) rfl, lw_Uin (i := 32) (by decide +kernel) rfl, cd_X11_waysAreSound, ⟨by decide +kernel, by decide +kernel, by decide +kernel⟩⟩
set_option maxRecDepth 100000 in
theorem cd_X11_pairsAreSound : Cond.code yX11_pairsAreSound cX11_pairsAreSound 4 (some .boolean) ∈ lw_U := lw_Uin (i := 786) (rfl) rfl
theorem cw_X11_438 : CVk "Lastbus" 438 yX11_pairsAreSound cX11_pairsAreSound 4 (some .boolean) 1 := ⟨lw_Uin (i := 783) (by decide +kernel) rfl, lw_Uin (i := 785) (by decide +kernel) rfl, lw_Uin (i := 20) (by decide +kernel) rfl, lw_Uin (i := 32) (by decide +kernel) rfl, cd_X11_pairsAreSound, ⟨by decide +kernel, by decide +kernel, by decide +kernel⟩⟩
set_option maxRecDepth 100000 in
theorem cd_X8_has : Cond.code yX8_has cX8_has 2 (some .boolean) ∈ lw_U := lw_Uin (i := 939) (rfl) rfl
theorem cw_X11_448 : CVk "Lastbus" 448 yX8_has cX8_has 2 (some .boolean) 1 := ⟨lw_Uin (i := 936) (by decide +kernel) rfl, lw_Uin (i := 937) (by decide +kernel) rfl, lw_Uin (i := 938) (by decide +kernel) rfl, lw_Uin (i := 33) (by decide +kernel) rfl, cd_X8_has, ⟨by decide +kernel, by decide +kernel, by decide +kernel⟩⟩
set_option maxRecDepth 100000 in
theorem cd_X7_has : Cond.code yX7_has cX7_has 2 (some .boolean) ∈ lw_U := lw_Uin (i := 878) (rfl) rfl
theorem cw_X11_456 : CVk "Lastbus" 456 yX7_has cX7_has 2 (some .boolean) 1 := ⟨lw_Uin (i := 875) (by decide +kernel) rfl, lw_Uin (i := 876) (by decide +kernel) rfl, lw_Uin (i := 877) (by decide +kernel) rfl, lw_Uin (i := 34) (by decide +kernel) rfl, cd_X7_has, ⟨by decide +kernel, by decide +kernel, by decide +kernel⟩⟩
set_option maxRecDepth 100000 in
theorem cd_X9_has : Cond.code yX9_has cX9_has 2 (some .boolean) ∈ lw_U := lw_Uin (i := 980) (rfl) rfl
theorem cw_X11_459 : CVk "Lastbus" 459 yX9_has cX9_has 2 (some .boolean) 1 := ⟨lw_Uin (i := 977) (by decide +kernel) rfl, lw_Uin (i := 978) (by decide +kernel) rfl, lw_Uin (i := 979) (by decide +kernel) rfl, lw_Uin (i := 35) (by decide +kernel) rfl, cd_X9_has, ⟨by decide +kernel, by decide +kernel, by decide +kernel⟩⟩
set_option maxRecDepth 100000 in
theorem cd_X11_lastIsSound : Cond.code yX11_lastIsSound cX11_lastIsSound 5 (some .boolean) ∈ lw_U := lw_Uin (i := 763) (rfl) rfl
theorem cw_X11_483 : CVk "Lastbus" 483 yX11_lastIsSound cX11_lastIsSound 5 (some .boolean) 2 := ⟨lw_Uin (i := 760) (by decide +kernel) rfl, lw_Uin (i := 762) (by decide +kernel) rfl, lw_Uin (i := 16) (by decide +kernel) rfl, lw_Uin (i := 32) (by decide +kernel) rfl, cd_X11_lastIsSound, ⟨by decide +kernel, by decide +kernel, by decide +kernel⟩⟩
set_option maxRecDepth 100000 in
theorem cd_X11_merge : Cond.code yX11_merge cX11_merge 8 none ∈ lw_U := lw_Uin (i := 608) (rfl) rfl
theorem cw_X11_486 : CSk "Lastbus" 486 yX11_merge cX11_merge 8 none 5 := ⟨lw_Uin (i := 606) (by decide +kernel) rfl, lw_Uin (i := 607) (by decide +kernel) rfl, lw_Uin (i := 32) (by decide +kernel) rfl, cd_X11_merge, ⟨by decide +kernel, by decide +kernel, by decide +kernel⟩⟩
theorem cw_X1_52 : CVk "Lastbus$Fleet" 52 yX7_isOn cX7_isOn 3 (some .boolean) 2 := ⟨lw_Uin (i := 588) (by decide +kernel) rfl, lw_Uin (i := 589) (by decide +kernel) rfl, lw_Uin (i := 590) (by decide +kernel) rfl, lw_Uin (i := 34) (by decide +kernel) rfl, cd_X7_isOn, ⟨by decide +kernel, by decide +kernel, by decide +kernel⟩⟩
set_option maxRecDepth 100000 in
theorem cd_X1_countAt : Cond.code yX1_countAt cX1_countAt 6 (some .int) ∈ lw_U := lw_Uin (i := 599) (rfl) rfl
theorem cw_X1_70 : CVk "Lastbus$Fleet" 70 yX1_countAt cX1_countAt 6 (some .int) 1 := ⟨lw_Uin (i := 596) (by decide +kernel) rfl, lw_Uin (i := 598) (by decide +kernel) rfl, lw_Uin (i := 1) (by decide +kernel) rfl, lw_Uin (i := 43) (by decide +kernel) rfl, cd_X1_countAt, ⟨by decide +kernel, by decide +kernel, by decide +kernel⟩⟩
set_option maxRecDepth 100000 in
theorem cd_X11_sortUp : Cond.code yX11_sortUp cX11_sortUp 6 none ∈ lw_U := lw_Uin (i := 602) (rfl) rfl
theorem cw_X1_74 : CNk "Lastbus$Fleet" 74 yX11_sortUp "Lastbus" cX11_sortUp 6 none 3 := ⟨List.mem_of_getElem? (i := 600) (by decide +kernel), lw_Uin (i := 601) (by decide +kernel) rfl, lw_Uin (i := 32) (by decide +kernel) rfl, cd_X11_sortUp, ⟨by decide +kernel, by decide +kernel, by decide +kernel⟩⟩
set_option maxRecDepth 100000 in
theorem cd_X1_findFree : Cond.code yX1_findFree cX1_findFree 5 (some .int) ∈ lw_U := lw_Uin (i := 627) (rfl) rfl
theorem cw_X1_78 : CVk "Lastbus$Fleet" 78 yX1_findFree cX1_findFree 5 (some .int) 1 := ⟨lw_Uin (i := 624) (by decide +kernel) rfl, lw_Uin (i := 626) (by decide +kernel) rfl, lw_Uin (i := 2) (by decide +kernel) rfl, lw_Uin (i := 43) (by decide +kernel) rfl, cd_X1_findFree, ⟨by decide +kernel, by decide +kernel, by decide +kernel⟩⟩
set_option maxRecDepth 100000 in
theorem cd_X1_matchBack : Cond.code yX1_matchBack cX1_matchBack 6 none ∈ lw_U := lw_Uin (i := 635) (rfl) rfl
theorem cw_X1_81 : CVk "Lastbus$Fleet" 81 yX1_matchBack cX1_matchBack 6 none 1 := ⟨lw_Uin (i := 632) (by decide +kernel) rfl, lw_Uin (i := 634) (by decide +kernel) rfl, lw_Uin (i := 4) (by decide +kernel) rfl, lw_Uin (i := 43) (by decide +kernel) rfl, cd_X1_matchBack, ⟨by decide +kernel, by decide +kernel, by decide +kernel⟩⟩
set_option maxRecDepth 100000 in
theorem cd_X1_canFollow : Cond.code yX1_canFollow cX1_canFollow 3 (some .boolean) ∈ lw_U := lw_Uin (i := 631) (rfl) rfl
theorem cw_X1_85 : CVk "Lastbus$Fleet" 85 yX1_canFollow cX1_canFollow 3 (some .boolean) 2 := ⟨lw_Uin (i := 628) (by decide +kernel) rfl, lw_Uin (i := 630) (by decide +kernel) rfl, lw_Uin (i := 3) (by decide +kernel) rfl, lw_Uin (i := 43) (by decide +kernel) rfl, cd_X1_canFollow, ⟨by decide +kernel, by decide +kernel, by decide +kernel⟩⟩
set_option maxRecDepth 100000 in
theorem cd_X2_clear : Cond.code yX2_clear cX2_clear 2 none ∈ lw_U := lw_Uin (i := 689) (rfl) rfl
theorem cw_X2_29 : CVk "Lastbus$Labels" 29 yX2_clear cX2_clear 2 none 0 := ⟨lw_Uin (i := 686) (by decide +kernel) rfl, lw_Uin (i := 687) (by decide +kernel) rfl, lw_Uin (i := 688) (by decide +kernel) rfl, lw_Uin (i := 40) (by decide +kernel) rfl, cd_X2_clear, ⟨by decide +kernel, by decide +kernel, by decide +kernel⟩⟩
set_option maxRecDepth 100000 in
theorem cd_X2_walkOn : Cond.code yX2_walkOn cX2_walkOn 5 none ∈ lw_U := lw_Uin (i := 694) (rfl) rfl
theorem cw_X2_32 : CVk "Lastbus$Labels" 32 yX2_walkOn cX2_walkOn 5 none 2 := ⟨lw_Uin (i := 691) (by decide +kernel) rfl, lw_Uin (i := 693) (by decide +kernel) rfl, lw_Uin (i := 9) (by decide +kernel) rfl, lw_Uin (i := 40) (by decide +kernel) rfl, cd_X2_walkOn, ⟨by decide +kernel, by decide +kernel, by decide +kernel⟩⟩
set_option maxRecDepth 100000 in
theorem cd_X8_link : Cond.code yX8_link cX8_link 5 none ∈ lw_U := lw_Uin (i := 650) (rfl) rfl
theorem cw_X3_57 : CVk "Lastbus$Net" 57 yX8_link cX8_link 5 none 1 := ⟨lw_Uin (i := 647) (by decide +kernel) rfl, lw_Uin (i := 648) (by decide +kernel) rfl, lw_Uin (i := 649) (by decide +kernel) rfl, lw_Uin (i := 33) (by decide +kernel) rfl, cd_X8_link, ⟨by decide +kernel, by decide +kernel, by decide +kernel⟩⟩
theorem cw_X3_78 : CVk "Lastbus$Net" 78 yX7_isOn cX7_isOn 3 (some .boolean) 2 := ⟨lw_Uin (i := 656) (by decide +kernel) rfl, lw_Uin (i := 589) (by decide +kernel) rfl, lw_Uin (i := 590) (by decide +kernel) rfl, lw_Uin (i := 34) (by decide +kernel) rfl, cd_X7_isOn, ⟨by decide +kernel, by decide +kernel, by decide +kernel⟩⟩
set_option maxRecDepth 100000 in
theorem cd_X0_find : Cond.code yX0_find cX0_find 4 (some .int) ∈ lw_U := lw_Uin (i := 660) (rfl) rfl
theorem cw_X3_84 : CVk "Lastbus$Net" 84 yX0_find cX0_find 4 (some .int) 2 := ⟨lw_Uin (i := 657) (by decide +kernel) rfl, lw_Uin (i := 658) (by decide +kernel) rfl, lw_Uin (i := 659) (by decide +kernel) rfl, lw_Uin (i := 36) (by decide +kernel) rfl, cd_X0_find, ⟨by decide +kernel, by decide +kernel, by decide +kernel⟩⟩
set_option maxRecDepth 100000 in
theorem cd_X3_addRun : Cond.code yX3_addRun cX3_addRun 7 none ∈ lw_U := lw_Uin (i := 664) (rfl) rfl
theorem cw_X3_90 : CVk "Lastbus$Net" 90 yX3_addRun cX3_addRun 7 none 4 := ⟨lw_Uin (i := 661) (by decide +kernel) rfl, lw_Uin (i := 663) (by decide +kernel) rfl, lw_Uin (i := 6) (by decide +kernel) rfl, lw_Uin (i := 38) (by decide +kernel) rfl, cd_X3_addRun, ⟨by decide +kernel, by decide +kernel, by decide +kernel⟩⟩
theorem cw_X3_94 : CNk "Lastbus$Net" 94 yX11_sortUp "Lastbus" cX11_sortUp 6 none 3 := ⟨List.mem_of_getElem? (i := 673) (by decide +kernel), lw_Uin (i := 601) (by decide +kernel) rfl, lw_Uin (i := 32) (by decide +kernel) rfl, cd_X11_sortUp, ⟨by decide +kernel, by decide +kernel, by decide +kernel⟩⟩
set_option maxRecDepth 100000 in
theorem cd_X0_at : Cond.code yX0_at cX0_at 3 (some .int) ∈ lw_U := lw_Uin (i := 668) (rfl) rfl
theorem cw_X3_101 : CVk "Lastbus$Net" 101 yX0_at cX0_at 3 (some .int) 2 := ⟨lw_Uin (i := 665) (by decide +kernel) rfl, lw_Uin (i := 666) (by decide +kernel) rfl, lw_Uin (i := 667) (by decide +kernel) rfl, lw_Uin (i := 36) (by decide +kernel) rfl, cd_X0_at, ⟨by decide +kernel, by decide +kernel, by decide +kernel⟩⟩
set_option maxRecDepth 100000 in
theorem cd_X3_addHop : Cond.code yX3_addHop cX3_addHop 4 none ∈ lw_U := lw_Uin (i := 672) (rfl) rfl
theorem cw_X3_105 : CVk "Lastbus$Net" 105 yX3_addHop cX3_addHop 4 none 2 := ⟨lw_Uin (i := 669) (by decide +kernel) rfl, lw_Uin (i := 671) (by decide +kernel) rfl, lw_Uin (i := 7) (by decide +kernel) rfl, lw_Uin (i := 38) (by decide +kernel) rfl, cd_X3_addHop, ⟨by decide +kernel, by decide +kernel, by decide +kernel⟩⟩
set_option maxRecDepth 100000 in
theorem cd_X2_begin : Cond.code yX2_begin cX2_begin 3 none ∈ lw_U := lw_Uin (i := 685) (rfl) rfl
theorem cw_X4_41 : CVk "Lastbus$Rounds" 41 yX2_begin cX2_begin 3 none 2 := ⟨lw_Uin (i := 743) (by decide +kernel) rfl, lw_Uin (i := 683) (by decide +kernel) rfl, lw_Uin (i := 684) (by decide +kernel) rfl, lw_Uin (i := 40) (by decide +kernel) rfl, cd_X2_begin, ⟨by decide +kernel, by decide +kernel, by decide +kernel⟩⟩
set_option maxRecDepth 100000 in
theorem cd_X2_copy : Cond.code yX2_copy cX2_copy 3 none ∈ lw_U := lw_Uin (i := 747) (rfl) rfl
theorem cw_X4_49 : CVk "Lastbus$Rounds" 49 yX2_copy cX2_copy 3 none 1 := ⟨lw_Uin (i := 744) (by decide +kernel) rfl, lw_Uin (i := 745) (by decide +kernel) rfl, lw_Uin (i := 746) (by decide +kernel) rfl, lw_Uin (i := 40) (by decide +kernel) rfl, cd_X2_copy, ⟨by decide +kernel, by decide +kernel, by decide +kernel⟩⟩
set_option maxRecDepth 100000 in
theorem cd_X4_rideOnce : Cond.code yX4_rideOnce cX4_rideOnce 7 (some .boolean) ∈ lw_U := lw_Uin (i := 751) (rfl) rfl
theorem cw_X4_53 : CVk "Lastbus$Rounds" 53 yX4_rideOnce cX4_rideOnce 7 (some .boolean) 2 := ⟨lw_Uin (i := 748) (by decide +kernel) rfl, lw_Uin (i := 750) (by decide +kernel) rfl, lw_Uin (i := 15) (by decide +kernel) rfl, lw_Uin (i := 41) (by decide +kernel) rfl, cd_X4_rideOnce, ⟨by decide +kernel, by decide +kernel, by decide +kernel⟩⟩
set_option maxRecDepth 100000 in
theorem cd_X2_getOff : Cond.code yX2_getOff cX2_getOff 3 (some .boolean) ∈ lw_U := lw_Uin (i := 716) (rfl) rfl
theorem cw_X4_72 : CVk "Lastbus$Rounds" 72 yX2_getOff cX2_getOff 3 (some .boolean) 2 := ⟨lw_Uin (i := 752) (by decide +kernel) rfl, lw_Uin (i := 714) (by decide +kernel) rfl, lw_Uin (i := 715) (by decide +kernel) rfl, lw_Uin (i := 40) (by decide +kernel) rfl, cd_X2_getOff, ⟨by decide +kernel, by decide +kernel, by decide +kernel⟩⟩
set_option maxRecDepth 100000 in
theorem cd_X2_canGetOn : Cond.code yX2_canGetOn cX2_canGetOn 3 (some .boolean) ∈ lw_U := lw_Uin (i := 712) (rfl) rfl
theorem cw_X4_79 : CVk "Lastbus$Rounds" 79 yX2_canGetOn cX2_canGetOn 3 (some .boolean) 2 := ⟨lw_Uin (i := 753) (by decide +kernel) rfl, lw_Uin (i := 710) (by decide +kernel) rfl, lw_Uin (i := 711) (by decide +kernel) rfl, lw_Uin (i := 40) (by decide +kernel) rfl, cd_X2_canGetOn, ⟨by decide +kernel, by decide +kernel, by decide +kernel⟩⟩
theorem cw_X4_82 : CVk "Lastbus$Rounds" 82 yX2_at cX2_at 2 (some .int) 1 := ⟨lw_Uin (i := 758) (by decide +kernel) rfl, lw_Uin (i := 718) (by decide +kernel) rfl, lw_Uin (i := 719) (by decide +kernel) rfl, lw_Uin (i := 40) (by decide +kernel) rfl, cd_X2_at, ⟨by decide +kernel, by decide +kernel, by decide +kernel⟩⟩
theorem cw_X4_87 : CVk "Lastbus$Rounds" 87 yX4_least cX4_least 2 (some .int) 1 := ⟨lw_Uin (i := 1079) (by decide +kernel) rfl, lw_Uin (i := 755) (by decide +kernel) rfl, lw_Uin (i := 756) (by decide +kernel) rfl, lw_Uin (i := 41) (by decide +kernel) rfl, cd_X4_least, ⟨by decide +kernel, by decide +kernel, by decide +kernel⟩⟩
set_option maxRecDepth 100000 in
theorem cd_X4_fewestRides : Cond.code yX4_fewestRides cX4_fewestRides 3 (some .int) ∈ lw_U := lw_Uin (i := 1078) (rfl) rfl
theorem cw_X4_90 : CVk "Lastbus$Rounds" 90 yX4_fewestRides cX4_fewestRides 3 (some .int) 1 := ⟨lw_Uin (i := 1075) (by decide +kernel) rfl, lw_Uin (i := 1077) (by decide +kernel) rfl, lw_Uin (i := 26) (by decide +kernel) rfl, lw_Uin (i := 41) (by decide +kernel) rfl, cd_X4_fewestRides, ⟨by decide +kernel, by decide +kernel, by decide +kernel⟩⟩
set_option maxRecDepth 100000 in
theorem cd_X4_findRide : Cond.code yX4_findRide cX4_findRide 6 (some .int) ∈ lw_U := lw_Uin (i := 1083) (rfl) rfl
theorem cw_X4_96 : CVk "Lastbus$Rounds" 96 yX4_findRide cX4_findRide 6 (some .int) 4 := ⟨lw_Uin (i := 1080) (by decide +kernel) rfl, lw_Uin (i := 1082) (by decide +kernel) rfl, lw_Uin (i := 27) (by decide +kernel) rfl, lw_Uin (i := 41) (by decide +kernel) rfl, cd_X4_findRide, ⟨by decide +kernel, by decide +kernel, by decide +kernel⟩⟩
set_option maxRecDepth 100000 in
theorem cd_X4_offCall : Cond.code yX4_offCall cX4_offCall 9 (some .int) ∈ lw_U := lw_Uin (i := 1087) (rfl) rfl
theorem cw_X4_106 : CVk "Lastbus$Rounds" 106 yX4_offCall cX4_offCall 9 (some .int) 5 := ⟨lw_Uin (i := 1084) (by decide +kernel) rfl, lw_Uin (i := 1086) (by decide +kernel) rfl, lw_Uin (i := 28) (by decide +kernel) rfl, lw_Uin (i := 41) (by decide +kernel) rfl, cd_X4_offCall, ⟨by decide +kernel, by decide +kernel, by decide +kernel⟩⟩
set_option maxRecDepth 100000 in
theorem cd_X4_onCall : Cond.code yX4_onCall cX4_onCall 5 (some .int) ∈ lw_U := lw_Uin (i := 1091) (rfl) rfl
theorem cw_X4_110 : CVk "Lastbus$Rounds" 110 yX4_onCall cX4_onCall 5 (some .int) 3 := ⟨lw_Uin (i := 1088) (by decide +kernel) rfl, lw_Uin (i := 1090) (by decide +kernel) rfl, lw_Uin (i := 29) (by decide +kernel) rfl, lw_Uin (i := 41) (by decide +kernel) rfl, cd_X4_onCall, ⟨by decide +kernel, by decide +kernel, by decide +kernel⟩⟩
theorem cw_X6_48 : CVk "Lastbus$Search" 48 yX2_begin cX2_begin 3 none 2 := ⟨lw_Uin (i := 682) (by decide +kernel) rfl, lw_Uin (i := 683) (by decide +kernel) rfl, lw_Uin (i := 684) (by decide +kernel) rfl, lw_Uin (i := 40) (by decide +kernel) rfl, cd_X2_begin, ⟨by decide +kernel, by decide +kernel, by decide +kernel⟩⟩
set_option maxRecDepth 100000 in
theorem cd_X6_readHops : Cond.code yX6_readHops cX6_readHops 7 none ∈ lw_U := lw_Uin (i := 698) (rfl) rfl
theorem cw_X6_52 : CVk "Lastbus$Search" 52 yX6_readHops cX6_readHops 7 none 1 := ⟨lw_Uin (i := 695) (by decide +kernel) rfl, lw_Uin (i := 697) (by decide +kernel) rfl, lw_Uin (i := 10) (by decide +kernel) rfl, lw_Uin (i := 39) (by decide +kernel) rfl, cd_X6_readHops, ⟨by decide +kernel, by decide +kernel, by decide +kernel⟩⟩
theorem cw_X6_81 : CVk "Lastbus$Search" 81 yX2_getOff cX2_getOff 3 (some .boolean) 2 := ⟨lw_Uin (i := 713) (by decide +kernel) rfl, lw_Uin (i := 714) (by decide +kernel) rfl, lw_Uin (i := 715) (by decide +kernel) rfl, lw_Uin (i := 40) (by decide +kernel) rfl, cd_X2_getOff, ⟨by decide +kernel, by decide +kernel, by decide +kernel⟩⟩
set_option maxRecDepth 100000 in
theorem cd_X6_leaveRuns : Cond.code yX6_leaveRuns cX6_leaveRuns 2 none ∈ lw_U := lw_Uin (i := 702) (rfl) rfl
theorem cw_X6_85 : CVk "Lastbus$Search" 85 yX6_leaveRuns cX6_leaveRuns 2 none 0 := ⟨lw_Uin (i := 699) (by decide +kernel) rfl, lw_Uin (i := 701) (by decide +kernel) rfl, lw_Uin (i := 11) (by decide +kernel) rfl, lw_Uin (i := 39) (by decide +kernel) rfl, cd_X6_leaveRuns, ⟨by decide +kernel, by decide +kernel, by decide +kernel⟩⟩
set_option maxRecDepth 100000 in
theorem cd_X3_runOf : Cond.code yX3_runOf cX3_runOf 1 (some .int) ∈ lw_U := lw_Uin (i := 705) (rfl) rfl
theorem cw_X6_94 : CSk "Lastbus$Search" 94 yX3_runOf cX3_runOf 1 (some .int) 1 := ⟨lw_Uin (i := 703) (by decide +kernel) rfl, lw_Uin (i := 704) (by decide +kernel) rfl, lw_Uin (i := 38) (by decide +kernel) rfl, cd_X3_runOf, ⟨by decide +kernel, by decide +kernel, by decide +kernel⟩⟩
set_option maxRecDepth 100000 in
theorem cd_X3_callOf : Cond.code yX3_callOf cX3_callOf 1 (some .int) ∈ lw_U := lw_Uin (i := 708) (rfl) rfl
theorem cw_X6_98 : CSk "Lastbus$Search" 98 yX3_callOf cX3_callOf 1 (some .int) 1 := ⟨lw_Uin (i := 706) (by decide +kernel) rfl, lw_Uin (i := 707) (by decide +kernel) rfl, lw_Uin (i := 38) (by decide +kernel) rfl, cd_X3_callOf, ⟨by decide +kernel, by decide +kernel, by decide +kernel⟩⟩
theorem cw_X6_101 : CVk "Lastbus$Search" 101 yX2_canGetOn cX2_canGetOn 3 (some .boolean) 2 := ⟨lw_Uin (i := 709) (by decide +kernel) rfl, lw_Uin (i := 710) (by decide +kernel) rfl, lw_Uin (i := 711) (by decide +kernel) rfl, lw_Uin (i := 40) (by decide +kernel) rfl, cd_X2_canGetOn, ⟨by decide +kernel, by decide +kernel, by decide +kernel⟩⟩
set_option maxRecDepth 100000 in
theorem cd_X6_lastLeaveByRides : Cond.code yX6_lastLeaveByRides cX6_lastLeaveByRides 6 (some .int) ∈ lw_U := lw_Uin (i := 771) (rfl) rfl
theorem cw_X6_104 : CVk "Lastbus$Search" 104 yX6_lastLeaveByRides cX6_lastLeaveByRides 6 (some .int) 3 := ⟨lw_Uin (i := 768) (by decide +kernel) rfl, lw_Uin (i := 770) (by decide +kernel) rfl, lw_Uin (i := 17) (by decide +kernel) rfl, lw_Uin (i := 39) (by decide +kernel) rfl, cd_X6_lastLeaveByRides, ⟨by decide +kernel, by decide +kernel, by decide +kernel⟩⟩
set_option maxRecDepth 100000 in
theorem cd_X6_scanBack : Cond.code yX6_scanBack cX6_scanBack 7 none ∈ lw_U := lw_Uin (i := 775) (rfl) rfl
theorem cw_X6_119 : CVk "Lastbus$Search" 119 yX6_scanBack cX6_scanBack 7 none 2 := ⟨lw_Uin (i := 772) (by decide +kernel) rfl, lw_Uin (i := 774) (by decide +kernel) rfl, lw_Uin (i := 18) (by decide +kernel) rfl, lw_Uin (i := 39) (by decide +kernel) rfl, cd_X6_scanBack, ⟨by decide +kernel, by decide +kernel, by decide +kernel⟩⟩
set_option maxRecDepth 100000 in
theorem cd_X6_getOnBack : Cond.code yX6_getOnBack cX6_getOnBack 4 none ∈ lw_U := lw_Uin (i := 779) (rfl) rfl
theorem cw_X6_131 : CVk "Lastbus$Search" 131 yX6_getOnBack cX6_getOnBack 4 none 2 := ⟨lw_Uin (i := 776) (by decide +kernel) rfl, lw_Uin (i := 778) (by decide +kernel) rfl, lw_Uin (i := 19) (by decide +kernel) rfl, lw_Uin (i := 39) (by decide +kernel) rfl, cd_X6_getOnBack, ⟨by decide +kernel, by decide +kernel, by decide +kernel⟩⟩
set_option maxRecDepth 100000 in
theorem cd_X6_nearest : Cond.code yX6_nearest cX6_nearest 5 (some .int) ∈ lw_U := lw_Uin (i := 729) (rfl) rfl
theorem cw_X6_137 : CVk "Lastbus$Search" 137 yX6_nearest cX6_nearest 5 (some .int) 0 := ⟨lw_Uin (i := 726) (by decide +kernel) rfl, lw_Uin (i := 728) (by decide +kernel) rfl, lw_Uin (i := 12) (by decide +kernel) rfl, lw_Uin (i := 39) (by decide +kernel) rfl, cd_X6_nearest, ⟨by decide +kernel, by decide +kernel, by decide +kernel⟩⟩
set_option maxRecDepth 100000 in
theorem cd_X6_minuteAt : Cond.code yX6_minuteAt cX6_minuteAt 2 (some .int) ∈ lw_U := lw_Uin (i := 734) (rfl) rfl
theorem cw_X6_141 : CVk "Lastbus$Search" 141 yX6_minuteAt cX6_minuteAt 2 (some .int) 1 := ⟨lw_Uin (i := 731) (by decide +kernel) rfl, lw_Uin (i := 733) (by decide +kernel) rfl, lw_Uin (i := 13) (by decide +kernel) rfl, lw_Uin (i := 39) (by decide +kernel) rfl, cd_X6_minuteAt, ⟨by decide +kernel, by decide +kernel, by decide +kernel⟩⟩
set_option maxRecDepth 100000 in
theorem cd_X6_getOnAll : Cond.code yX6_getOnAll cX6_getOnAll 6 none ∈ lw_U := lw_Uin (i := 738) (rfl) rfl
theorem cw_X6_144 : CVk "Lastbus$Search" 144 yX6_getOnAll cX6_getOnAll 6 none 2 := ⟨lw_Uin (i := 735) (by decide +kernel) rfl, lw_Uin (i := 737) (by decide +kernel) rfl, lw_Uin (i := 14) (by decide +kernel) rfl, lw_Uin (i := 39) (by decide +kernel) rfl, cd_X6_getOnAll, ⟨by decide +kernel, by decide +kernel, by decide +kernel⟩⟩
theorem cw_X6_157 : CVk "Lastbus$Search" 157 yX6_scan cX6_scan 3 none 2 := ⟨lw_Uin (i := 791) (by decide +kernel) rfl, lw_Uin (i := 679) (by decide +kernel) rfl, lw_Uin (i := 680) (by decide +kernel) rfl, lw_Uin (i := 39) (by decide +kernel) rfl, cd_X6_scan, ⟨by decide +kernel, by decide +kernel, by decide +kernel⟩⟩
set_option maxRecDepth 100000 in
theorem cd_X2_atByRides : Cond.code yX2_atByRides cX2_atByRides 4 (some .int) ∈ lw_U := lw_Uin (i := 795) (rfl) rfl
theorem cw_X6_160 : CVk "Lastbus$Search" 160 yX2_atByRides cX2_atByRides 4 (some .int) 1 := ⟨lw_Uin (i := 792) (by decide +kernel) rfl, lw_Uin (i := 793) (by decide +kernel) rfl, lw_Uin (i := 794) (by decide +kernel) rfl, lw_Uin (i := 40) (by decide +kernel) rfl, cd_X2_atByRides, ⟨by decide +kernel, by decide +kernel, by decide +kernel⟩⟩
set_option maxRecDepth 100000 in
theorem cd_X8_linkVia : Cond.code yX8_linkVia cX8_linkVia 5 none ∈ lw_U := lw_Uin (i := 655) (rfl) rfl
theorem cw_X8_31 : CVk "Lastbus$Stops" 31 yX8_linkVia cX8_linkVia 5 none 2 := ⟨lw_Uin (i := 652) (by decide +kernel) rfl, lw_Uin (i := 654) (by decide +kernel) rfl, lw_Uin (i := 5) (by decide +kernel) rfl, lw_Uin (i := 33) (by decide +kernel) rfl, cd_X8_linkVia, ⟨by decide +kernel, by decide +kernel, by decide +kernel⟩⟩
theorem cw_X9_33 : CVk "Lastbus$Trips" 33 yX9_add cX9_add 6 none 4 := ⟨lw_Uin (i := 961) (by decide +kernel) rfl, lw_Uin (i := 962) (by decide +kernel) rfl, lw_Uin (i := 963) (by decide +kernel) rfl, lw_Uin (i := 35) (by decide +kernel) rfl, cd_X9_add, ⟨by decide +kernel, by decide +kernel, by decide +kernel⟩⟩
theorem kc_X11_420 : Cond.constant "Lastbus" 420 (i32 1000000) ∈ lw_U := lw_Uin (i := 759) (by decide +kernel) rfl
theorem kc_X2_28 : Cond.constant "Lastbus$Labels" 28 (i32 1000000) ∈ lw_U := lw_Uin (i := 690) (by decide +kernel) rfl
theorem kc_X4_86 : Cond.constant "Lastbus$Rounds" 86 (i32 1000000) ∈ lw_U := lw_Uin (i := 1063) (by decide +kernel) rfl
theorem kc_X6_153 : Cond.constant "Lastbus$Search" 153 (i32 1000000) ∈ lw_U := lw_Uin (i := 730) (by decide +kernel) rfl
theorem kc_X8_30 : Cond.constant "Lastbus$Stops" 30 (i32 1000000) ∈ lw_U := lw_Uin (i := 651) (by decide +kernel) rfl
set_option maxRecDepth 100000 in
theorem mm_X11_358 : MMk "Lastbus" 358 Lib.Math.min.name Lib.Math.min.code := ⟨lw_Uin (i := 603) (by decide +kernel) rfl, lw_Uin (i := 604) (by decide +kernel) rfl, lw_Uin (i := 53) (by decide +kernel) rfl, lw_Uin (i := 605) (rfl) rfl⟩
set_option maxRecDepth 100000 in
theorem mm_X2_46 : MMk "Lastbus$Labels" 46 Lib.Math.min.name Lib.Math.min.code := ⟨lw_Uin (i := 721) (by decide +kernel) rfl, lw_Uin (i := 604) (by decide +kernel) rfl, lw_Uin (i := 53) (by decide +kernel) rfl, lw_Uin (i := 605) (rfl) rfl⟩
set_option maxRecDepth 100000 in
theorem mm_X6_113 : MMk "Lastbus$Search" 113 Lib.Math.max.name Lib.Math.max.code := ⟨lw_Uin (i := 780) (by decide +kernel) rfl, lw_Uin (i := 781) (by decide +kernel) rfl, lw_Uin (i := 53) (by decide +kernel) rfl, lw_Uin (i := 782) (rfl) rfl⟩
theorem ac_X11_490 : ACk "Lastbus" 490 := ⟨lw_Uin (i := 609) (by decide +kernel) rfl, lw_Uin (i := 611) (by decide +kernel) rfl, lw_Uin (i := 610) (by decide +kernel) rfl, lw_Uin (i := 54) (by decide +kernel) rfl⟩
theorem th_mem {ws : List Cond} (ps : List Nat) (h : ws = ps.filterMap (fun i => lw_tbl[i]?)) : ∀ w ∈ ws, w ∈ lw_tbl := by
  intro w hw
  rw [h] at hw
  obtain ⟨i, -, hi⟩ := List.mem_filterMap.mp hw
  exact List.mem_of_getElem? hi
set_option maxRecDepth 100000 in
theorem th_X11_96_98_100 : THk "Lastbus" 96 98 100 1 "there are 12 stops" := ⟨lw_Uin (i := 820) (by decide +kernel) rfl, lw_Uin (i := 47) (by decide +kernel) rfl, th_mem [44, 536, 545, 551, 554, 556, 537, 538, 62, 63, 539, 544, 552, 572, 526, 573, 528, 574, 530, 540, 542, 532, 568, 569, 571, 532, 831, 832, 833, 562, 518, 562, 563, 564, 565, 520, 565, 566, 567, 568, 522, 830, 821, 822, 823, 548, 824, 825, 826, 827, 570, 534, 828] (by rfl), by decide +kernel, by decide +kernel, by decide +kernel⟩
set_option maxRecDepth 100000 in
theorem th_X11_96_132_100 : THk "Lastbus" 96 132 100 1 "there are 6 services" := ⟨lw_Uin (i := 820) (by decide +kernel) rfl, lw_Uin (i := 47) (by decide +kernel) rfl, th_mem [44, 536, 545, 551, 554, 556, 537, 538, 62, 63, 539, 544, 552, 572, 526, 573, 528, 574, 530, 540, 542, 532, 568, 569, 571, 532, 831, 832, 833, 562, 518, 562, 563, 564, 565, 520, 565, 566, 567, 568, 522, 830, 821, 822, 823, 548, 824, 825, 826, 827, 570, 534, 828] (by rfl), by decide +kernel, by decide +kernel, by decide +kernel⟩
set_option maxRecDepth 100000 in
theorem th_X11_96_198_100 : THk "Lastbus" 96 198 100 1 "it has 8 calls" := ⟨lw_Uin (i := 820) (by decide +kernel) rfl, lw_Uin (i := 47) (by decide +kernel) rfl, th_mem [44, 536, 545, 551, 554, 556, 537, 538, 62, 63, 539, 544, 552, 572, 526, 573, 528, 574, 530, 540, 542, 532, 568, 569, 571, 532, 831, 832, 833, 562, 518, 562, 563, 564, 565, 520, 565, 566, 567, 568, 522, 830, 821, 822, 823, 548, 824, 825, 826, 827, 570, 534, 828] (by rfl), by decide +kernel, by decide +kernel, by decide +kernel⟩
set_option maxRecDepth 100000 in
theorem th_X11_96_470_100 : THk "Lastbus" 96 470 100 1 "there are 24 trips" := ⟨lw_Uin (i := 820) (by decide +kernel) rfl, lw_Uin (i := 47) (by decide +kernel) rfl, th_mem [44, 536, 545, 551, 554, 556, 537, 538, 62, 63, 539, 544, 552, 572, 526, 573, 528, 574, 530, 540, 542, 532, 568, 569, 571, 532, 831, 832, 833, 562, 518, 562, 563, 564, 565, 520, 565, 566, 567, 568, 522, 830, 821, 822, 823, 548, 824, 825, 826, 827, 570, 534, 828] (by rfl), by decide +kernel, by decide +kernel, by decide +kernel⟩
set_option maxRecDepth 100000 in
theorem th_X11_143_145_147 : THk "Lastbus" 143 145 147 0 "the last day is ahead of the first one" := ⟨lw_Uin (i := 514) (by decide +kernel) rfl, lw_Uin (i := 51) (by decide +kernel) rfl, th_mem [44, 536, 545, 551, 554, 556, 537, 538, 62, 63, 539, 544, 552, 572, 526, 573, 528, 574, 530, 540, 542, 532, 568, 569, 571, 532, 559, 560, 561, 562, 518, 562, 563, 564, 565, 520, 565, 566, 567, 568, 522, 558, 515, 516, 523, 524, 525, 527, 529, 531, 570, 534, 533] (by rfl), by decide +kernel, by decide +kernel, by decide +kernel⟩
set_option maxRecDepth 100000 in
theorem th_X11_143_193_147 : THk "Lastbus" 143 193 147 0 "the times are not as told" := ⟨lw_Uin (i := 514) (by decide +kernel) rfl, lw_Uin (i := 51) (by decide +kernel) rfl, th_mem [44, 536, 545, 551, 554, 556, 537, 538, 62, 63, 539, 544, 552, 572, 526, 573, 528, 574, 530, 540, 542, 532, 568, 569, 571, 532, 559, 560, 561, 562, 518, 562, 563, 564, 565, 520, 565, 566, 567, 568, 522, 558, 515, 516, 523, 524, 525, 527, 529, 531, 570, 534, 533] (by rfl), by decide +kernel, by decide +kernel, by decide +kernel⟩
set_option maxRecDepth 100000 in
theorem th_X11_143_314_147 : THk "Lastbus" 143 314 147 0 "there is no such letter" := ⟨lw_Uin (i := 514) (by decide +kernel) rfl, lw_Uin (i := 51) (by decide +kernel) rfl, th_mem [44, 536, 545, 551, 554, 556, 537, 538, 62, 63, 539, 544, 552, 572, 526, 573, 528, 574, 530, 540, 542, 532, 568, 569, 571, 532, 559, 560, 561, 562, 518, 562, 563, 564, 565, 520, 565, 566, 567, 568, 522, 558, 515, 516, 523, 524, 525, 527, 529, 531, 570, 534, 533] (by rfl), by decide +kernel, by decide +kernel, by decide +kernel⟩
set_option maxRecDepth 100000 in
theorem th_X11_143_442_147 : THk "Lastbus" 143 442 147 0 "a number is out of range" := ⟨lw_Uin (i := 514) (by decide +kernel) rfl, lw_Uin (i := 51) (by decide +kernel) rfl, th_mem [44, 536, 545, 551, 554, 556, 537, 538, 62, 63, 539, 544, 552, 572, 526, 573, 528, 574, 530, 540, 542, 532, 568, 569, 571, 532, 559, 560, 561, 562, 518, 562, 563, 564, 565, 520, 565, 566, 567, 568, 522, 558, 515, 516, 523, 524, 525, 527, 529, 531, 570, 534, 533] (by rfl), by decide +kernel, by decide +kernel, by decide +kernel⟩
set_option maxRecDepth 100000 in
theorem th_X11_143_444_147 : THk "Lastbus" 143 444 147 0 "both are the same" := ⟨lw_Uin (i := 514) (by decide +kernel) rfl, lw_Uin (i := 51) (by decide +kernel) rfl, th_mem [44, 536, 545, 551, 554, 556, 537, 538, 62, 63, 539, 544, 552, 572, 526, 573, 528, 574, 530, 540, 542, 532, 568, 569, 571, 532, 559, 560, 561, 562, 518, 562, 563, 564, 565, 520, 565, 566, 567, 568, 522, 558, 515, 516, 523, 524, 525, 527, 529, 531, 570, 534, 533] (by rfl), by decide +kernel, by decide +kernel, by decide +kernel⟩
set_option maxRecDepth 100000 in
theorem th_X11_168_306_172 : THx "Lastbus" 168 306 172 "there is no such minute" := ⟨lw_Uin (i := 1015) (by decide +kernel) rfl, lw_Uin (i := 55) (by decide +kernel) rfl, th_mem [44, 536, 545, 551, 554, 556, 537, 538, 62, 63, 539, 544, 552, 572, 526, 573, 528, 574, 530, 540, 542, 532, 568, 569, 571, 532, 1026, 1027, 1028, 562, 518, 562, 563, 564, 565, 520, 565, 566, 567, 568, 522, 1025, 1016, 1017, 1018, 550, 1019, 1020, 1021, 1022, 570, 534, 1023] (by rfl), by decide +kernel, by decide +kernel, by decide +kernel⟩
set_option maxRecDepth 100000 in
theorem th_X11_168_316_172 : THx "Lastbus" 168 316 172 "there is no such ride" := ⟨lw_Uin (i := 1015) (by decide +kernel) rfl, lw_Uin (i := 55) (by decide +kernel) rfl, th_mem [44, 536, 545, 551, 554, 556, 537, 538, 62, 63, 539, 544, 552, 572, 526, 573, 528, 574, 530, 540, 542, 532, 568, 569, 571, 532, 1026, 1027, 1028, 562, 518, 562, 563, 564, 565, 520, 565, 566, 567, 568, 522, 1025, 1016, 1017, 1018, 550, 1019, 1020, 1021, 1022, 570, 534, 1023] (by rfl), by decide +kernel, by decide +kernel, by decide +kernel⟩
set_option maxRecDepth 100000 in
theorem th_X11_168_344_172 : THx "Lastbus" 168 344 172 "there is no such pair" := ⟨lw_Uin (i := 1015) (by decide +kernel) rfl, lw_Uin (i := 55) (by decide +kernel) rfl, th_mem [44, 536, 545, 551, 554, 556, 537, 538, 62, 63, 539, 544, 552, 572, 526, 573, 528, 574, 530, 540, 542, 532, 568, 569, 571, 532, 1026, 1027, 1028, 562, 518, 562, 563, 564, 565, 520, 565, 566, 567, 568, 522, 1025, 1016, 1017, 1018, 550, 1019, 1020, 1021, 1022, 570, 534, 1023] (by rfl), by decide +kernel, by decide +kernel, by decide +kernel⟩
set_option maxRecDepth 100000 in
theorem th_X11_168_373_172 : THx "Lastbus" 168 373 172 "there is no such choice" := ⟨lw_Uin (i := 1015) (by decide +kernel) rfl, lw_Uin (i := 55) (by decide +kernel) rfl, th_mem [44, 536, 545, 551, 554, 556, 537, 538, 62, 63, 539, 544, 552, 572, 526, 573, 528, 574, 530, 540, 542, 532, 568, 569, 571, 532, 1026, 1027, 1028, 562, 518, 562, 563, 564, 565, 520, 565, 566, 567, 568, 522, 1025, 1016, 1017, 1018, 550, 1019, 1020, 1021, 1022, 570, 534, 1023] (by rfl), by decide +kernel, by decide +kernel, by decide +kernel⟩
set_option maxRecDepth 100000 in
theorem th_X11_168_446_172 : THx "Lastbus" 168 446 172 "there is none" := ⟨lw_Uin (i := 1015) (by decide +kernel) rfl, lw_Uin (i := 55) (by decide +kernel) rfl, th_mem [44, 536, 545, 551, 554, 556, 537, 538, 62, 63, 539, 544, 552, 572, 526, 573, 528, 574, 530, 540, 542, 532, 568, 569, 571, 532, 1026, 1027, 1028, 562, 518, 562, 563, 564, 565, 520, 565, 566, 567, 568, 522, 1025, 1016, 1017, 1018, 550, 1019, 1020, 1021, 1022, 570, 534, 1023] (by rfl), by decide +kernel, by decide +kernel, by decide +kernel⟩
set_option maxRecDepth 100000 in
theorem th_X11_451_453_455 : THk "Lastbus" 451 453 455 2 "there is no such stop" := ⟨lw_Uin (i := 879) (by decide +kernel) rfl, lw_Uin (i := 48) (by decide +kernel) rfl, th_mem [44, 536, 545, 551, 554, 556, 537, 538, 62, 63, 539, 544, 552, 572, 526, 573, 528, 574, 530, 540, 542, 532, 568, 569, 571, 532, 848, 849, 850, 562, 518, 562, 563, 564, 565, 520, 565, 566, 567, 568, 522, 889, 880, 881, 882, 549, 883, 884, 885, 886, 570, 534, 887] (by rfl), by decide +kernel, by decide +kernel, by decide +kernel⟩
set_option maxRecDepth 100000 in
theorem th_X11_451_457_455 : THk "Lastbus" 451 457 455 2 "there is no such service" := ⟨lw_Uin (i := 879) (by decide +kernel) rfl, lw_Uin (i := 48) (by decide +kernel) rfl, th_mem [44, 536, 545, 551, 554, 556, 537, 538, 62, 63, 539, 544, 552, 572, 526, 573, 528, 574, 530, 540, 542, 532, 568, 569, 571, 532, 848, 849, 850, 562, 518, 562, 563, 564, 565, 520, 565, 566, 567, 568, 522, 889, 880, 881, 882, 549, 883, 884, 885, 886, 570, 534, 887] (by rfl), by decide +kernel, by decide +kernel, by decide +kernel⟩
set_option maxRecDepth 100000 in
theorem th_X11_451_460_455 : THk "Lastbus" 451 460 455 2 "there is no such trip" := ⟨lw_Uin (i := 879) (by decide +kernel) rfl, lw_Uin (i := 48) (by decide +kernel) rfl, th_mem [44, 536, 545, 551, 554, 556, 537, 538, 62, 63, 539, 544, 552, 572, 526, 573, 528, 574, 530, 540, 542, 532, 568, 569, 571, 532, 848, 849, 850, 562, 518, 562, 563, 564, 565, 520, 565, 566, 567, 568, 522, 889, 880, 881, 882, 549, 883, 884, 885, 886, 570, 534, 887] (by rfl), by decide +kernel, by decide +kernel, by decide +kernel⟩
