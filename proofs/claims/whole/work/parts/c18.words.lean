/-! ===== WORDS of the tables, by their places ===== -/
theorem lw_Ulist {ws : List Cond} (ps : List Nat) (h : ws = ps.filterMap (fun i => lw_tbl[i]?)) (g : ws.all goodWord = true) : ∀ w ∈ ws, w ∈ lw_U := by
  intro w hw
  have h1 := List.all_eq_true.mp g w hw
  rw [h] at hw
  obtain ⟨i, -, hi⟩ := List.mem_filterMap.mp hw
  exact lw_Uin hi h1
theorem inU_X0 : ∀ w ∈ u_ws RX0 TX0 5, w ∈ lw_U := lw_Ulist [255, 257, 259, 261, 263] (by decide +kernel) (by decide +kernel)
theorem inU_X1 : ∀ w ∈ u_ws RX1 TX1 11, w ∈ lw_U := lw_Ulist [544, 546, 548, 550, 552, 554, 556, 558, 560, 562, 564] (by decide +kernel) (by decide +kernel)
theorem inU_X2 : ∀ w ∈ u_ws RX2 TX2 3, w ∈ lw_U := lw_Ulist [398, 400, 402] (by decide +kernel) (by decide +kernel)
theorem inU_X3 : ∀ w ∈ u_ws RX3 TX3 15, w ∈ lw_U := lw_Ulist [350, 352, 354, 356, 358, 360, 362, 364, 366, 368, 370, 372, 374, 376, 378] (by decide +kernel) (by decide +kernel)
theorem inU_X4 : ∀ w ∈ u_ws RX4 TX4 9, w ∈ lw_U := lw_Ulist [466, 468, 470, 472, 474, 476, 478, 480, 482] (by decide +kernel) (by decide +kernel)
theorem inU_X5 : ∀ w ∈ u_ws RX5 TX5 10, w ∈ lw_U := lw_Ulist [289, 291, 293, 295, 297, 299, 301, 303, 305, 307] (by decide +kernel) (by decide +kernel)
theorem inU_X6 : ∀ w ∈ u_ws RX6 TX6 10, w ∈ lw_U := lw_Ulist [420, 422, 424, 426, 428, 430, 432, 434, 436, 438] (by decide +kernel) (by decide +kernel)
theorem inU_X7 : ∀ w ∈ u_ws RX7 TX7 2, w ∈ lw_U := lw_Ulist [187, 189] (by decide +kernel) (by decide +kernel)
theorem inU_X8 : ∀ w ∈ u_ws RX8 TX8 5, w ∈ lw_U := lw_Ulist [165, 167, 169, 171, 173] (by decide +kernel) (by decide +kernel)
theorem inU_X9 : ∀ w ∈ u_ws RX9 TX9 6, w ∈ lw_U := lw_Ulist [229, 231, 233, 235, 237, 239] (by decide +kernel) (by decide +kernel)
theorem inU_X10 : ∀ w ∈ u_ws RX10 TX10 11, w ∈ lw_U := lw_Ulist [504, 506, 508, 510, 512, 514, 516, 518, 520, 522, 524] (by decide +kernel) (by decide +kernel)
theorem inU_X11 : ∀ w ∈ u_ws RX11 TX11 11, w ∈ lw_U := lw_Ulist [579, 581, 583, 585, 587, 589, 591, 593, 595, 597, 599] (by decide +kernel) (by decide +kernel)
theorem inU_X12 : ∀ w ∈ u_ws RX12 TX12 50, w ∈ lw_U := lw_Ulist [1691, 1693, 1695, 1697, 1699, 1701, 1703, 1705, 1707, 1709, 1711, 1713, 1715, 1717, 1719, 1721, 1723, 1725, 1727, 1729, 1731, 1733, 1735, 1737, 1739, 1741, 1743, 1745, 1747, 1749, 1751, 1753, 1755, 1757, 1759, 1761, 1763, 1765, 1767, 1769, 1771, 1773, 1775, 1777, 1779, 1781, 1783, 1785, 1787, 1789] (by decide +kernel) (by decide +kernel)
theorem fk_X11_12 : FLk "Lastbus" 12 11 0 := ⟨RX11, TX11, 11, rfl, by omega, inU_X11, lw_Uin (i := 568) (by decide +kernel) rfl, rfl⟩
theorem fk_X11_19 : FLk "Lastbus" 19 11 1 := ⟨RX11, TX11, 11, rfl, by omega, inU_X11, lw_Uin (i := 569) (by decide +kernel) rfl, rfl⟩
theorem fk_X11_26 : FLk "Lastbus" 26 11 2 := ⟨RX11, TX11, 11, rfl, by omega, inU_X11, lw_Uin (i := 570) (by decide +kernel) rfl, rfl⟩
theorem fk_X11_33 : FLk "Lastbus" 33 11 3 := ⟨RX11, TX11, 11, rfl, by omega, inU_X11, lw_Uin (i := 571) (by decide +kernel) rfl, rfl⟩
theorem fk_X11_40 : FLk "Lastbus" 40 11 4 := ⟨RX11, TX11, 11, rfl, by omega, inU_X11, lw_Uin (i := 572) (by decide +kernel) rfl, rfl⟩
theorem fk_X11_49 : FLk "Lastbus" 49 11 5 := ⟨RX11, TX11, 11, rfl, by omega, inU_X11, lw_Uin (i := 573) (by decide +kernel) rfl, rfl⟩
theorem fk_X11_58 : FLk "Lastbus" 58 11 6 := ⟨RX11, TX11, 11, rfl, by omega, inU_X11, lw_Uin (i := 574) (by decide +kernel) rfl, rfl⟩
theorem fk_X11_65 : FLk "Lastbus" 65 11 7 := ⟨RX11, TX11, 11, rfl, by omega, inU_X11, lw_Uin (i := 575) (by decide +kernel) rfl, rfl⟩
theorem fk_X11_72 : FLk "Lastbus" 72 11 8 := ⟨RX11, TX11, 11, rfl, by omega, inU_X11, lw_Uin (i := 576) (by decide +kernel) rfl, rfl⟩
theorem fk_X11_79 : FLk "Lastbus" 79 11 9 := ⟨RX11, TX11, 11, rfl, by omega, inU_X11, lw_Uin (i := 577) (by decide +kernel) rfl, rfl⟩
theorem fk_X11_85 : FLk "Lastbus" 85 11 10 := ⟨RX11, TX11, 11, rfl, by omega, inU_X11, lw_Uin (i := 578) (by decide +kernel) rfl, rfl⟩
theorem fk_X11_92 : FLk "Lastbus" 92 8 0 := ⟨RX8, TX8, 5, rfl, by omega, inU_X8, lw_Uin (i := 148) (by decide +kernel) rfl, rfl⟩
theorem fk_X11_111 : FLk "Lastbus" 111 8 1 := ⟨RX8, TX8, 5, rfl, by omega, inU_X8, lw_Uin (i := 151) (by decide +kernel) rfl, rfl⟩
theorem fk_X11_119 : FLk "Lastbus" 119 8 2 := ⟨RX8, TX8, 5, rfl, by omega, inU_X8, lw_Uin (i := 157) (by decide +kernel) rfl, rfl⟩
theorem fk_X11_125 : FLk "Lastbus" 125 8 3 := ⟨RX8, TX8, 5, rfl, by omega, inU_X8, lw_Uin (i := 159) (by decide +kernel) rfl, rfl⟩
theorem fk_X11_131 : FLk "Lastbus" 131 7 0 := ⟨RX7, TX7, 2, rfl, by omega, inU_X7, lw_Uin (i := 184) (by decide +kernel) rfl, rfl⟩
theorem fk_X11_152 : FLk "Lastbus" 152 7 1 := ⟨RX7, TX7, 2, rfl, by omega, inU_X7, lw_Uin (i := 186) (by decide +kernel) rfl, rfl⟩
theorem fk_X11_183 : FLk "Lastbus" 183 9 2 := ⟨RX9, TX9, 6, rfl, by omega, inU_X9, lw_Uin (i := 213) (by decide +kernel) rfl, rfl⟩
theorem fk_X11_186 : FLk "Lastbus" 186 9 5 := ⟨RX9, TX9, 6, rfl, by omega, inU_X9, lw_Uin (i := 228) (by decide +kernel) rfl, rfl⟩
theorem fk_X11_195 : FLk "Lastbus" 195 9 3 := ⟨RX9, TX9, 6, rfl, by omega, inU_X9, lw_Uin (i := 218) (by decide +kernel) rfl, rfl⟩
theorem fk_X11_203 : FLk "Lastbus" 203 9 0 := ⟨RX9, TX9, 6, rfl, by omega, inU_X9, lw_Uin (i := 203) (by decide +kernel) rfl, rfl⟩
theorem fk_X11_207 : FLk "Lastbus" 207 9 4 := ⟨RX9, TX9, 6, rfl, by omega, inU_X9, lw_Uin (i := 223) (by decide +kernel) rfl, rfl⟩
theorem fk_X11_242 : FLk "Lastbus" 242 5 3 := ⟨RX5, TX5, 10, rfl, by omega, inU_X5, lw_Uin (i := 278) (by decide +kernel) rfl, rfl⟩
theorem fk_X11_245 : FLk "Lastbus" 245 5 5 := ⟨RX5, TX5, 10, rfl, by omega, inU_X5, lw_Uin (i := 282) (by decide +kernel) rfl, rfl⟩
theorem fk_X11_247 : FLk "Lastbus" 247 5 7 := ⟨RX5, TX5, 10, rfl, by omega, inU_X5, lw_Uin (i := 286) (by decide +kernel) rfl, rfl⟩
theorem fk_X11_249 : FLk "Lastbus" 249 5 4 := ⟨RX5, TX5, 10, rfl, by omega, inU_X5, lw_Uin (i := 280) (by decide +kernel) rfl, rfl⟩
theorem fk_X11_252 : FLk "Lastbus" 252 5 6 := ⟨RX5, TX5, 10, rfl, by omega, inU_X5, lw_Uin (i := 284) (by decide +kernel) rfl, rfl⟩
theorem fk_X11_254 : FLk "Lastbus" 254 5 2 := ⟨RX5, TX5, 10, rfl, by omega, inU_X5, lw_Uin (i := 276) (by decide +kernel) rfl, rfl⟩
theorem fk_X11_262 : FLk "Lastbus" 262 0 4 := ⟨RX0, TX0, 5, rfl, by omega, inU_X0, lw_Uin (i := 254) (by decide +kernel) rfl, rfl⟩
theorem fk_X11_268 : FLk "Lastbus" 268 0 0 := ⟨RX0, TX0, 5, rfl, by omega, inU_X0, lw_Uin (i := 249) (by decide +kernel) rfl, rfl⟩
theorem fk_X11_286 : FLk "Lastbus" 286 6 2 := ⟨RX6, TX6, 10, rfl, by omega, inU_X6, lw_Uin (i := 409) (by decide +kernel) rfl, rfl⟩
theorem fk_X11_311 : FLk "Lastbus" 311 4 4 := ⟨RX4, TX4, 9, rfl, by omega, inU_X4, lw_Uin (i := 457) (by decide +kernel) rfl, rfl⟩
theorem fk_X11_318 : FLk "Lastbus" 318 4 5 := ⟨RX4, TX4, 9, rfl, by omega, inU_X4, lw_Uin (i := 459) (by decide +kernel) rfl, rfl⟩
theorem fk_X11_321 : FLk "Lastbus" 321 4 6 := ⟨RX4, TX4, 9, rfl, by omega, inU_X4, lw_Uin (i := 461) (by decide +kernel) rfl, rfl⟩
theorem fk_X11_324 : FLk "Lastbus" 324 4 7 := ⟨RX4, TX4, 9, rfl, by omega, inU_X4, lw_Uin (i := 463) (by decide +kernel) rfl, rfl⟩
theorem fk_X11_327 : FLk "Lastbus" 327 4 8 := ⟨RX4, TX4, 9, rfl, by omega, inU_X4, lw_Uin (i := 465) (by decide +kernel) rfl, rfl⟩
theorem fk_X11_341 : FLk "Lastbus" 341 6 7 := ⟨RX6, TX6, 10, rfl, by omega, inU_X6, lw_Uin (i := 415) (by decide +kernel) rfl, rfl⟩
theorem fk_X11_346 : FLk "Lastbus" 346 6 9 := ⟨RX6, TX6, 10, rfl, by omega, inU_X6, lw_Uin (i := 419) (by decide +kernel) rfl, rfl⟩
theorem fk_X11_349 : FLk "Lastbus" 349 6 8 := ⟨RX6, TX6, 10, rfl, by omega, inU_X6, lw_Uin (i := 417) (by decide +kernel) rfl, rfl⟩
theorem fk_X11_363 : FLk "Lastbus" 363 4 3 := ⟨RX4, TX4, 9, rfl, by omega, inU_X4, lw_Uin (i := 455) (by decide +kernel) rfl, rfl⟩
theorem fk_X11_369 : FLk "Lastbus" 369 4 2 := ⟨RX4, TX4, 9, rfl, by omega, inU_X4, lw_Uin (i := 453) (by decide +kernel) rfl, rfl⟩
theorem fk_X11_383 : FLk "Lastbus" 383 10 4 := ⟨RX10, TX10, 11, rfl, by omega, inU_X10, lw_Uin (i := 497) (by decide +kernel) rfl, rfl⟩
theorem fk_X11_433 : FLk "Lastbus" 433 5 1 := ⟨RX5, TX5, 10, rfl, by omega, inU_X5, lw_Uin (i := 274) (by decide +kernel) rfl, rfl⟩
theorem fk_X11_464 : FLk "Lastbus" 464 9 1 := ⟨RX9, TX9, 6, rfl, by omega, inU_X9, lw_Uin (i := 208) (by decide +kernel) rfl, rfl⟩
theorem fk_X0_9 : FLk "Lastbus$Delays" 9 0 1 := ⟨RX0, TX0, 5, rfl, by omega, inU_X0, lw_Uin (i := 250) (by decide +kernel) rfl, rfl⟩
theorem fk_X0_15 : FLk "Lastbus$Delays" 15 0 2 := ⟨RX0, TX0, 5, rfl, by omega, inU_X0, lw_Uin (i := 251) (by decide +kernel) rfl, rfl⟩
theorem fk_X0_18 : FLk "Lastbus$Delays" 18 0 3 := ⟨RX0, TX0, 5, rfl, by omega, inU_X0, lw_Uin (i := 252) (by decide +kernel) rfl, rfl⟩
theorem fk_X0_21 : FLk "Lastbus$Delays" 21 0 4 := ⟨RX0, TX0, 5, rfl, by omega, inU_X0, lw_Uin (i := 253) (by decide +kernel) rfl, rfl⟩
theorem fk_X0_24 : FLk "Lastbus$Delays" 24 0 0 := ⟨RX0, TX0, 5, rfl, by omega, inU_X0, lw_Uin (i := 248) (by decide +kernel) rfl, rfl⟩
theorem fk_X1_9 : FLk "Lastbus$Fleet" 9 1 1 := ⟨RX1, TX1, 11, rfl, by omega, inU_X1, lw_Uin (i := 534) (by decide +kernel) rfl, rfl⟩
theorem fk_X1_15 : FLk "Lastbus$Fleet" 15 1 2 := ⟨RX1, TX1, 11, rfl, by omega, inU_X1, lw_Uin (i := 535) (by decide +kernel) rfl, rfl⟩
theorem fk_X1_18 : FLk "Lastbus$Fleet" 18 1 3 := ⟨RX1, TX1, 11, rfl, by omega, inU_X1, lw_Uin (i := 536) (by decide +kernel) rfl, rfl⟩
theorem fk_X1_21 : FLk "Lastbus$Fleet" 21 1 4 := ⟨RX1, TX1, 11, rfl, by omega, inU_X1, lw_Uin (i := 537) (by decide +kernel) rfl, rfl⟩
theorem fk_X1_24 : FLk "Lastbus$Fleet" 24 1 5 := ⟨RX1, TX1, 11, rfl, by omega, inU_X1, lw_Uin (i := 538) (by decide +kernel) rfl, rfl⟩
theorem fk_X1_27 : FLk "Lastbus$Fleet" 27 1 6 := ⟨RX1, TX1, 11, rfl, by omega, inU_X1, lw_Uin (i := 539) (by decide +kernel) rfl, rfl⟩
theorem fk_X1_30 : FLk "Lastbus$Fleet" 30 1 7 := ⟨RX1, TX1, 11, rfl, by omega, inU_X1, lw_Uin (i := 540) (by decide +kernel) rfl, rfl⟩
theorem fk_X1_33 : FLk "Lastbus$Fleet" 33 1 8 := ⟨RX1, TX1, 11, rfl, by omega, inU_X1, lw_Uin (i := 541) (by decide +kernel) rfl, rfl⟩
theorem fk_X1_36 : FLk "Lastbus$Fleet" 36 1 9 := ⟨RX1, TX1, 11, rfl, by omega, inU_X1, lw_Uin (i := 542) (by decide +kernel) rfl, rfl⟩
theorem fk_X1_39 : FLk "Lastbus$Fleet" 39 1 10 := ⟨RX1, TX1, 11, rfl, by omega, inU_X1, lw_Uin (i := 543) (by decide +kernel) rfl, rfl⟩
theorem fk_X1_42 : FLk "Lastbus$Fleet" 42 1 0 := ⟨RX1, TX1, 11, rfl, by omega, inU_X1, lw_Uin (i := 533) (by decide +kernel) rfl, rfl⟩
theorem fk_X1_46 : FLk "Lastbus$Fleet" 46 9 0 := ⟨RX9, TX9, 6, rfl, by omega, inU_X9, lw_Uin (i := 200) (by decide +kernel) rfl, rfl⟩
theorem fk_X1_49 : FLk "Lastbus$Fleet" 49 9 1 := ⟨RX9, TX9, 6, rfl, by omega, inU_X9, lw_Uin (i := 205) (by decide +kernel) rfl, rfl⟩
theorem fk_X1_58 : FLk "Lastbus$Fleet" 58 9 2 := ⟨RX9, TX9, 6, rfl, by omega, inU_X9, lw_Uin (i := 210) (by decide +kernel) rfl, rfl⟩
theorem fk_X1_61 : FLk "Lastbus$Fleet" 61 9 3 := ⟨RX9, TX9, 6, rfl, by omega, inU_X9, lw_Uin (i := 215) (by decide +kernel) rfl, rfl⟩
theorem fk_X1_65 : FLk "Lastbus$Fleet" 65 9 5 := ⟨RX9, TX9, 6, rfl, by omega, inU_X9, lw_Uin (i := 225) (by decide +kernel) rfl, rfl⟩
theorem fk_X1_67 : FLk "Lastbus$Fleet" 67 9 4 := ⟨RX9, TX9, 6, rfl, by omega, inU_X9, lw_Uin (i := 220) (by decide +kernel) rfl, rfl⟩
theorem fk_X2_9 : FLk "Lastbus$Labels" 9 2 1 := ⟨RX2, TX2, 3, rfl, by omega, inU_X2, lw_Uin (i := 394) (by decide +kernel) rfl, rfl⟩
theorem fk_X2_15 : FLk "Lastbus$Labels" 15 2 2 := ⟨RX2, TX2, 3, rfl, by omega, inU_X2, lw_Uin (i := 396) (by decide +kernel) rfl, rfl⟩
theorem fk_X2_18 : FLk "Lastbus$Labels" 18 2 0 := ⟨RX2, TX2, 3, rfl, by omega, inU_X2, lw_Uin (i := 393) (by decide +kernel) rfl, rfl⟩
theorem fk_X2_22 : FLk "Lastbus$Labels" 22 8 0 := ⟨RX8, TX8, 5, rfl, by omega, inU_X8, lw_Uin (i := 147) (by decide +kernel) rfl, rfl⟩
theorem fk_X2_36 : FLk "Lastbus$Labels" 36 8 1 := ⟨RX8, TX8, 5, rfl, by omega, inU_X8, lw_Uin (i := 152) (by decide +kernel) rfl, rfl⟩
theorem fk_X2_39 : FLk "Lastbus$Labels" 39 8 4 := ⟨RX8, TX8, 5, rfl, by omega, inU_X8, lw_Uin (i := 164) (by decide +kernel) rfl, rfl⟩
theorem fk_X2_42 : FLk "Lastbus$Labels" 42 8 3 := ⟨RX8, TX8, 5, rfl, by omega, inU_X8, lw_Uin (i := 161) (by decide +kernel) rfl, rfl⟩
theorem fk_X3_9 : FLk "Lastbus$Net" 9 3 5 := ⟨RX3, TX3, 15, rfl, by omega, inU_X3, lw_Uin (i := 325) (by decide +kernel) rfl, rfl⟩
theorem fk_X3_15 : FLk "Lastbus$Net" 15 3 6 := ⟨RX3, TX3, 15, rfl, by omega, inU_X3, lw_Uin (i := 328) (by decide +kernel) rfl, rfl⟩
theorem fk_X3_18 : FLk "Lastbus$Net" 18 3 7 := ⟨RX3, TX3, 15, rfl, by omega, inU_X3, lw_Uin (i := 331) (by decide +kernel) rfl, rfl⟩
theorem fk_X3_23 : FLk "Lastbus$Net" 23 3 8 := ⟨RX3, TX3, 15, rfl, by omega, inU_X3, lw_Uin (i := 334) (by decide +kernel) rfl, rfl⟩
theorem fk_X3_26 : FLk "Lastbus$Net" 26 3 9 := ⟨RX3, TX3, 15, rfl, by omega, inU_X3, lw_Uin (i := 337) (by decide +kernel) rfl, rfl⟩
theorem fk_X3_29 : FLk "Lastbus$Net" 29 3 10 := ⟨RX3, TX3, 15, rfl, by omega, inU_X3, lw_Uin (i := 340) (by decide +kernel) rfl, rfl⟩
theorem fk_X3_32 : FLk "Lastbus$Net" 32 3 12 := ⟨RX3, TX3, 15, rfl, by omega, inU_X3, lw_Uin (i := 345) (by decide +kernel) rfl, rfl⟩
theorem fk_X3_35 : FLk "Lastbus$Net" 35 3 13 := ⟨RX3, TX3, 15, rfl, by omega, inU_X3, lw_Uin (i := 347) (by decide +kernel) rfl, rfl⟩
theorem fk_X3_38 : FLk "Lastbus$Net" 38 3 14 := ⟨RX3, TX3, 15, rfl, by omega, inU_X3, lw_Uin (i := 349) (by decide +kernel) rfl, rfl⟩
theorem fk_X3_41 : FLk "Lastbus$Net" 41 3 0 := ⟨RX3, TX3, 15, rfl, by omega, inU_X3, lw_Uin (i := 318) (by decide +kernel) rfl, rfl⟩
theorem fk_X3_45 : FLk "Lastbus$Net" 45 3 1 := ⟨RX3, TX3, 15, rfl, by omega, inU_X3, lw_Uin (i := 319) (by decide +kernel) rfl, rfl⟩
theorem fk_X3_49 : FLk "Lastbus$Net" 49 3 2 := ⟨RX3, TX3, 15, rfl, by omega, inU_X3, lw_Uin (i := 320) (by decide +kernel) rfl, rfl⟩
theorem fk_X3_53 : FLk "Lastbus$Net" 53 3 3 := ⟨RX3, TX3, 15, rfl, by omega, inU_X3, lw_Uin (i := 321) (by decide +kernel) rfl, rfl⟩
theorem fk_X3_63 : FLk "Lastbus$Net" 63 3 4 := ⟨RX3, TX3, 15, rfl, by omega, inU_X3, lw_Uin (i := 322) (by decide +kernel) rfl, rfl⟩
theorem fk_X3_67 : FLk "Lastbus$Net" 67 3 11 := ⟨RX3, TX3, 15, rfl, by omega, inU_X3, lw_Uin (i := 343) (by decide +kernel) rfl, rfl⟩
theorem fk_X3_70 : FLk "Lastbus$Net" 70 9 0 := ⟨RX9, TX9, 6, rfl, by omega, inU_X9, lw_Uin (i := 201) (by decide +kernel) rfl, rfl⟩
theorem fk_X3_75 : FLk "Lastbus$Net" 75 9 1 := ⟨RX9, TX9, 6, rfl, by omega, inU_X9, lw_Uin (i := 206) (by decide +kernel) rfl, rfl⟩
theorem fk_X3_98 : FLk "Lastbus$Net" 98 9 2 := ⟨RX9, TX9, 6, rfl, by omega, inU_X9, lw_Uin (i := 211) (by decide +kernel) rfl, rfl⟩
theorem fk_X3_99 : FLk "Lastbus$Net" 99 9 3 := ⟨RX9, TX9, 6, rfl, by omega, inU_X9, lw_Uin (i := 216) (by decide +kernel) rfl, rfl⟩
theorem fk_X3_100 : FLk "Lastbus$Net" 100 9 4 := ⟨RX9, TX9, 6, rfl, by omega, inU_X9, lw_Uin (i := 221) (by decide +kernel) rfl, rfl⟩
theorem fk_X3_104 : FLk "Lastbus$Net" 104 9 5 := ⟨RX9, TX9, 6, rfl, by omega, inU_X9, lw_Uin (i := 226) (by decide +kernel) rfl, rfl⟩
theorem fk_X4_11 : FLk "Lastbus$Rounds" 11 4 2 := ⟨RX4, TX4, 9, rfl, by omega, inU_X4, lw_Uin (i := 452) (by decide +kernel) rfl, rfl⟩
theorem fk_X4_17 : FLk "Lastbus$Rounds" 17 4 5 := ⟨RX4, TX4, 9, rfl, by omega, inU_X4, lw_Uin (i := 458) (by decide +kernel) rfl, rfl⟩
theorem fk_X4_21 : FLk "Lastbus$Rounds" 21 4 6 := ⟨RX4, TX4, 9, rfl, by omega, inU_X4, lw_Uin (i := 460) (by decide +kernel) rfl, rfl⟩
theorem fk_X4_24 : FLk "Lastbus$Rounds" 24 4 7 := ⟨RX4, TX4, 9, rfl, by omega, inU_X4, lw_Uin (i := 462) (by decide +kernel) rfl, rfl⟩
theorem fk_X4_27 : FLk "Lastbus$Rounds" 27 4 8 := ⟨RX4, TX4, 9, rfl, by omega, inU_X4, lw_Uin (i := 464) (by decide +kernel) rfl, rfl⟩
theorem fk_X4_30 : FLk "Lastbus$Rounds" 30 4 0 := ⟨RX4, TX4, 9, rfl, by omega, inU_X4, lw_Uin (i := 450) (by decide +kernel) rfl, rfl⟩
theorem fk_X4_34 : FLk "Lastbus$Rounds" 34 4 1 := ⟨RX4, TX4, 9, rfl, by omega, inU_X4, lw_Uin (i := 451) (by decide +kernel) rfl, rfl⟩
theorem fk_X4_45 : FLk "Lastbus$Rounds" 45 4 3 := ⟨RX4, TX4, 9, rfl, by omega, inU_X4, lw_Uin (i := 454) (by decide +kernel) rfl, rfl⟩
theorem fk_X4_57 : FLk "Lastbus$Rounds" 57 3 4 := ⟨RX3, TX3, 15, rfl, by omega, inU_X3, lw_Uin (i := 323) (by decide +kernel) rfl, rfl⟩
theorem fk_X4_62 : FLk "Lastbus$Rounds" 62 3 7 := ⟨RX3, TX3, 15, rfl, by omega, inU_X3, lw_Uin (i := 332) (by decide +kernel) rfl, rfl⟩
theorem fk_X4_65 : FLk "Lastbus$Rounds" 65 3 8 := ⟨RX3, TX3, 15, rfl, by omega, inU_X3, lw_Uin (i := 335) (by decide +kernel) rfl, rfl⟩
theorem fk_X4_69 : FLk "Lastbus$Rounds" 69 3 9 := ⟨RX3, TX3, 15, rfl, by omega, inU_X3, lw_Uin (i := 338) (by decide +kernel) rfl, rfl⟩
theorem fk_X4_76 : FLk "Lastbus$Rounds" 76 3 10 := ⟨RX3, TX3, 15, rfl, by omega, inU_X3, lw_Uin (i := 341) (by decide +kernel) rfl, rfl⟩
theorem fk_X4_93 : FLk "Lastbus$Rounds" 93 4 4 := ⟨RX4, TX4, 9, rfl, by omega, inU_X4, lw_Uin (i := 456) (by decide +kernel) rfl, rfl⟩
theorem fk_X4_100 : FLk "Lastbus$Rounds" 100 3 5 := ⟨RX3, TX3, 15, rfl, by omega, inU_X3, lw_Uin (i := 327) (by decide +kernel) rfl, rfl⟩
theorem fk_X4_103 : FLk "Lastbus$Rounds" 103 3 6 := ⟨RX3, TX3, 15, rfl, by omega, inU_X3, lw_Uin (i := 330) (by decide +kernel) rfl, rfl⟩
theorem fk_X4_114 : FLk "Lastbus$Rounds" 114 8 1 := ⟨RX8, TX8, 5, rfl, by omega, inU_X8, lw_Uin (i := 153) (by decide +kernel) rfl, rfl⟩
theorem fk_X4_119 : FLk "Lastbus$Rounds" 119 8 3 := ⟨RX8, TX8, 5, rfl, by omega, inU_X8, lw_Uin (i := 162) (by decide +kernel) rfl, rfl⟩
theorem fk_X5_9 : FLk "Lastbus$Row" 9 5 0 := ⟨RX5, TX5, 10, rfl, by omega, inU_X5, lw_Uin (i := 272) (by decide +kernel) rfl, rfl⟩
theorem fk_X5_19 : FLk "Lastbus$Row" 19 5 5 := ⟨RX5, TX5, 10, rfl, by omega, inU_X5, lw_Uin (i := 281) (by decide +kernel) rfl, rfl⟩
theorem fk_X5_23 : FLk "Lastbus$Row" 23 5 6 := ⟨RX5, TX5, 10, rfl, by omega, inU_X5, lw_Uin (i := 283) (by decide +kernel) rfl, rfl⟩
theorem fk_X5_26 : FLk "Lastbus$Row" 26 5 7 := ⟨RX5, TX5, 10, rfl, by omega, inU_X5, lw_Uin (i := 285) (by decide +kernel) rfl, rfl⟩
theorem fk_X5_29 : FLk "Lastbus$Row" 29 5 1 := ⟨RX5, TX5, 10, rfl, by omega, inU_X5, lw_Uin (i := 273) (by decide +kernel) rfl, rfl⟩
theorem fk_X5_40 : FLk "Lastbus$Row" 40 5 8 := ⟨RX5, TX5, 10, rfl, by omega, inU_X5, lw_Uin (i := 287) (by decide +kernel) rfl, rfl⟩
theorem fk_X5_43 : FLk "Lastbus$Row" 43 5 4 := ⟨RX5, TX5, 10, rfl, by omega, inU_X5, lw_Uin (i := 279) (by decide +kernel) rfl, rfl⟩
theorem fk_X5_56 : FLk "Lastbus$Row" 56 5 9 := ⟨RX5, TX5, 10, rfl, by omega, inU_X5, lw_Uin (i := 288) (by decide +kernel) rfl, rfl⟩
theorem fk_X6_9 : FLk "Lastbus$Search" 9 6 3 := ⟨RX6, TX6, 10, rfl, by omega, inU_X6, lw_Uin (i := 410) (by decide +kernel) rfl, rfl⟩
theorem fk_X6_15 : FLk "Lastbus$Search" 15 6 4 := ⟨RX6, TX6, 10, rfl, by omega, inU_X6, lw_Uin (i := 411) (by decide +kernel) rfl, rfl⟩
theorem fk_X6_19 : FLk "Lastbus$Search" 19 6 5 := ⟨RX6, TX6, 10, rfl, by omega, inU_X6, lw_Uin (i := 412) (by decide +kernel) rfl, rfl⟩
theorem fk_X6_22 : FLk "Lastbus$Search" 22 6 6 := ⟨RX6, TX6, 10, rfl, by omega, inU_X6, lw_Uin (i := 413) (by decide +kernel) rfl, rfl⟩
theorem fk_X6_25 : FLk "Lastbus$Search" 25 6 8 := ⟨RX6, TX6, 10, rfl, by omega, inU_X6, lw_Uin (i := 416) (by decide +kernel) rfl, rfl⟩
theorem fk_X6_28 : FLk "Lastbus$Search" 28 6 9 := ⟨RX6, TX6, 10, rfl, by omega, inU_X6, lw_Uin (i := 418) (by decide +kernel) rfl, rfl⟩
theorem fk_X6_31 : FLk "Lastbus$Search" 31 6 0 := ⟨RX6, TX6, 10, rfl, by omega, inU_X6, lw_Uin (i := 406) (by decide +kernel) rfl, rfl⟩
theorem fk_X6_35 : FLk "Lastbus$Search" 35 6 1 := ⟨RX6, TX6, 10, rfl, by omega, inU_X6, lw_Uin (i := 407) (by decide +kernel) rfl, rfl⟩
theorem fk_X6_44 : FLk "Lastbus$Search" 44 6 2 := ⟨RX6, TX6, 10, rfl, by omega, inU_X6, lw_Uin (i := 408) (by decide +kernel) rfl, rfl⟩
theorem fk_X6_59 : FLk "Lastbus$Search" 59 3 4 := ⟨RX3, TX3, 15, rfl, by omega, inU_X3, lw_Uin (i := 324) (by decide +kernel) rfl, rfl⟩
theorem fk_X6_65 : FLk "Lastbus$Search" 65 3 5 := ⟨RX3, TX3, 15, rfl, by omega, inU_X3, lw_Uin (i := 326) (by decide +kernel) rfl, rfl⟩
theorem fk_X6_68 : FLk "Lastbus$Search" 68 3 6 := ⟨RX3, TX3, 15, rfl, by omega, inU_X3, lw_Uin (i := 329) (by decide +kernel) rfl, rfl⟩
theorem fk_X6_71 : FLk "Lastbus$Search" 71 3 7 := ⟨RX3, TX3, 15, rfl, by omega, inU_X3, lw_Uin (i := 333) (by decide +kernel) rfl, rfl⟩
theorem fk_X6_74 : FLk "Lastbus$Search" 74 3 8 := ⟨RX3, TX3, 15, rfl, by omega, inU_X3, lw_Uin (i := 336) (by decide +kernel) rfl, rfl⟩
theorem fk_X6_78 : FLk "Lastbus$Search" 78 3 9 := ⟨RX3, TX3, 15, rfl, by omega, inU_X3, lw_Uin (i := 339) (by decide +kernel) rfl, rfl⟩
theorem fk_X6_88 : FLk "Lastbus$Search" 88 3 11 := ⟨RX3, TX3, 15, rfl, by omega, inU_X3, lw_Uin (i := 344) (by decide +kernel) rfl, rfl⟩
theorem fk_X6_91 : FLk "Lastbus$Search" 91 3 12 := ⟨RX3, TX3, 15, rfl, by omega, inU_X3, lw_Uin (i := 346) (by decide +kernel) rfl, rfl⟩
theorem fk_X6_108 : FLk "Lastbus$Search" 108 8 3 := ⟨RX8, TX8, 5, rfl, by omega, inU_X8, lw_Uin (i := 160) (by decide +kernel) rfl, rfl⟩
theorem fk_X6_122 : FLk "Lastbus$Search" 122 8 0 := ⟨RX8, TX8, 5, rfl, by omega, inU_X8, lw_Uin (i := 149) (by decide +kernel) rfl, rfl⟩
theorem fk_X6_125 : FLk "Lastbus$Search" 125 3 13 := ⟨RX3, TX3, 15, rfl, by omega, inU_X3, lw_Uin (i := 348) (by decide +kernel) rfl, rfl⟩
theorem fk_X6_128 : FLk "Lastbus$Search" 128 3 10 := ⟨RX3, TX3, 15, rfl, by omega, inU_X3, lw_Uin (i := 342) (by decide +kernel) rfl, rfl⟩
theorem fk_X6_134 : FLk "Lastbus$Search" 134 8 1 := ⟨RX8, TX8, 5, rfl, by omega, inU_X8, lw_Uin (i := 155) (by decide +kernel) rfl, rfl⟩
theorem fk_X6_147 : FLk "Lastbus$Search" 147 2 2 := ⟨RX2, TX2, 3, rfl, by omega, inU_X2, lw_Uin (i := 397) (by decide +kernel) rfl, rfl⟩
theorem fk_X6_150 : FLk "Lastbus$Search" 150 2 1 := ⟨RX2, TX2, 3, rfl, by omega, inU_X2, lw_Uin (i := 395) (by decide +kernel) rfl, rfl⟩
theorem fk_X6_154 : FLk "Lastbus$Search" 154 6 7 := ⟨RX6, TX6, 10, rfl, by omega, inU_X6, lw_Uin (i := 414) (by decide +kernel) rfl, rfl⟩
theorem fk_X7_9 : FLk "Lastbus$Services" 9 7 1 := ⟨RX7, TX7, 2, rfl, by omega, inU_X7, lw_Uin (i := 185) (by decide +kernel) rfl, rfl⟩
theorem fk_X7_15 : FLk "Lastbus$Services" 15 7 0 := ⟨RX7, TX7, 2, rfl, by omega, inU_X7, lw_Uin (i := 183) (by decide +kernel) rfl, rfl⟩
theorem fk_X8_9 : FLk "Lastbus$Stops" 9 8 1 := ⟨RX8, TX8, 5, rfl, by omega, inU_X8, lw_Uin (i := 150) (by decide +kernel) rfl, rfl⟩
theorem fk_X8_17 : FLk "Lastbus$Stops" 17 8 2 := ⟨RX8, TX8, 5, rfl, by omega, inU_X8, lw_Uin (i := 156) (by decide +kernel) rfl, rfl⟩
theorem fk_X8_20 : FLk "Lastbus$Stops" 20 8 3 := ⟨RX8, TX8, 5, rfl, by omega, inU_X8, lw_Uin (i := 158) (by decide +kernel) rfl, rfl⟩
theorem fk_X8_23 : FLk "Lastbus$Stops" 23 8 4 := ⟨RX8, TX8, 5, rfl, by omega, inU_X8, lw_Uin (i := 163) (by decide +kernel) rfl, rfl⟩
theorem fk_X8_27 : FLk "Lastbus$Stops" 27 8 0 := ⟨RX8, TX8, 5, rfl, by omega, inU_X8, lw_Uin (i := 146) (by decide +kernel) rfl, rfl⟩
theorem fk_X9_9 : FLk "Lastbus$Trips" 9 9 1 := ⟨RX9, TX9, 6, rfl, by omega, inU_X9, lw_Uin (i := 204) (by decide +kernel) rfl, rfl⟩
theorem fk_X9_15 : FLk "Lastbus$Trips" 15 9 2 := ⟨RX9, TX9, 6, rfl, by omega, inU_X9, lw_Uin (i := 209) (by decide +kernel) rfl, rfl⟩
theorem fk_X9_20 : FLk "Lastbus$Trips" 20 9 3 := ⟨RX9, TX9, 6, rfl, by omega, inU_X9, lw_Uin (i := 214) (by decide +kernel) rfl, rfl⟩
theorem fk_X9_23 : FLk "Lastbus$Trips" 23 9 4 := ⟨RX9, TX9, 6, rfl, by omega, inU_X9, lw_Uin (i := 219) (by decide +kernel) rfl, rfl⟩
theorem fk_X9_26 : FLk "Lastbus$Trips" 26 9 5 := ⟨RX9, TX9, 6, rfl, by omega, inU_X9, lw_Uin (i := 224) (by decide +kernel) rfl, rfl⟩
theorem fk_X9_29 : FLk "Lastbus$Trips" 29 9 0 := ⟨RX9, TX9, 6, rfl, by omega, inU_X9, lw_Uin (i := 199) (by decide +kernel) rfl, rfl⟩
theorem fk_X10_9 : FLk "Lastbus$Wishes" 9 10 5 := ⟨RX10, TX10, 11, rfl, by omega, inU_X10, lw_Uin (i := 498) (by decide +kernel) rfl, rfl⟩
theorem fk_X10_15 : FLk "Lastbus$Wishes" 15 10 6 := ⟨RX10, TX10, 11, rfl, by omega, inU_X10, lw_Uin (i := 499) (by decide +kernel) rfl, rfl⟩
theorem fk_X10_18 : FLk "Lastbus$Wishes" 18 10 7 := ⟨RX10, TX10, 11, rfl, by omega, inU_X10, lw_Uin (i := 500) (by decide +kernel) rfl, rfl⟩
theorem fk_X10_21 : FLk "Lastbus$Wishes" 21 10 8 := ⟨RX10, TX10, 11, rfl, by omega, inU_X10, lw_Uin (i := 501) (by decide +kernel) rfl, rfl⟩
theorem fk_X10_24 : FLk "Lastbus$Wishes" 24 10 9 := ⟨RX10, TX10, 11, rfl, by omega, inU_X10, lw_Uin (i := 502) (by decide +kernel) rfl, rfl⟩
theorem fk_X10_29 : FLk "Lastbus$Wishes" 29 10 10 := ⟨RX10, TX10, 11, rfl, by omega, inU_X10, lw_Uin (i := 503) (by decide +kernel) rfl, rfl⟩
theorem fk_X10_32 : FLk "Lastbus$Wishes" 32 10 0 := ⟨RX10, TX10, 11, rfl, by omega, inU_X10, lw_Uin (i := 492) (by decide +kernel) rfl, rfl⟩
theorem fk_X10_36 : FLk "Lastbus$Wishes" 36 10 1 := ⟨RX10, TX10, 11, rfl, by omega, inU_X10, lw_Uin (i := 493) (by decide +kernel) rfl, rfl⟩
theorem fk_X10_40 : FLk "Lastbus$Wishes" 40 10 2 := ⟨RX10, TX10, 11, rfl, by omega, inU_X10, lw_Uin (i := 494) (by decide +kernel) rfl, rfl⟩
theorem fk_X10_44 : FLk "Lastbus$Wishes" 44 10 3 := ⟨RX10, TX10, 11, rfl, by omega, inU_X10, lw_Uin (i := 495) (by decide +kernel) rfl, rfl⟩
theorem fk_X10_48 : FLk "Lastbus$Wishes" 48 10 4 := ⟨RX10, TX10, 11, rfl, by omega, inU_X10, lw_Uin (i := 496) (by decide +kernel) rfl, rfl⟩
theorem fk_X10_52 : FLk "Lastbus$Wishes" 52 9 1 := ⟨RX9, TX9, 6, rfl, by omega, inU_X9, lw_Uin (i := 207) (by decide +kernel) rfl, rfl⟩
theorem fk_X10_74 : FLk "Lastbus$Wishes" 74 9 0 := ⟨RX9, TX9, 6, rfl, by omega, inU_X9, lw_Uin (i := 202) (by decide +kernel) rfl, rfl⟩
theorem fk_X10_81 : FLk "Lastbus$Wishes" 81 9 2 := ⟨RX9, TX9, 6, rfl, by omega, inU_X9, lw_Uin (i := 212) (by decide +kernel) rfl, rfl⟩
theorem fk_X10_103 : FLk "Lastbus$Wishes" 103 9 4 := ⟨RX9, TX9, 6, rfl, by omega, inU_X9, lw_Uin (i := 222) (by decide +kernel) rfl, rfl⟩
theorem fk_X10_106 : FLk "Lastbus$Wishes" 106 9 5 := ⟨RX9, TX9, 6, rfl, by omega, inU_X9, lw_Uin (i := 227) (by decide +kernel) rfl, rfl⟩
theorem fk_X10_109 : FLk "Lastbus$Wishes" 109 8 1 := ⟨RX8, TX8, 5, rfl, by omega, inU_X8, lw_Uin (i := 154) (by decide +kernel) rfl, rfl⟩
theorem fk_X10_114 : FLk "Lastbus$Wishes" 114 9 3 := ⟨RX9, TX9, 6, rfl, by omega, inU_X9, lw_Uin (i := 217) (by decide +kernel) rfl, rfl⟩
theorem fk_X12_9 : FLk "LastbusModel" 9 12 2 := ⟨RX12, TX12, 50, rfl, by omega, inU_X12, lw_Uin (i := 1643) (by decide +kernel) rfl, rfl⟩
theorem fk_X12_13 : FLk "LastbusModel" 13 12 3 := ⟨RX12, TX12, 50, rfl, by omega, inU_X12, lw_Uin (i := 1644) (by decide +kernel) rfl, rfl⟩
theorem fk_X12_16 : FLk "LastbusModel" 16 12 4 := ⟨RX12, TX12, 50, rfl, by omega, inU_X12, lw_Uin (i := 1645) (by decide +kernel) rfl, rfl⟩
theorem fk_X12_19 : FLk "LastbusModel" 19 12 5 := ⟨RX12, TX12, 50, rfl, by omega, inU_X12, lw_Uin (i := 1646) (by decide +kernel) rfl, rfl⟩
theorem fk_X12_23 : FLk "LastbusModel" 23 12 7 := ⟨RX12, TX12, 50, rfl, by omega, inU_X12, lw_Uin (i := 1648) (by decide +kernel) rfl, rfl⟩
theorem fk_X12_27 : FLk "LastbusModel" 27 12 9 := ⟨RX12, TX12, 50, rfl, by omega, inU_X12, lw_Uin (i := 1650) (by decide +kernel) rfl, rfl⟩
theorem fk_X12_30 : FLk "LastbusModel" 30 12 10 := ⟨RX12, TX12, 50, rfl, by omega, inU_X12, lw_Uin (i := 1651) (by decide +kernel) rfl, rfl⟩
theorem fk_X12_33 : FLk "LastbusModel" 33 12 11 := ⟨RX12, TX12, 50, rfl, by omega, inU_X12, lw_Uin (i := 1652) (by decide +kernel) rfl, rfl⟩
theorem fk_X12_36 : FLk "LastbusModel" 36 12 12 := ⟨RX12, TX12, 50, rfl, by omega, inU_X12, lw_Uin (i := 1653) (by decide +kernel) rfl, rfl⟩
theorem fk_X12_39 : FLk "LastbusModel" 39 12 13 := ⟨RX12, TX12, 50, rfl, by omega, inU_X12, lw_Uin (i := 1654) (by decide +kernel) rfl, rfl⟩
theorem fk_X12_42 : FLk "LastbusModel" 42 12 15 := ⟨RX12, TX12, 50, rfl, by omega, inU_X12, lw_Uin (i := 1656) (by decide +kernel) rfl, rfl⟩
theorem fk_X12_45 : FLk "LastbusModel" 45 12 16 := ⟨RX12, TX12, 50, rfl, by omega, inU_X12, lw_Uin (i := 1657) (by decide +kernel) rfl, rfl⟩
theorem fk_X12_48 : FLk "LastbusModel" 48 12 17 := ⟨RX12, TX12, 50, rfl, by omega, inU_X12, lw_Uin (i := 1658) (by decide +kernel) rfl, rfl⟩
theorem fk_X12_51 : FLk "LastbusModel" 51 12 18 := ⟨RX12, TX12, 50, rfl, by omega, inU_X12, lw_Uin (i := 1659) (by decide +kernel) rfl, rfl⟩
theorem fk_X12_54 : FLk "LastbusModel" 54 12 20 := ⟨RX12, TX12, 50, rfl, by omega, inU_X12, lw_Uin (i := 1661) (by decide +kernel) rfl, rfl⟩
theorem fk_X12_57 : FLk "LastbusModel" 57 12 21 := ⟨RX12, TX12, 50, rfl, by omega, inU_X12, lw_Uin (i := 1662) (by decide +kernel) rfl, rfl⟩
theorem fk_X12_60 : FLk "LastbusModel" 60 12 23 := ⟨RX12, TX12, 50, rfl, by omega, inU_X12, lw_Uin (i := 1664) (by decide +kernel) rfl, rfl⟩
theorem fk_X12_63 : FLk "LastbusModel" 63 12 24 := ⟨RX12, TX12, 50, rfl, by omega, inU_X12, lw_Uin (i := 1665) (by decide +kernel) rfl, rfl⟩
theorem fk_X12_66 : FLk "LastbusModel" 66 12 26 := ⟨RX12, TX12, 50, rfl, by omega, inU_X12, lw_Uin (i := 1667) (by decide +kernel) rfl, rfl⟩
theorem fk_X12_69 : FLk "LastbusModel" 69 12 27 := ⟨RX12, TX12, 50, rfl, by omega, inU_X12, lw_Uin (i := 1668) (by decide +kernel) rfl, rfl⟩
theorem fk_X12_72 : FLk "LastbusModel" 72 12 29 := ⟨RX12, TX12, 50, rfl, by omega, inU_X12, lw_Uin (i := 1670) (by decide +kernel) rfl, rfl⟩
theorem fk_X12_75 : FLk "LastbusModel" 75 12 30 := ⟨RX12, TX12, 50, rfl, by omega, inU_X12, lw_Uin (i := 1671) (by decide +kernel) rfl, rfl⟩
theorem fk_X12_78 : FLk "LastbusModel" 78 12 31 := ⟨RX12, TX12, 50, rfl, by omega, inU_X12, lw_Uin (i := 1672) (by decide +kernel) rfl, rfl⟩
theorem fk_X12_81 : FLk "LastbusModel" 81 12 32 := ⟨RX12, TX12, 50, rfl, by omega, inU_X12, lw_Uin (i := 1673) (by decide +kernel) rfl, rfl⟩
theorem fk_X12_84 : FLk "LastbusModel" 84 12 34 := ⟨RX12, TX12, 50, rfl, by omega, inU_X12, lw_Uin (i := 1675) (by decide +kernel) rfl, rfl⟩
theorem fk_X12_87 : FLk "LastbusModel" 87 12 35 := ⟨RX12, TX12, 50, rfl, by omega, inU_X12, lw_Uin (i := 1676) (by decide +kernel) rfl, rfl⟩
theorem fk_X12_90 : FLk "LastbusModel" 90 12 37 := ⟨RX12, TX12, 50, rfl, by omega, inU_X12, lw_Uin (i := 1678) (by decide +kernel) rfl, rfl⟩
theorem fk_X12_93 : FLk "LastbusModel" 93 12 38 := ⟨RX12, TX12, 50, rfl, by omega, inU_X12, lw_Uin (i := 1679) (by decide +kernel) rfl, rfl⟩
theorem fk_X12_96 : FLk "LastbusModel" 96 12 39 := ⟨RX12, TX12, 50, rfl, by omega, inU_X12, lw_Uin (i := 1680) (by decide +kernel) rfl, rfl⟩
theorem fk_X12_99 : FLk "LastbusModel" 99 12 40 := ⟨RX12, TX12, 50, rfl, by omega, inU_X12, lw_Uin (i := 1681) (by decide +kernel) rfl, rfl⟩
theorem fk_X12_102 : FLk "LastbusModel" 102 12 41 := ⟨RX12, TX12, 50, rfl, by omega, inU_X12, lw_Uin (i := 1682) (by decide +kernel) rfl, rfl⟩
theorem fk_X12_105 : FLk "LastbusModel" 105 12 42 := ⟨RX12, TX12, 50, rfl, by omega, inU_X12, lw_Uin (i := 1683) (by decide +kernel) rfl, rfl⟩
theorem fk_X12_108 : FLk "LastbusModel" 108 12 43 := ⟨RX12, TX12, 50, rfl, by omega, inU_X12, lw_Uin (i := 1684) (by decide +kernel) rfl, rfl⟩
theorem fk_X12_111 : FLk "LastbusModel" 111 12 44 := ⟨RX12, TX12, 50, rfl, by omega, inU_X12, lw_Uin (i := 1685) (by decide +kernel) rfl, rfl⟩
theorem fk_X12_114 : FLk "LastbusModel" 114 12 46 := ⟨RX12, TX12, 50, rfl, by omega, inU_X12, lw_Uin (i := 1687) (by decide +kernel) rfl, rfl⟩
theorem fk_X12_117 : FLk "LastbusModel" 117 12 47 := ⟨RX12, TX12, 50, rfl, by omega, inU_X12, lw_Uin (i := 1688) (by decide +kernel) rfl, rfl⟩
theorem fk_X12_120 : FLk "LastbusModel" 120 12 0 := ⟨RX12, TX12, 50, rfl, by omega, inU_X12, lw_Uin (i := 1641) (by decide +kernel) rfl, rfl⟩
theorem fk_X12_123 : FLk "LastbusModel" 123 12 1 := ⟨RX12, TX12, 50, rfl, by omega, inU_X12, lw_Uin (i := 1642) (by decide +kernel) rfl, rfl⟩
theorem fk_X12_134 : FLk "LastbusModel" 134 12 6 := ⟨RX12, TX12, 50, rfl, by omega, inU_X12, lw_Uin (i := 1647) (by decide +kernel) rfl, rfl⟩
theorem fk_X12_137 : FLk "LastbusModel" 137 12 8 := ⟨RX12, TX12, 50, rfl, by omega, inU_X12, lw_Uin (i := 1649) (by decide +kernel) rfl, rfl⟩
theorem fk_X12_172 : FLk "LastbusModel" 172 12 19 := ⟨RX12, TX12, 50, rfl, by omega, inU_X12, lw_Uin (i := 1660) (by decide +kernel) rfl, rfl⟩
theorem fk_X12_175 : FLk "LastbusModel" 175 12 45 := ⟨RX12, TX12, 50, rfl, by omega, inU_X12, lw_Uin (i := 1686) (by decide +kernel) rfl, rfl⟩
theorem fk_X12_188 : FLk "LastbusModel" 188 12 14 := ⟨RX12, TX12, 50, rfl, by omega, inU_X12, lw_Uin (i := 1655) (by decide +kernel) rfl, rfl⟩
theorem fk_X12_198 : FLk "LastbusModel" 198 12 22 := ⟨RX12, TX12, 50, rfl, by omega, inU_X12, lw_Uin (i := 1663) (by decide +kernel) rfl, rfl⟩
theorem fk_X12_204 : FLk "LastbusModel" 204 12 25 := ⟨RX12, TX12, 50, rfl, by omega, inU_X12, lw_Uin (i := 1666) (by decide +kernel) rfl, rfl⟩
theorem fk_X12_250 : FLk "LastbusModel" 250 12 28 := ⟨RX12, TX12, 50, rfl, by omega, inU_X12, lw_Uin (i := 1669) (by decide +kernel) rfl, rfl⟩
theorem fk_X12_262 : FLk "LastbusModel" 262 12 48 := ⟨RX12, TX12, 50, rfl, by omega, inU_X12, lw_Uin (i := 1689) (by decide +kernel) rfl, rfl⟩
theorem fk_X12_265 : FLk "LastbusModel" 265 12 49 := ⟨RX12, TX12, 50, rfl, by omega, inU_X12, lw_Uin (i := 1690) (by decide +kernel) rfl, rfl⟩
theorem fk_X12_279 : FLk "LastbusModel" 279 12 33 := ⟨RX12, TX12, 50, rfl, by omega, inU_X12, lw_Uin (i := 1674) (by decide +kernel) rfl, rfl⟩
theorem fk_X12_297 : FLk "LastbusModel" 297 12 36 := ⟨RX12, TX12, 50, rfl, by omega, inU_X12, lw_Uin (i := 1677) (by decide +kernel) rfl, rfl⟩
theorem fp_X11_268 : FPk "Lastbus" 268 0 0 .int := ⟨RX0, TX0, 5, tyX0, rfl, by omega, inU_X0, lw_Uin (i := 249) (by decide +kernel) rfl, rfl, tyX0_ok, nmX0, rfl, by decide +kernel⟩
theorem fp_X11_383 : FPk "Lastbus" 383 10 4 .int := ⟨RX10, TX10, 11, tyX10, rfl, by omega, inU_X10, lw_Uin (i := 497) (by decide +kernel) rfl, rfl, tyX10_ok, nmX10, rfl, by decide +kernel⟩
theorem fp_X0_24 : FPk "Lastbus$Delays" 24 0 0 .int := ⟨RX0, TX0, 5, tyX0, rfl, by omega, inU_X0, lw_Uin (i := 248) (by decide +kernel) rfl, rfl, tyX0_ok, nmX0, rfl, by decide +kernel⟩
theorem fp_X1_42 : FPk "Lastbus$Fleet" 42 1 0 .int := ⟨RX1, TX1, 11, tyX1, rfl, by omega, inU_X1, lw_Uin (i := 533) (by decide +kernel) rfl, rfl, tyX1_ok, nmX1, rfl, by decide +kernel⟩
theorem fp_X3_63 : FPk "Lastbus$Net" 63 3 4 .int := ⟨RX3, TX3, 15, tyX3, rfl, by omega, inU_X3, lw_Uin (i := 322) (by decide +kernel) rfl, rfl, tyX3_ok, nmX3, rfl, by decide +kernel⟩
theorem fp_X3_67 : FPk "Lastbus$Net" 67 3 11 .int := ⟨RX3, TX3, 15, tyX3, rfl, by omega, inU_X3, lw_Uin (i := 343) (by decide +kernel) rfl, rfl, tyX3_ok, nmX3, rfl, by decide +kernel⟩
theorem fp_X4_45 : FPk "Lastbus$Rounds" 45 4 3 .int := ⟨RX4, TX4, 9, tyX4, rfl, by omega, inU_X4, lw_Uin (i := 454) (by decide +kernel) rfl, rfl, tyX4_ok, nmX4, rfl, by decide +kernel⟩
theorem fp_X4_93 : FPk "Lastbus$Rounds" 93 4 4 .int := ⟨RX4, TX4, 9, tyX4, rfl, by omega, inU_X4, lw_Uin (i := 456) (by decide +kernel) rfl, rfl, tyX4_ok, nmX4, rfl, by decide +kernel⟩
theorem fp_X5_15 : FPk "Lastbus$Row" 15 5 2 .int := ⟨RX5, TX5, 10, tyX5, rfl, by omega, inU_X5, lw_Uin (i := 275) (by decide +kernel) rfl, rfl, tyX5_ok, nmX5, rfl, by decide +kernel⟩
theorem fp_X5_29 : FPk "Lastbus$Row" 29 5 1 .int := ⟨RX5, TX5, 10, tyX5, rfl, by omega, inU_X5, lw_Uin (i := 273) (by decide +kernel) rfl, rfl, tyX5_ok, nmX5, rfl, by decide +kernel⟩
theorem fp_X5_40 : FPk "Lastbus$Row" 40 5 8 .int := ⟨RX5, TX5, 10, tyX5, rfl, by omega, inU_X5, lw_Uin (i := 287) (by decide +kernel) rfl, rfl, tyX5_ok, nmX5, rfl, by decide +kernel⟩
theorem fp_X5_43 : FPk "Lastbus$Row" 43 5 4 .int := ⟨RX5, TX5, 10, tyX5, rfl, by omega, inU_X5, lw_Uin (i := 279) (by decide +kernel) rfl, rfl, tyX5_ok, nmX5, rfl, by decide +kernel⟩
theorem fp_X5_56 : FPk "Lastbus$Row" 56 5 9 .int := ⟨RX5, TX5, 10, tyX5, rfl, by omega, inU_X5, lw_Uin (i := 288) (by decide +kernel) rfl, rfl, tyX5_ok, nmX5, rfl, by decide +kernel⟩
theorem fp_X5_59 : FPk "Lastbus$Row" 59 5 3 .int := ⟨RX5, TX5, 10, tyX5, rfl, by omega, inU_X5, lw_Uin (i := 277) (by decide +kernel) rfl, rfl, tyX5_ok, nmX5, rfl, by decide +kernel⟩
theorem fp_X6_154 : FPk "Lastbus$Search" 154 6 7 .int := ⟨RX6, TX6, 10, tyX6, rfl, by omega, inU_X6, lw_Uin (i := 414) (by decide +kernel) rfl, rfl, tyX6_ok, nmX6, rfl, by decide +kernel⟩
theorem fp_X7_15 : FPk "Lastbus$Services" 15 7 0 .int := ⟨RX7, TX7, 2, tyX7, rfl, by omega, inU_X7, lw_Uin (i := 183) (by decide +kernel) rfl, rfl, tyX7_ok, nmX7, rfl, by decide +kernel⟩
theorem fp_X8_23 : FPk "Lastbus$Stops" 23 8 4 .int := ⟨RX8, TX8, 5, tyX8, rfl, by omega, inU_X8, lw_Uin (i := 163) (by decide +kernel) rfl, rfl, tyX8_ok, nmX8, rfl, by decide +kernel⟩
theorem fp_X8_27 : FPk "Lastbus$Stops" 27 8 0 .int := ⟨RX8, TX8, 5, tyX8, rfl, by omega, inU_X8, lw_Uin (i := 146) (by decide +kernel) rfl, rfl, tyX8_ok, nmX8, rfl, by decide +kernel⟩
theorem fp_X9_29 : FPk "Lastbus$Trips" 29 9 0 .int := ⟨RX9, TX9, 6, tyX9, rfl, by omega, inU_X9, lw_Uin (i := 199) (by decide +kernel) rfl, rfl, tyX9_ok, nmX9, rfl, by decide +kernel⟩
theorem fp_X10_48 : FPk "Lastbus$Wishes" 48 10 4 .int := ⟨RX10, TX10, 11, tyX10, rfl, by omega, inU_X10, lw_Uin (i := 496) (by decide +kernel) rfl, rfl, tyX10_ok, nmX10, rfl, by decide +kernel⟩
theorem fp_X12_19 : FPk "LastbusModel" 19 12 5 .int := ⟨RX12, TX12, 50, tyX12, rfl, by omega, inU_X12, lw_Uin (i := 1646) (by decide +kernel) rfl, rfl, tyX12_ok, nmX12, rfl, by decide +kernel⟩
theorem fp_X12_57 : FPk "LastbusModel" 57 12 21 .int := ⟨RX12, TX12, 50, tyX12, rfl, by omega, inU_X12, lw_Uin (i := 1662) (by decide +kernel) rfl, rfl, tyX12_ok, nmX12, rfl, by decide +kernel⟩
theorem fp_X12_72 : FPk "LastbusModel" 72 12 29 .int := ⟨RX12, TX12, 50, tyX12, rfl, by omega, inU_X12, lw_Uin (i := 1670) (by decide +kernel) rfl, rfl, tyX12_ok, nmX12, rfl, by decide +kernel⟩
theorem fp_X12_120 : FPk "LastbusModel" 120 12 0 .int := ⟨RX12, TX12, 50, tyX12, rfl, by omega, inU_X12, lw_Uin (i := 1641) (by decide +kernel) rfl, rfl, tyX12_ok, nmX12, rfl, by decide +kernel⟩
theorem fp_X12_123 : FPk "LastbusModel" 123 12 1 .int := ⟨RX12, TX12, 50, tyX12, rfl, by omega, inU_X12, lw_Uin (i := 1642) (by decide +kernel) rfl, rfl, tyX12_ok, nmX12, rfl, by decide +kernel⟩
theorem fp_X12_134 : FPk "LastbusModel" 134 12 6 .int := ⟨RX12, TX12, 50, tyX12, rfl, by omega, inU_X12, lw_Uin (i := 1647) (by decide +kernel) rfl, rfl, tyX12_ok, nmX12, rfl, by decide +kernel⟩
theorem fp_X12_137 : FPk "LastbusModel" 137 12 8 .int := ⟨RX12, TX12, 50, tyX12, rfl, by omega, inU_X12, lw_Uin (i := 1649) (by decide +kernel) rfl, rfl, tyX12_ok, nmX12, rfl, by decide +kernel⟩
theorem fp_X12_172 : FPk "LastbusModel" 172 12 19 .int := ⟨RX12, TX12, 50, tyX12, rfl, by omega, inU_X12, lw_Uin (i := 1660) (by decide +kernel) rfl, rfl, tyX12_ok, nmX12, rfl, by decide +kernel⟩
theorem fp_X12_175 : FPk "LastbusModel" 175 12 45 .int := ⟨RX12, TX12, 50, tyX12, rfl, by omega, inU_X12, lw_Uin (i := 1686) (by decide +kernel) rfl, rfl, tyX12_ok, nmX12, rfl, by decide +kernel⟩
theorem fp_X12_188 : FPk "LastbusModel" 188 12 14 .int := ⟨RX12, TX12, 50, tyX12, rfl, by omega, inU_X12, lw_Uin (i := 1655) (by decide +kernel) rfl, rfl, tyX12_ok, nmX12, rfl, by decide +kernel⟩
theorem fp_X12_198 : FPk "LastbusModel" 198 12 22 .int := ⟨RX12, TX12, 50, tyX12, rfl, by omega, inU_X12, lw_Uin (i := 1663) (by decide +kernel) rfl, rfl, tyX12_ok, nmX12, rfl, by decide +kernel⟩
theorem fp_X12_204 : FPk "LastbusModel" 204 12 25 .boolean := ⟨RX12, TX12, 50, tyX12, rfl, by omega, inU_X12, lw_Uin (i := 1666) (by decide +kernel) rfl, rfl, tyX12_ok, nmX12, rfl, by decide +kernel⟩
theorem fp_X12_250 : FPk "LastbusModel" 250 12 28 .int := ⟨RX12, TX12, 50, tyX12, rfl, by omega, inU_X12, lw_Uin (i := 1669) (by decide +kernel) rfl, rfl, tyX12_ok, nmX12, rfl, by decide +kernel⟩
theorem fp_X12_262 : FPk "LastbusModel" 262 12 48 .int := ⟨RX12, TX12, 50, tyX12, rfl, by omega, inU_X12, lw_Uin (i := 1689) (by decide +kernel) rfl, rfl, tyX12_ok, nmX12, rfl, by decide +kernel⟩
theorem fp_X12_265 : FPk "LastbusModel" 265 12 49 .int := ⟨RX12, TX12, 50, tyX12, rfl, by omega, inU_X12, lw_Uin (i := 1690) (by decide +kernel) rfl, rfl, tyX12_ok, nmX12, rfl, by decide +kernel⟩
theorem fp_X12_279 : FPk "LastbusModel" 279 12 33 .int := ⟨RX12, TX12, 50, tyX12, rfl, by omega, inU_X12, lw_Uin (i := 1674) (by decide +kernel) rfl, rfl, tyX12_ok, nmX12, rfl, by decide +kernel⟩
theorem fp_X12_297 : FPk "LastbusModel" 297 12 36 .int := ⟨RX12, TX12, 50, tyX12, rfl, by omega, inU_X12, lw_Uin (i := 1677) (by decide +kernel) rfl, rfl, tyX12_ok, nmX12, rfl, by decide +kernel⟩
set_option maxRecDepth 100000 in
theorem cd_X11_needNumber : Cond.code yX11_needNumber cX11_needNumber 3 none ∈ lw_U := lw_Uin (i := 658) (rfl) rfl
theorem cw_X11_88 : CSk "Lastbus" 88 yX11_needNumber cX11_needNumber 3 none 3 := ⟨lw_Uin (i := 656) (by decide +kernel) rfl, lw_Uin (i := 657) (by decide +kernel) rfl, lw_Uin (i := 103) (by decide +kernel) rfl, cd_X11_needNumber, ⟨by decide +kernel, by decide +kernel, by decide +kernel⟩⟩
set_option maxRecDepth 100000 in
theorem cd_X8_add : Cond.code yX8_add cX8_add 2 (some .int) ∈ lw_U := lw_Uin (i := 750) (rfl) rfl
theorem cw_X11_103 : CVk "Lastbus" 103 yX8_add cX8_add 2 (some .int) 1 := ⟨lw_Uin (i := 747) (by decide +kernel) rfl, lw_Uin (i := 748) (by decide +kernel) rfl, lw_Uin (i := 749) (by decide +kernel) rfl, lw_Uin (i := 104) (by decide +kernel) rfl, cd_X8_add, ⟨by decide +kernel, by decide +kernel, by decide +kernel⟩⟩
set_option maxRecDepth 100000 in
theorem cd_X11_needStop : Cond.code yX11_needStop cX11_needStop 2 none ∈ lw_U := lw_Uin (i := 785) (rfl) rfl
theorem cw_X11_107 : CVk "Lastbus" 107 yX11_needStop cX11_needStop 2 none 1 := ⟨lw_Uin (i := 782) (by decide +kernel) rfl, lw_Uin (i := 784) (by decide +kernel) rfl, lw_Uin (i := 1) (by decide +kernel) rfl, lw_Uin (i := 103) (by decide +kernel) rfl, cd_X11_needStop, ⟨by decide +kernel, by decide +kernel, by decide +kernel⟩⟩
set_option maxRecDepth 100000 in
theorem cd_X11_needUnlike : Cond.code yX11_needUnlike cX11_needUnlike 2 none ∈ lw_U := lw_Uin (i := 812) (rfl) rfl
theorem cw_X11_115 : CSk "Lastbus" 115 yX11_needUnlike cX11_needUnlike 2 none 2 := ⟨lw_Uin (i := 810) (by decide +kernel) rfl, lw_Uin (i := 811) (by decide +kernel) rfl, lw_Uin (i := 103) (by decide +kernel) rfl, cd_X11_needUnlike, ⟨by decide +kernel, by decide +kernel, by decide +kernel⟩⟩
set_option maxRecDepth 100000 in
theorem cd_X8_link : Cond.code yX8_link cX8_link 5 none ∈ lw_U := lw_Uin (i := 825) (rfl) rfl
theorem cw_X11_122 : CVk "Lastbus" 122 yX8_link cX8_link 5 none 1 := ⟨lw_Uin (i := 822) (by decide +kernel) rfl, lw_Uin (i := 823) (by decide +kernel) rfl, lw_Uin (i := 824) (by decide +kernel) rfl, lw_Uin (i := 104) (by decide +kernel) rfl, cd_X8_link, ⟨by decide +kernel, by decide +kernel, by decide +kernel⟩⟩
set_option maxRecDepth 100000 in
theorem cd_X11_needFound : Cond.code yX11_needFound cX11_needFound 1 none ∈ lw_U := lw_Uin (i := 833) (rfl) rfl
theorem cw_X11_128 : CSk "Lastbus" 128 yX11_needFound cX11_needFound 1 none 1 := ⟨lw_Uin (i := 831) (by decide +kernel) rfl, lw_Uin (i := 832) (by decide +kernel) rfl, lw_Uin (i := 103) (by decide +kernel) rfl, cd_X11_needFound, ⟨by decide +kernel, by decide +kernel, by decide +kernel⟩⟩
set_option maxRecDepth 100000 in
theorem cd_X7_add : Cond.code yX7_add cX7_add 1 (some .int) ∈ lw_U := lw_Uin (i := 862) (rfl) rfl
theorem cw_X11_134 : CVk "Lastbus" 134 yX7_add cX7_add 1 (some .int) 0 := ⟨lw_Uin (i := 859) (by decide +kernel) rfl, lw_Uin (i := 860) (by decide +kernel) rfl, lw_Uin (i := 861) (by decide +kernel) rfl, lw_Uin (i := 105) (by decide +kernel) rfl, cd_X7_add, ⟨by decide +kernel, by decide +kernel, by decide +kernel⟩⟩
set_option maxRecDepth 100000 in
theorem cd_X11_needService : Cond.code yX11_needService cX11_needService 2 none ∈ lw_U := lw_Uin (i := 873) (rfl) rfl
theorem cw_X11_137 : CVk "Lastbus" 137 yX11_needService cX11_needService 2 none 1 := ⟨lw_Uin (i := 870) (by decide +kernel) rfl, lw_Uin (i := 872) (by decide +kernel) rfl, lw_Uin (i := 3) (by decide +kernel) rfl, lw_Uin (i := 103) (by decide +kernel) rfl, cd_X11_needService, ⟨by decide +kernel, by decide +kernel, by decide +kernel⟩⟩
set_option maxRecDepth 100000 in
theorem cd_X11_needDay : Cond.code yX11_needDay cX11_needDay 1 none ∈ lw_U := lw_Uin (i := 881) (rfl) rfl
theorem cw_X11_140 : CSk "Lastbus" 140 yX11_needDay cX11_needDay 1 none 1 := ⟨lw_Uin (i := 879) (by decide +kernel) rfl, lw_Uin (i := 880) (by decide +kernel) rfl, lw_Uin (i := 103) (by decide +kernel) rfl, cd_X11_needDay, ⟨by decide +kernel, by decide +kernel, by decide +kernel⟩⟩
set_option maxRecDepth 100000 in
theorem cd_X7_put : Cond.code yX7_put cX7_put 5 none ∈ lw_U := lw_Uin (i := 886) (rfl) rfl
theorem cw_X11_148 : CVk "Lastbus" 148 yX7_put cX7_put 5 none 3 := ⟨lw_Uin (i := 883) (by decide +kernel) rfl, lw_Uin (i := 884) (by decide +kernel) rfl, lw_Uin (i := 885) (by decide +kernel) rfl, lw_Uin (i := 105) (by decide +kernel) rfl, cd_X7_put, ⟨by decide +kernel, by decide +kernel, by decide +kernel⟩⟩
set_option maxRecDepth 100000 in
theorem cd_X7_isOn : Cond.code yX7_isOn cX7_isOn 3 (some .boolean) ∈ lw_U := lw_Uin (i := 645) (rfl) rfl
theorem cw_X11_160 : CVk "Lastbus" 160 yX7_isOn cX7_isOn 3 (some .boolean) 2 := ⟨lw_Uin (i := 900) (by decide +kernel) rfl, lw_Uin (i := 643) (by decide +kernel) rfl, lw_Uin (i := 644) (by decide +kernel) rfl, lw_Uin (i := 105) (by decide +kernel) rfl, cd_X7_isOn, ⟨by decide +kernel, by decide +kernel, by decide +kernel⟩⟩
set_option maxRecDepth 100000 in
theorem cd_X7_firstFrom : Cond.code yX7_firstFrom cX7_firstFrom 4 (some .int) ∈ lw_U := lw_Uin (i := 918) (rfl) rfl
theorem cw_X11_164 : CVk "Lastbus" 164 yX7_firstFrom cX7_firstFrom 4 (some .int) 2 := ⟨lw_Uin (i := 915) (by decide +kernel) rfl, lw_Uin (i := 916) (by decide +kernel) rfl, lw_Uin (i := 917) (by decide +kernel) rfl, lw_Uin (i := 105) (by decide +kernel) rfl, cd_X7_firstFrom, ⟨by decide +kernel, by decide +kernel, by decide +kernel⟩⟩
set_option maxRecDepth 100000 in
theorem cd_X11_needRoomForTrip : Cond.code yX11_needRoomForTrip cX11_needRoomForTrip 1 none ∈ lw_U := lw_Uin (i := 930) (rfl) rfl
theorem cw_X11_173 : CVk "Lastbus" 173 yX11_needRoomForTrip cX11_needRoomForTrip 1 none 0 := ⟨lw_Uin (i := 927) (by decide +kernel) rfl, lw_Uin (i := 929) (by decide +kernel) rfl, lw_Uin (i := 4) (by decide +kernel) rfl, lw_Uin (i := 103) (by decide +kernel) rfl, cd_X11_needRoomForTrip, ⟨by decide +kernel, by decide +kernel, by decide +kernel⟩⟩
set_option maxRecDepth 100000 in
theorem cd_X9_begin : Cond.code yX9_begin cX9_begin 4 (some .int) ∈ lw_U := lw_Uin (i := 935) (rfl) rfl
theorem cw_X11_176 : CVk "Lastbus" 176 yX9_begin cX9_begin 4 (some .int) 3 := ⟨lw_Uin (i := 932) (by decide +kernel) rfl, lw_Uin (i := 933) (by decide +kernel) rfl, lw_Uin (i := 934) (by decide +kernel) rfl, lw_Uin (i := 106) (by decide +kernel) rfl, cd_X9_begin, ⟨by decide +kernel, by decide +kernel, by decide +kernel⟩⟩
set_option maxRecDepth 100000 in
theorem cd_X11_needTrip : Cond.code yX11_needTrip cX11_needTrip 2 none ∈ lw_U := lw_Uin (i := 950) (rfl) rfl
theorem cw_X11_180 : CVk "Lastbus" 180 yX11_needTrip cX11_needTrip 2 none 1 := ⟨lw_Uin (i := 947) (by decide +kernel) rfl, lw_Uin (i := 949) (by decide +kernel) rfl, lw_Uin (i := 5) (by decide +kernel) rfl, lw_Uin (i := 103) (by decide +kernel) rfl, cd_X11_needTrip, ⟨by decide +kernel, by decide +kernel, by decide +kernel⟩⟩
set_option maxRecDepth 100000 in
theorem cd_X11_goesOn : Cond.code yX11_goesOn cX11_goesOn 3 (some .boolean) ∈ lw_U := lw_Uin (i := 958) (rfl) rfl
theorem cw_X11_189 : CSk "Lastbus" 189 yX11_goesOn cX11_goesOn 3 (some .boolean) 3 := ⟨lw_Uin (i := 956) (by decide +kernel) rfl, lw_Uin (i := 957) (by decide +kernel) rfl, lw_Uin (i := 103) (by decide +kernel) rfl, cd_X11_goesOn, ⟨by decide +kernel, by decide +kernel, by decide +kernel⟩⟩
set_option maxRecDepth 100000 in
theorem cd_X9_add : Cond.code yX9_add cX9_add 6 none ∈ lw_U := lw_Uin (i := 939) (rfl) rfl
theorem cw_X11_200 : CVk "Lastbus" 200 yX9_add cX9_add 6 none 4 := ⟨lw_Uin (i := 961) (by decide +kernel) rfl, lw_Uin (i := 937) (by decide +kernel) rfl, lw_Uin (i := 938) (by decide +kernel) rfl, lw_Uin (i := 106) (by decide +kernel) rfl, cd_X9_add, ⟨by decide +kernel, by decide +kernel, by decide +kernel⟩⟩
set_option maxRecDepth 100000 in
theorem cd_X11_needCall : Cond.code yX11_needCall cX11_needCall 3 none ∈ lw_U := lw_Uin (i := 979) (rfl) rfl
theorem cw_X11_204 : CVk "Lastbus" 204 yX11_needCall cX11_needCall 3 none 2 := ⟨lw_Uin (i := 976) (by decide +kernel) rfl, lw_Uin (i := 978) (by decide +kernel) rfl, lw_Uin (i := 6) (by decide +kernel) rfl, lw_Uin (i := 103) (by decide +kernel) rfl, cd_X11_needCall, ⟨by decide +kernel, by decide +kernel, by decide +kernel⟩⟩
set_option maxRecDepth 100000 in
theorem cd_X11_needShift : Cond.code yX11_needShift cX11_needShift 3 none ∈ lw_U := lw_Uin (i := 998) (rfl) rfl
theorem cw_X11_210 : CVk "Lastbus" 210 yX11_needShift cX11_needShift 3 none 2 := ⟨lw_Uin (i := 995) (by decide +kernel) rfl, lw_Uin (i := 997) (by decide +kernel) rfl, lw_Uin (i := 7) (by decide +kernel) rfl, lw_Uin (i := 103) (by decide +kernel) rfl, cd_X11_needShift, ⟨by decide +kernel, by decide +kernel, by decide +kernel⟩⟩
set_option maxRecDepth 100000 in
theorem cd_X9_move : Cond.code yX9_move cX9_move 4 none ∈ lw_U := lw_Uin (i := 1002) (rfl) rfl
theorem cw_X11_213 : CVk "Lastbus" 213 yX9_move cX9_move 4 none 2 := ⟨lw_Uin (i := 999) (by decide +kernel) rfl, lw_Uin (i := 1000) (by decide +kernel) rfl, lw_Uin (i := 1001) (by decide +kernel) rfl, lw_Uin (i := 106) (by decide +kernel) rfl, cd_X9_move, ⟨by decide +kernel, by decide +kernel, by decide +kernel⟩⟩
set_option maxRecDepth 100000 in
theorem cd_X11_needRoomForSigns : Cond.code yX11_needRoomForSigns cX11_needRoomForSigns 2 none ∈ lw_U := lw_Uin (i := 1013) (rfl) rfl
theorem cw_X11_216 : CVk "Lastbus" 216 yX11_needRoomForSigns cX11_needRoomForSigns 2 none 1 := ⟨lw_Uin (i := 1010) (by decide +kernel) rfl, lw_Uin (i := 1012) (by decide +kernel) rfl, lw_Uin (i := 8) (by decide +kernel) rfl, lw_Uin (i := 103) (by decide +kernel) rfl, cd_X11_needRoomForSigns, ⟨by decide +kernel, by decide +kernel, by decide +kernel⟩⟩
set_option maxRecDepth 100000 in
theorem cd_X5_put : Cond.code yX5_put cX5_put 2 (some .int) ∈ lw_U := lw_Uin (i := 1018) (rfl) rfl
theorem cw_X11_219 : CVk "Lastbus" 219 yX5_put cX5_put 2 (some .int) 1 := ⟨lw_Uin (i := 1015) (by decide +kernel) rfl, lw_Uin (i := 1016) (by decide +kernel) rfl, lw_Uin (i := 1017) (by decide +kernel) rfl, lw_Uin (i := 108) (by decide +kernel) rfl, cd_X5_put, ⟨by decide +kernel, by decide +kernel, by decide +kernel⟩⟩
set_option maxRecDepth 100000 in
theorem cd_X5_putNumber : Cond.code yX5_putNumber cX5_putNumber 2 (some .int) ∈ lw_U := lw_Uin (i := 1029) (rfl) rfl
theorem cw_X11_222 : CVk "Lastbus" 222 yX5_putNumber cX5_putNumber 2 (some .int) 1 := ⟨lw_Uin (i := 1026) (by decide +kernel) rfl, lw_Uin (i := 1027) (by decide +kernel) rfl, lw_Uin (i := 1028) (by decide +kernel) rfl, lw_Uin (i := 108) (by decide +kernel) rfl, cd_X5_putNumber, ⟨by decide +kernel, by decide +kernel, by decide +kernel⟩⟩
set_option maxRecDepth 100000 in
theorem cd_X5_empty : Cond.code yX5_empty cX5_empty 2 (some .int) ∈ lw_U := lw_Uin (i := 613) (rfl) rfl
theorem cw_X11_225 : CVk "Lastbus" 225 yX5_empty cX5_empty 2 (some .int) 0 := ⟨lw_Uin (i := 610) (by decide +kernel) rfl, lw_Uin (i := 611) (by decide +kernel) rfl, lw_Uin (i := 612) (by decide +kernel) rfl, lw_Uin (i := 108) (by decide +kernel) rfl, cd_X5_empty, ⟨by decide +kernel, by decide +kernel, by decide +kernel⟩⟩
set_option maxRecDepth 100000 in
theorem cd_X5_read : Cond.code yX5_read cX5_read 3 (some .boolean) ∈ lw_U := lw_Uin (i := 1046) (rfl) rfl
theorem cw_X11_228 : CVk "Lastbus" 228 yX5_read cX5_read 3 (some .boolean) 0 := ⟨lw_Uin (i := 1043) (by decide +kernel) rfl, lw_Uin (i := 1044) (by decide +kernel) rfl, lw_Uin (i := 1045) (by decide +kernel) rfl, lw_Uin (i := 108) (by decide +kernel) rfl, cd_X5_read, ⟨by decide +kernel, by decide +kernel, by decide +kernel⟩⟩
set_option maxRecDepth 100000 in
theorem cd_X11_rowFits : Cond.code yX11_rowFits cX11_rowFits 3 (some .boolean) ∈ lw_U := lw_Uin (i := 1071) (rfl) rfl
theorem cw_X11_234 : CVk "Lastbus" 234 yX11_rowFits cX11_rowFits 3 (some .boolean) 0 := ⟨lw_Uin (i := 1068) (by decide +kernel) rfl, lw_Uin (i := 1070) (by decide +kernel) rfl, lw_Uin (i := 15) (by decide +kernel) rfl, lw_Uin (i := 103) (by decide +kernel) rfl, cd_X11_rowFits, ⟨by decide +kernel, by decide +kernel, by decide +kernel⟩⟩
set_option maxRecDepth 100000 in
theorem cd_X0_find : Cond.code yX0_find cX0_find 4 (some .int) ∈ lw_U := lw_Uin (i := 1106) (rfl) rfl
theorem cw_X11_259 : CVk "Lastbus" 259 yX0_find cX0_find 4 (some .int) 2 := ⟨lw_Uin (i := 1103) (by decide +kernel) rfl, lw_Uin (i := 1104) (by decide +kernel) rfl, lw_Uin (i := 1105) (by decide +kernel) rfl, lw_Uin (i := 107) (by decide +kernel) rfl, cd_X0_find, ⟨by decide +kernel, by decide +kernel, by decide +kernel⟩⟩
set_option maxRecDepth 100000 in
theorem cd_X0_remove : Cond.code yX0_remove cX0_remove 2 none ∈ lw_U := lw_Uin (i := 1110) (rfl) rfl
theorem cw_X11_265 : CVk "Lastbus" 265 yX0_remove cX0_remove 2 none 1 := ⟨lw_Uin (i := 1107) (by decide +kernel) rfl, lw_Uin (i := 1108) (by decide +kernel) rfl, lw_Uin (i := 1109) (by decide +kernel) rfl, lw_Uin (i := 107) (by decide +kernel) rfl, cd_X0_remove, ⟨by decide +kernel, by decide +kernel, by decide +kernel⟩⟩
set_option maxRecDepth 100000 in
theorem cd_X0_put : Cond.code yX0_put cX0_put 7 none ∈ lw_U := lw_Uin (i := 1115) (rfl) rfl
theorem cw_X11_271 : CVk "Lastbus" 271 yX0_put cX0_put 7 none 5 := ⟨lw_Uin (i := 1112) (by decide +kernel) rfl, lw_Uin (i := 1113) (by decide +kernel) rfl, lw_Uin (i := 1114) (by decide +kernel) rfl, lw_Uin (i := 107) (by decide +kernel) rfl, cd_X0_put, ⟨by decide +kernel, by decide +kernel, by decide +kernel⟩⟩
set_option maxRecDepth 100000 in
theorem cd_X0_at : Cond.code yX0_at cX0_at 3 (some .int) ∈ lw_U := lw_Uin (i := 1126) (rfl) rfl
theorem cw_X11_274 : CVk "Lastbus" 274 yX0_at cX0_at 3 (some .int) 2 := ⟨lw_Uin (i := 1123) (by decide +kernel) rfl, lw_Uin (i := 1124) (by decide +kernel) rfl, lw_Uin (i := 1125) (by decide +kernel) rfl, lw_Uin (i := 107) (by decide +kernel) rfl, cd_X0_at, ⟨by decide +kernel, by decide +kernel, by decide +kernel⟩⟩
set_option maxRecDepth 100000 in
theorem cd_X11_needWay : Cond.code yX11_needWay cX11_needWay 5 none ∈ lw_U := lw_Uin (i := 1137) (rfl) rfl
theorem cw_X11_277 : CVk "Lastbus" 277 yX11_needWay cX11_needWay 5 none 4 := ⟨lw_Uin (i := 1134) (by decide +kernel) rfl, lw_Uin (i := 1136) (by decide +kernel) rfl, lw_Uin (i := 16) (by decide +kernel) rfl, lw_Uin (i := 103) (by decide +kernel) rfl, cd_X11_needWay, ⟨by decide +kernel, by decide +kernel, by decide +kernel⟩⟩
set_option maxRecDepth 100000 in
theorem cd_X3_lay : Cond.code yX3_lay cX3_lay 7 none ∈ lw_U := lw_Uin (i := 1141) (rfl) rfl
theorem cw_X11_280 : CVk "Lastbus" 280 yX3_lay cX3_lay 7 none 3 := ⟨lw_Uin (i := 1138) (by decide +kernel) rfl, lw_Uin (i := 1139) (by decide +kernel) rfl, lw_Uin (i := 1140) (by decide +kernel) rfl, lw_Uin (i := 109) (by decide +kernel) rfl, cd_X3_lay, ⟨by decide +kernel, by decide +kernel, by decide +kernel⟩⟩
set_option maxRecDepth 100000 in
theorem cd_X6_scan : Cond.code yX6_scan cX6_scan 3 none ∈ lw_U := lw_Uin (i := 1169) (rfl) rfl
theorem cw_X11_283 : CVk "Lastbus" 283 yX6_scan cX6_scan 3 none 2 := ⟨lw_Uin (i := 1166) (by decide +kernel) rfl, lw_Uin (i := 1167) (by decide +kernel) rfl, lw_Uin (i := 1168) (by decide +kernel) rfl, lw_Uin (i := 110) (by decide +kernel) rfl, cd_X6_scan, ⟨by decide +kernel, by decide +kernel, by decide +kernel⟩⟩
set_option maxRecDepth 100000 in
theorem cd_X2_at : Cond.code yX2_at cX2_at 2 (some .int) ∈ lw_U := lw_Uin (i := 1208) (rfl) rfl
theorem cw_X11_290 : CVk "Lastbus" 290 yX2_at cX2_at 2 (some .int) 1 := ⟨lw_Uin (i := 1205) (by decide +kernel) rfl, lw_Uin (i := 1206) (by decide +kernel) rfl, lw_Uin (i := 1207) (by decide +kernel) rfl, lw_Uin (i := 111) (by decide +kernel) rfl, cd_X2_at, ⟨by decide +kernel, by decide +kernel, by decide +kernel⟩⟩
set_option maxRecDepth 100000 in
theorem cd_X6_goOnFromNearest : Cond.code yX6_goOnFromNearest cX6_goOnFromNearest 7 none ∈ lw_U := lw_Uin (i := 1220) (rfl) rfl
theorem cw_X11_294 : CVk "Lastbus" 294 yX6_goOnFromNearest cX6_goOnFromNearest 7 none 2 := ⟨lw_Uin (i := 1217) (by decide +kernel) rfl, lw_Uin (i := 1218) (by decide +kernel) rfl, lw_Uin (i := 1219) (by decide +kernel) rfl, lw_Uin (i := 110) (by decide +kernel) rfl, cd_X6_goOnFromNearest, ⟨by decide +kernel, by decide +kernel, by decide +kernel⟩⟩
set_option maxRecDepth 100000 in
theorem cd_X4_fill : Cond.code yX4_fill cX4_fill 4 none ∈ lw_U := lw_Uin (i := 1244) (rfl) rfl
theorem cw_X11_297 : CVk "Lastbus" 297 yX4_fill cX4_fill 4 none 2 := ⟨lw_Uin (i := 1241) (by decide +kernel) rfl, lw_Uin (i := 1242) (by decide +kernel) rfl, lw_Uin (i := 1243) (by decide +kernel) rfl, lw_Uin (i := 112) (by decide +kernel) rfl, cd_X4_fill, ⟨by decide +kernel, by decide +kernel, by decide +kernel⟩⟩
set_option maxRecDepth 100000 in
theorem cd_X4_least : Cond.code yX4_least cX4_least 2 (some .int) ∈ lw_U := lw_Uin (i := 1259) (rfl) rfl
theorem cw_X11_300 : CVk "Lastbus" 300 yX4_least cX4_least 2 (some .int) 1 := ⟨lw_Uin (i := 1256) (by decide +kernel) rfl, lw_Uin (i := 1257) (by decide +kernel) rfl, lw_Uin (i := 1258) (by decide +kernel) rfl, lw_Uin (i := 112) (by decide +kernel) rfl, cd_X4_least, ⟨by decide +kernel, by decide +kernel, by decide +kernel⟩⟩
set_option maxRecDepth 100000 in
theorem cd_X6_lastLeave : Cond.code yX6_lastLeave cX6_lastLeave 6 (some .int) ∈ lw_U := lw_Uin (i := 1278) (rfl) rfl
theorem cw_X11_303 : CVk "Lastbus" 303 yX6_lastLeave cX6_lastLeave 6 (some .int) 3 := ⟨lw_Uin (i := 1275) (by decide +kernel) rfl, lw_Uin (i := 1276) (by decide +kernel) rfl, lw_Uin (i := 1277) (by decide +kernel) rfl, lw_Uin (i := 110) (by decide +kernel) rfl, cd_X6_lastLeave, ⟨by decide +kernel, by decide +kernel, by decide +kernel⟩⟩
set_option maxRecDepth 100000 in
theorem cd_X4_keepChain : Cond.code yX4_keepChain cX4_keepChain 7 none ∈ lw_U := lw_Uin (i := 1305) (rfl) rfl
theorem cw_X11_308 : CVk "Lastbus" 308 yX4_keepChain cX4_keepChain 7 none 1 := ⟨lw_Uin (i := 1302) (by decide +kernel) rfl, lw_Uin (i := 1303) (by decide +kernel) rfl, lw_Uin (i := 1304) (by decide +kernel) rfl, lw_Uin (i := 112) (by decide +kernel) rfl, cd_X4_keepChain, ⟨by decide +kernel, by decide +kernel, by decide +kernel⟩⟩
set_option maxRecDepth 100000 in
theorem cd_X11_needRun : Cond.code yX11_needRun cX11_needRun 3 none ∈ lw_U := lw_Uin (i := 1342) (rfl) rfl
theorem cw_X11_330 : CVk "Lastbus" 330 yX11_needRun cX11_needRun 3 none 2 := ⟨lw_Uin (i := 1339) (by decide +kernel) rfl, lw_Uin (i := 1341) (by decide +kernel) rfl, lw_Uin (i := 33) (by decide +kernel) rfl, lw_Uin (i := 103) (by decide +kernel) rfl, cd_X11_needRun, ⟨by decide +kernel, by decide +kernel, by decide +kernel⟩⟩
set_option maxRecDepth 100000 in
theorem cd_X6_scanOnBoard : Cond.code yX6_scanOnBoard cX6_scanOnBoard 5 none ∈ lw_U := lw_Uin (i := 1348) (rfl) rfl
theorem cw_X11_335 : CVk "Lastbus" 335 yX6_scanOnBoard cX6_scanOnBoard 5 none 2 := ⟨lw_Uin (i := 1345) (by decide +kernel) rfl, lw_Uin (i := 1346) (by decide +kernel) rfl, lw_Uin (i := 1347) (by decide +kernel) rfl, lw_Uin (i := 110) (by decide +kernel) rfl, cd_X6_scanOnBoard, ⟨by decide +kernel, by decide +kernel, by decide +kernel⟩⟩
set_option maxRecDepth 100000 in
theorem cd_X11_findPairs : Cond.code yX11_findPairs cX11_findPairs 4 none ∈ lw_U := lw_Uin (i := 1360) (rfl) rfl
theorem cw_X11_338 : CVk "Lastbus" 338 yX11_findPairs cX11_findPairs 4 none 3 := ⟨lw_Uin (i := 1357) (by decide +kernel) rfl, lw_Uin (i := 1359) (by decide +kernel) rfl, lw_Uin (i := 34) (by decide +kernel) rfl, lw_Uin (i := 103) (by decide +kernel) rfl, cd_X11_findPairs, ⟨by decide +kernel, by decide +kernel, by decide +kernel⟩⟩
set_option maxRecDepth 100000 in
theorem cd_X6_collectPairs : Cond.code yX6_collectPairs cX6_collectPairs 6 none ∈ lw_U := lw_Uin (i := 1364) (rfl) rfl
theorem cw_X11_352 : CVk "Lastbus" 352 yX6_collectPairs cX6_collectPairs 6 none 2 := ⟨lw_Uin (i := 1361) (by decide +kernel) rfl, lw_Uin (i := 1362) (by decide +kernel) rfl, lw_Uin (i := 1363) (by decide +kernel) rfl, lw_Uin (i := 110) (by decide +kernel) rfl, cd_X6_collectPairs, ⟨by decide +kernel, by decide +kernel, by decide +kernel⟩⟩
set_option maxRecDepth 100000 in
theorem cd_X6_pairArrivalFrom : Cond.code yX6_pairArrivalFrom cX6_pairArrivalFrom 6 (some .int) ∈ lw_U := lw_Uin (i := 1388) (rfl) rfl
theorem cw_X11_355 : CVk "Lastbus" 355 yX6_pairArrivalFrom cX6_pairArrivalFrom 6 (some .int) 1 := ⟨lw_Uin (i := 1385) (by decide +kernel) rfl, lw_Uin (i := 1386) (by decide +kernel) rfl, lw_Uin (i := 1387) (by decide +kernel) rfl, lw_Uin (i := 110) (by decide +kernel) rfl, cd_X6_pairArrivalFrom, ⟨by decide +kernel, by decide +kernel, by decide +kernel⟩⟩
set_option maxRecDepth 100000 in
theorem cd_X4_isChoice : Cond.code yX4_isChoice cX4_isChoice 4 (some .boolean) ∈ lw_U := lw_Uin (i := 1399) (rfl) rfl
theorem cw_X11_366 : CVk "Lastbus" 366 yX4_isChoice cX4_isChoice 4 (some .boolean) 2 := ⟨lw_Uin (i := 1396) (by decide +kernel) rfl, lw_Uin (i := 1397) (by decide +kernel) rfl, lw_Uin (i := 1398) (by decide +kernel) rfl, lw_Uin (i := 112) (by decide +kernel) rfl, cd_X4_isChoice, ⟨by decide +kernel, by decide +kernel, by decide +kernel⟩⟩
set_option maxRecDepth 100000 in
theorem cd_X11_needChange : Cond.code yX11_needChange cX11_needChange 5 none ∈ lw_U := lw_Uin (i := 1419) (rfl) rfl
theorem cw_X11_375 : CVk "Lastbus" 375 yX11_needChange cX11_needChange 5 none 4 := ⟨lw_Uin (i := 1416) (by decide +kernel) rfl, lw_Uin (i := 1418) (by decide +kernel) rfl, lw_Uin (i := 35) (by decide +kernel) rfl, lw_Uin (i := 103) (by decide +kernel) rfl, cd_X11_needChange, ⟨by decide +kernel, by decide +kernel, by decide +kernel⟩⟩
set_option maxRecDepth 100000 in
theorem cd_X11_minutesBetween : Cond.code yX11_minutesBetween cX11_minutesBetween 3 (some .int) ∈ lw_U := lw_Uin (i := 1424) (rfl) rfl
theorem cw_X11_378 : CVk "Lastbus" 378 yX11_minutesBetween cX11_minutesBetween 3 (some .int) 2 := ⟨lw_Uin (i := 1421) (by decide +kernel) rfl, lw_Uin (i := 1423) (by decide +kernel) rfl, lw_Uin (i := 36) (by decide +kernel) rfl, lw_Uin (i := 103) (by decide +kernel) rfl, cd_X11_minutesBetween, ⟨by decide +kernel, by decide +kernel, by decide +kernel⟩⟩
set_option maxRecDepth 100000 in
theorem cd_X10_add : Cond.code yX10_add cX10_add 6 (some .int) ∈ lw_U := lw_Uin (i := 1437) (rfl) rfl
theorem cw_X11_386 : CVk "Lastbus" 386 yX10_add cX10_add 6 (some .int) 5 := ⟨lw_Uin (i := 1434) (by decide +kernel) rfl, lw_Uin (i := 1435) (by decide +kernel) rfl, lw_Uin (i := 1436) (by decide +kernel) rfl, lw_Uin (i := 113) (by decide +kernel) rfl, cd_X10_add, ⟨by decide +kernel, by decide +kernel, by decide +kernel⟩⟩
set_option maxRecDepth 100000 in
theorem cd_X11_costOfWaits : Cond.code yX11_costOfWaits cX11_costOfWaits 3 (some .int) ∈ lw_U := lw_Uin (i := 1448) (rfl) rfl
theorem cw_X11_389 : CVk "Lastbus" 389 yX11_costOfWaits cX11_costOfWaits 3 (some .int) 2 := ⟨lw_Uin (i := 1445) (by decide +kernel) rfl, lw_Uin (i := 1447) (by decide +kernel) rfl, lw_Uin (i := 37) (by decide +kernel) rfl, lw_Uin (i := 103) (by decide +kernel) rfl, cd_X11_costOfWaits, ⟨by decide +kernel, by decide +kernel, by decide +kernel⟩⟩
set_option maxRecDepth 100000 in
theorem cd_X11_fillArrivals : Cond.code yX11_fillArrivals cX11_fillArrivals 4 none ∈ lw_U := lw_Uin (i := 1502) (rfl) rfl
theorem cw_X11_392 : CVk "Lastbus" 392 yX11_fillArrivals cX11_fillArrivals 4 none 1 := ⟨lw_Uin (i := 1499) (by decide +kernel) rfl, lw_Uin (i := 1501) (by decide +kernel) rfl, lw_Uin (i := 44) (by decide +kernel) rfl, lw_Uin (i := 103) (by decide +kernel) rfl, cd_X11_fillArrivals, ⟨by decide +kernel, by decide +kernel, by decide +kernel⟩⟩
set_option maxRecDepth 100000 in
theorem cd_X11_countCutOff : Cond.code yX11_countCutOff cX11_countCutOff 4 (some .int) ∈ lw_U := lw_Uin (i := 1506) (rfl) rfl
theorem cw_X11_395 : CVk "Lastbus" 395 yX11_countCutOff cX11_countCutOff 4 (some .int) 1 := ⟨lw_Uin (i := 1503) (by decide +kernel) rfl, lw_Uin (i := 1505) (by decide +kernel) rfl, lw_Uin (i := 45) (by decide +kernel) rfl, lw_Uin (i := 103) (by decide +kernel) rfl, cd_X11_countCutOff, ⟨by decide +kernel, by decide +kernel, by decide +kernel⟩⟩
set_option maxRecDepth 100000 in
theorem cd_X1_gather : Cond.code yX1_gather cX1_gather 6 none ∈ lw_U := lw_Uin (i := 1528) (rfl) rfl
theorem cw_X11_398 : CVk "Lastbus" 398 yX1_gather cX1_gather 6 none 3 := ⟨lw_Uin (i := 1525) (by decide +kernel) rfl, lw_Uin (i := 1526) (by decide +kernel) rfl, lw_Uin (i := 1527) (by decide +kernel) rfl, lw_Uin (i := 114) (by decide +kernel) rfl, cd_X1_gather, ⟨by decide +kernel, by decide +kernel, by decide +kernel⟩⟩
set_option maxRecDepth 100000 in
theorem cd_X1_countByTimes : Cond.code yX1_countByTimes cX1_countByTimes 4 (some .int) ∈ lw_U := lw_Uin (i := 1533) (rfl) rfl
theorem cw_X11_402 : CVk "Lastbus" 402 yX1_countByTimes cX1_countByTimes 4 (some .int) 1 := ⟨lw_Uin (i := 1530) (by decide +kernel) rfl, lw_Uin (i := 1531) (by decide +kernel) rfl, lw_Uin (i := 1532) (by decide +kernel) rfl, lw_Uin (i := 114) (by decide +kernel) rfl, cd_X1_countByTimes, ⟨by decide +kernel, by decide +kernel, by decide +kernel⟩⟩
set_option maxRecDepth 100000 in
theorem cd_X1_countByMatching : Cond.code yX1_countByMatching cX1_countByMatching 4 (some .int) ∈ lw_U := lw_Uin (i := 1549) (rfl) rfl
theorem cw_X11_405 : CVk "Lastbus" 405 yX1_countByMatching cX1_countByMatching 4 (some .int) 0 := ⟨lw_Uin (i := 1546) (by decide +kernel) rfl, lw_Uin (i := 1547) (by decide +kernel) rfl, lw_Uin (i := 1548) (by decide +kernel) rfl, lw_Uin (i := 114) (by decide +kernel) rfl, cd_X1_countByMatching, ⟨by decide +kernel, by decide +kernel, by decide +kernel⟩⟩
set_option maxRecDepth 100000 in
theorem cd_X11_fillArrivalsAndShift : Cond.code yX11_fillArrivalsAndShift cX11_fillArrivalsAndShift 5 none ∈ lw_U := lw_Uin (i := 1572) (rfl) rfl
theorem cw_X11_408 : CVk "Lastbus" 408 yX11_fillArrivalsAndShift cX11_fillArrivalsAndShift 5 none 4 := ⟨lw_Uin (i := 1569) (by decide +kernel) rfl, lw_Uin (i := 1571) (by decide +kernel) rfl, lw_Uin (i := 51) (by decide +kernel) rfl, lw_Uin (i := 103) (by decide +kernel) rfl, cd_X11_fillArrivalsAndShift, ⟨by decide +kernel, by decide +kernel, by decide +kernel⟩⟩
set_option maxRecDepth 100000 in
theorem cd_X11_countMoved : Cond.code yX11_countMoved cX11_countMoved 7 (some .int) ∈ lw_U := lw_Uin (i := 1576) (rfl) rfl
theorem cw_X11_411 : CVk "Lastbus" 411 yX11_countMoved cX11_countMoved 7 (some .int) 2 := ⟨lw_Uin (i := 1573) (by decide +kernel) rfl, lw_Uin (i := 1575) (by decide +kernel) rfl, lw_Uin (i := 52) (by decide +kernel) rfl, lw_Uin (i := 103) (by decide +kernel) rfl, cd_X11_countMoved, ⟨by decide +kernel, by decide +kernel, by decide +kernel⟩⟩
set_option maxRecDepth 100000 in
theorem cd_X8_addTo : Cond.code yX8_addTo cX8_addTo 6 (some .long) ∈ lw_U := lw_Uin (i := 630) (rfl) rfl
theorem cw_X11_425 : CVk "Lastbus" 425 yX8_addTo cX8_addTo 6 (some .long) 1 := ⟨lw_Uin (i := 627) (by decide +kernel) rfl, lw_Uin (i := 628) (by decide +kernel) rfl, lw_Uin (i := 629) (by decide +kernel) rfl, lw_Uin (i := 104) (by decide +kernel) rfl, cd_X8_addTo, ⟨by decide +kernel, by decide +kernel, by decide +kernel⟩⟩
set_option maxRecDepth 100000 in
theorem cd_X9_addTo : Cond.code yX9_addTo cX9_addTo 7 (some .long) ∈ lw_U := lw_Uin (i := 635) (rfl) rfl
theorem cw_X11_429 : CVk "Lastbus" 429 yX9_addTo cX9_addTo 7 (some .long) 1 := ⟨lw_Uin (i := 632) (by decide +kernel) rfl, lw_Uin (i := 633) (by decide +kernel) rfl, lw_Uin (i := 634) (by decide +kernel) rfl, lw_Uin (i := 106) (by decide +kernel) rfl, cd_X9_addTo, ⟨by decide +kernel, by decide +kernel, by decide +kernel⟩⟩
set_option maxRecDepth 100000 in
theorem cd_X7_addTo : Cond.code yX7_addTo cX7_addTo 7 (some .long) ∈ lw_U := lw_Uin (i := 640) (rfl) rfl
theorem cw_X11_430 : CVk "Lastbus" 430 yX7_addTo cX7_addTo 7 (some .long) 1 := ⟨lw_Uin (i := 637) (by decide +kernel) rfl, lw_Uin (i := 638) (by decide +kernel) rfl, lw_Uin (i := 639) (by decide +kernel) rfl, lw_Uin (i := 105) (by decide +kernel) rfl, cd_X7_addTo, ⟨by decide +kernel, by decide +kernel, by decide +kernel⟩⟩
set_option maxRecDepth 100000 in
theorem cd_X11_waysAreSound : Cond.code yX11_waysAreSound cX11_waysAreSound 3 (some .boolean) ∈ lw_U := lw_Uin (i := 1626) (rfl) rfl
theorem cw_X11_435 : CVk "Lastbus" 435 yX11_waysAreSound cX11_waysAreSound 3 (some .boolean) 0 := ⟨lw_Uin (i := 1623) (by decide +kernel) rfl, lw_Uin (i := 1625) (by decide +kernel) rfl, lw_Uin (i := 53) (by decide +kernel) rfl, lw_Uin (i := 103) (by decide +kernel) rfl, cd_X11_waysAreSound, ⟨by decide +kernel, by decide +kernel, by decide +kernel⟩⟩
set_option maxRecDepth 100000 in
theorem cd_X11_pairsAreSound : Cond.code yX11_pairsAreSound cX11_pairsAreSound 4 (some .boolean) ∈ lw_U := lw_Uin (i := 1634) (rfl) rfl
theorem cw_X11_438 : CVk "Lastbus" 438 yX11_pairsAreSound cX11_pairsAreSound 4 (some .boolean) 1 := ⟨lw_Uin (i := 1631) (by decide +kernel) rfl, lw_Uin (i := 1633) (by decide +kernel) rfl, lw_Uin (i := 55) (by decide +kernel) rfl, lw_Uin (i := 103) (by decide +kernel) rfl, cd_X11_pairsAreSound, ⟨by decide +kernel, by decide +kernel, by decide +kernel⟩⟩
set_option maxRecDepth 100000 in
theorem cd_X8_has : Cond.code yX8_has cX8_has 2 (some .boolean) ∈ lw_U := lw_Uin (i := 789) (rfl) rfl
theorem cw_X11_448 : CVk "Lastbus" 448 yX8_has cX8_has 2 (some .boolean) 1 := ⟨lw_Uin (i := 786) (by decide +kernel) rfl, lw_Uin (i := 787) (by decide +kernel) rfl, lw_Uin (i := 788) (by decide +kernel) rfl, lw_Uin (i := 104) (by decide +kernel) rfl, cd_X8_has, ⟨by decide +kernel, by decide +kernel, by decide +kernel⟩⟩
set_option maxRecDepth 100000 in
theorem cd_X7_has : Cond.code yX7_has cX7_has 2 (some .boolean) ∈ lw_U := lw_Uin (i := 877) (rfl) rfl
theorem cw_X11_456 : CVk "Lastbus" 456 yX7_has cX7_has 2 (some .boolean) 1 := ⟨lw_Uin (i := 874) (by decide +kernel) rfl, lw_Uin (i := 875) (by decide +kernel) rfl, lw_Uin (i := 876) (by decide +kernel) rfl, lw_Uin (i := 105) (by decide +kernel) rfl, cd_X7_has, ⟨by decide +kernel, by decide +kernel, by decide +kernel⟩⟩
set_option maxRecDepth 100000 in
theorem cd_X9_has : Cond.code yX9_has cX9_has 2 (some .boolean) ∈ lw_U := lw_Uin (i := 954) (rfl) rfl
theorem cw_X11_459 : CVk "Lastbus" 459 yX9_has cX9_has 2 (some .boolean) 1 := ⟨lw_Uin (i := 951) (by decide +kernel) rfl, lw_Uin (i := 952) (by decide +kernel) rfl, lw_Uin (i := 953) (by decide +kernel) rfl, lw_Uin (i := 106) (by decide +kernel) rfl, cd_X9_has, ⟨by decide +kernel, by decide +kernel, by decide +kernel⟩⟩
set_option maxRecDepth 100000 in
theorem cd_X10_spread : Cond.code yX10_spread cX10_spread 5 (some .boolean) ∈ lw_U := lw_Uin (i := 1452) (rfl) rfl
theorem cw_X11_474 : CVk "Lastbus" 474 yX10_spread cX10_spread 5 (some .boolean) 2 := ⟨lw_Uin (i := 1449) (by decide +kernel) rfl, lw_Uin (i := 1450) (by decide +kernel) rfl, lw_Uin (i := 1451) (by decide +kernel) rfl, lw_Uin (i := 113) (by decide +kernel) rfl, cd_X10_spread, ⟨by decide +kernel, by decide +kernel, by decide +kernel⟩⟩
set_option maxRecDepth 100000 in
theorem cd_X10_cost : Cond.code yX10_cost cX10_cost 6 (some .int) ∈ lw_U := lw_Uin (i := 1484) (rfl) rfl
theorem cw_X11_477 : CVk "Lastbus" 477 yX10_cost cX10_cost 6 (some .int) 2 := ⟨lw_Uin (i := 1481) (by decide +kernel) rfl, lw_Uin (i := 1482) (by decide +kernel) rfl, lw_Uin (i := 1483) (by decide +kernel) rfl, lw_Uin (i := 113) (by decide +kernel) rfl, cd_X10_cost, ⟨by decide +kernel, by decide +kernel, by decide +kernel⟩⟩
set_option maxRecDepth 100000 in
theorem cd_X11_countCutOffFrom : Cond.code yX11_countCutOffFrom cX11_countCutOffFrom 6 (some .int) ∈ lw_U := lw_Uin (i := 1510) (rfl) rfl
theorem cw_X11_480 : CVk "Lastbus" 480 yX11_countCutOffFrom cX11_countCutOffFrom 6 (some .int) 2 := ⟨lw_Uin (i := 1507) (by decide +kernel) rfl, lw_Uin (i := 1509) (by decide +kernel) rfl, lw_Uin (i := 46) (by decide +kernel) rfl, lw_Uin (i := 103) (by decide +kernel) rfl, cd_X11_countCutOffFrom, ⟨by decide +kernel, by decide +kernel, by decide +kernel⟩⟩
set_option maxRecDepth 100000 in
theorem cd_X11_lastIsSound : Cond.code yX11_lastIsSound cX11_lastIsSound 5 (some .boolean) ∈ lw_U := lw_Uin (i := 1630) (rfl) rfl
theorem cw_X11_483 : CVk "Lastbus" 483 yX11_lastIsSound cX11_lastIsSound 5 (some .boolean) 2 := ⟨lw_Uin (i := 1627) (by decide +kernel) rfl, lw_Uin (i := 1629) (by decide +kernel) rfl, lw_Uin (i := 54) (by decide +kernel) rfl, lw_Uin (i := 103) (by decide +kernel) rfl, cd_X11_lastIsSound, ⟨by decide +kernel, by decide +kernel, by decide +kernel⟩⟩
set_option maxRecDepth 100000 in
theorem cd_X11_merge : Cond.code yX11_merge cX11_merge 8 none ∈ lw_U := lw_Uin (i := 1162) (rfl) rfl
theorem cw_X11_486 : CSk "Lastbus" 486 yX11_merge cX11_merge 8 none 5 := ⟨lw_Uin (i := 1160) (by decide +kernel) rfl, lw_Uin (i := 1161) (by decide +kernel) rfl, lw_Uin (i := 103) (by decide +kernel) rfl, cd_X11_merge, ⟨by decide +kernel, by decide +kernel, by decide +kernel⟩⟩
theorem cw_X1_52 : CVk "Lastbus$Fleet" 52 yX7_isOn cX7_isOn 3 (some .boolean) 2 := ⟨lw_Uin (i := 1529) (by decide +kernel) rfl, lw_Uin (i := 643) (by decide +kernel) rfl, lw_Uin (i := 644) (by decide +kernel) rfl, lw_Uin (i := 105) (by decide +kernel) rfl, cd_X7_isOn, ⟨by decide +kernel, by decide +kernel, by decide +kernel⟩⟩
set_option maxRecDepth 100000 in
theorem cd_X1_countAt : Cond.code yX1_countAt cX1_countAt 6 (some .int) ∈ lw_U := lw_Uin (i := 1537) (rfl) rfl
theorem cw_X1_70 : CVk "Lastbus$Fleet" 70 yX1_countAt cX1_countAt 6 (some .int) 1 := ⟨lw_Uin (i := 1534) (by decide +kernel) rfl, lw_Uin (i := 1536) (by decide +kernel) rfl, lw_Uin (i := 47) (by decide +kernel) rfl, lw_Uin (i := 114) (by decide +kernel) rfl, cd_X1_countAt, ⟨by decide +kernel, by decide +kernel, by decide +kernel⟩⟩
set_option maxRecDepth 100000 in
theorem cd_X11_sortUp : Cond.code yX11_sortUp cX11_sortUp 6 none ∈ lw_U := lw_Uin (i := 1156) (rfl) rfl
theorem cw_X1_74 : CNk "Lastbus$Fleet" 74 yX11_sortUp "Lastbus" cX11_sortUp 6 none 3 := ⟨List.mem_of_getElem? (i := 1538) (by decide +kernel), lw_Uin (i := 1155) (by decide +kernel) rfl, lw_Uin (i := 103) (by decide +kernel) rfl, cd_X11_sortUp, ⟨by decide +kernel, by decide +kernel, by decide +kernel⟩⟩
set_option maxRecDepth 100000 in
theorem cd_X1_findFree : Cond.code yX1_findFree cX1_findFree 5 (some .int) ∈ lw_U := lw_Uin (i := 1553) (rfl) rfl
theorem cw_X1_78 : CVk "Lastbus$Fleet" 78 yX1_findFree cX1_findFree 5 (some .int) 1 := ⟨lw_Uin (i := 1550) (by decide +kernel) rfl, lw_Uin (i := 1552) (by decide +kernel) rfl, lw_Uin (i := 48) (by decide +kernel) rfl, lw_Uin (i := 114) (by decide +kernel) rfl, cd_X1_findFree, ⟨by decide +kernel, by decide +kernel, by decide +kernel⟩⟩
set_option maxRecDepth 100000 in
theorem cd_X1_matchBack : Cond.code yX1_matchBack cX1_matchBack 6 none ∈ lw_U := lw_Uin (i := 1561) (rfl) rfl
theorem cw_X1_81 : CVk "Lastbus$Fleet" 81 yX1_matchBack cX1_matchBack 6 none 1 := ⟨lw_Uin (i := 1558) (by decide +kernel) rfl, lw_Uin (i := 1560) (by decide +kernel) rfl, lw_Uin (i := 50) (by decide +kernel) rfl, lw_Uin (i := 114) (by decide +kernel) rfl, cd_X1_matchBack, ⟨by decide +kernel, by decide +kernel, by decide +kernel⟩⟩
set_option maxRecDepth 100000 in
theorem cd_X1_canFollow : Cond.code yX1_canFollow cX1_canFollow 3 (some .boolean) ∈ lw_U := lw_Uin (i := 1557) (rfl) rfl
theorem cw_X1_85 : CVk "Lastbus$Fleet" 85 yX1_canFollow cX1_canFollow 3 (some .boolean) 2 := ⟨lw_Uin (i := 1554) (by decide +kernel) rfl, lw_Uin (i := 1556) (by decide +kernel) rfl, lw_Uin (i := 49) (by decide +kernel) rfl, lw_Uin (i := 114) (by decide +kernel) rfl, cd_X1_canFollow, ⟨by decide +kernel, by decide +kernel, by decide +kernel⟩⟩
set_option maxRecDepth 100000 in
theorem cd_X2_clear : Cond.code yX2_clear cX2_clear 2 none ∈ lw_U := lw_Uin (i := 1177) (rfl) rfl
theorem cw_X2_29 : CVk "Lastbus$Labels" 29 yX2_clear cX2_clear 2 none 0 := ⟨lw_Uin (i := 1174) (by decide +kernel) rfl, lw_Uin (i := 1175) (by decide +kernel) rfl, lw_Uin (i := 1176) (by decide +kernel) rfl, lw_Uin (i := 111) (by decide +kernel) rfl, cd_X2_clear, ⟨by decide +kernel, by decide +kernel, by decide +kernel⟩⟩
set_option maxRecDepth 100000 in
theorem cd_X2_walkOn : Cond.code yX2_walkOn cX2_walkOn 5 none ∈ lw_U := lw_Uin (i := 1182) (rfl) rfl
theorem cw_X2_32 : CVk "Lastbus$Labels" 32 yX2_walkOn cX2_walkOn 5 none 2 := ⟨lw_Uin (i := 1179) (by decide +kernel) rfl, lw_Uin (i := 1181) (by decide +kernel) rfl, lw_Uin (i := 19) (by decide +kernel) rfl, lw_Uin (i := 111) (by decide +kernel) rfl, cd_X2_walkOn, ⟨by decide +kernel, by decide +kernel, by decide +kernel⟩⟩
theorem cw_X3_57 : CVk "Lastbus$Net" 57 yX8_link cX8_link 5 none 1 := ⟨lw_Uin (i := 1142) (by decide +kernel) rfl, lw_Uin (i := 823) (by decide +kernel) rfl, lw_Uin (i := 824) (by decide +kernel) rfl, lw_Uin (i := 104) (by decide +kernel) rfl, cd_X8_link, ⟨by decide +kernel, by decide +kernel, by decide +kernel⟩⟩
theorem cw_X3_78 : CVk "Lastbus$Net" 78 yX7_isOn cX7_isOn 3 (some .boolean) 2 := ⟨lw_Uin (i := 1143) (by decide +kernel) rfl, lw_Uin (i := 643) (by decide +kernel) rfl, lw_Uin (i := 644) (by decide +kernel) rfl, lw_Uin (i := 105) (by decide +kernel) rfl, cd_X7_isOn, ⟨by decide +kernel, by decide +kernel, by decide +kernel⟩⟩
theorem cw_X3_84 : CVk "Lastbus$Net" 84 yX0_find cX0_find 4 (some .int) 2 := ⟨lw_Uin (i := 1144) (by decide +kernel) rfl, lw_Uin (i := 1104) (by decide +kernel) rfl, lw_Uin (i := 1105) (by decide +kernel) rfl, lw_Uin (i := 107) (by decide +kernel) rfl, cd_X0_find, ⟨by decide +kernel, by decide +kernel, by decide +kernel⟩⟩
set_option maxRecDepth 100000 in
theorem cd_X3_addRun : Cond.code yX3_addRun cX3_addRun 7 none ∈ lw_U := lw_Uin (i := 1148) (rfl) rfl
theorem cw_X3_90 : CVk "Lastbus$Net" 90 yX3_addRun cX3_addRun 7 none 4 := ⟨lw_Uin (i := 1145) (by decide +kernel) rfl, lw_Uin (i := 1147) (by decide +kernel) rfl, lw_Uin (i := 17) (by decide +kernel) rfl, lw_Uin (i := 109) (by decide +kernel) rfl, cd_X3_addRun, ⟨by decide +kernel, by decide +kernel, by decide +kernel⟩⟩
theorem cw_X3_94 : CNk "Lastbus$Net" 94 yX11_sortUp "Lastbus" cX11_sortUp 6 none 3 := ⟨List.mem_of_getElem? (i := 1154) (by decide +kernel), lw_Uin (i := 1155) (by decide +kernel) rfl, lw_Uin (i := 103) (by decide +kernel) rfl, cd_X11_sortUp, ⟨by decide +kernel, by decide +kernel, by decide +kernel⟩⟩
theorem cw_X3_101 : CVk "Lastbus$Net" 101 yX0_at cX0_at 3 (some .int) 2 := ⟨lw_Uin (i := 1149) (by decide +kernel) rfl, lw_Uin (i := 1124) (by decide +kernel) rfl, lw_Uin (i := 1125) (by decide +kernel) rfl, lw_Uin (i := 107) (by decide +kernel) rfl, cd_X0_at, ⟨by decide +kernel, by decide +kernel, by decide +kernel⟩⟩
set_option maxRecDepth 100000 in
theorem cd_X3_addHop : Cond.code yX3_addHop cX3_addHop 4 none ∈ lw_U := lw_Uin (i := 1153) (rfl) rfl
theorem cw_X3_105 : CVk "Lastbus$Net" 105 yX3_addHop cX3_addHop 4 none 2 := ⟨lw_Uin (i := 1150) (by decide +kernel) rfl, lw_Uin (i := 1152) (by decide +kernel) rfl, lw_Uin (i := 18) (by decide +kernel) rfl, lw_Uin (i := 109) (by decide +kernel) rfl, cd_X3_addHop, ⟨by decide +kernel, by decide +kernel, by decide +kernel⟩⟩
set_option maxRecDepth 100000 in
theorem cd_X2_begin : Cond.code yX2_begin cX2_begin 3 none ∈ lw_U := lw_Uin (i := 1173) (rfl) rfl
theorem cw_X4_41 : CVk "Lastbus$Rounds" 41 yX2_begin cX2_begin 3 none 2 := ⟨lw_Uin (i := 1245) (by decide +kernel) rfl, lw_Uin (i := 1171) (by decide +kernel) rfl, lw_Uin (i := 1172) (by decide +kernel) rfl, lw_Uin (i := 111) (by decide +kernel) rfl, cd_X2_begin, ⟨by decide +kernel, by decide +kernel, by decide +kernel⟩⟩
set_option maxRecDepth 100000 in
theorem cd_X2_copy : Cond.code yX2_copy cX2_copy 3 none ∈ lw_U := lw_Uin (i := 1249) (rfl) rfl
theorem cw_X4_49 : CVk "Lastbus$Rounds" 49 yX2_copy cX2_copy 3 none 1 := ⟨lw_Uin (i := 1246) (by decide +kernel) rfl, lw_Uin (i := 1247) (by decide +kernel) rfl, lw_Uin (i := 1248) (by decide +kernel) rfl, lw_Uin (i := 111) (by decide +kernel) rfl, cd_X2_copy, ⟨by decide +kernel, by decide +kernel, by decide +kernel⟩⟩
set_option maxRecDepth 100000 in
theorem cd_X4_rideOnce : Cond.code yX4_rideOnce cX4_rideOnce 7 (some .boolean) ∈ lw_U := lw_Uin (i := 1253) (rfl) rfl
theorem cw_X4_53 : CVk "Lastbus$Rounds" 53 yX4_rideOnce cX4_rideOnce 7 (some .boolean) 2 := ⟨lw_Uin (i := 1250) (by decide +kernel) rfl, lw_Uin (i := 1252) (by decide +kernel) rfl, lw_Uin (i := 25) (by decide +kernel) rfl, lw_Uin (i := 112) (by decide +kernel) rfl, cd_X4_rideOnce, ⟨by decide +kernel, by decide +kernel, by decide +kernel⟩⟩
set_option maxRecDepth 100000 in
theorem cd_X2_getOff : Cond.code yX2_getOff cX2_getOff 3 (some .boolean) ∈ lw_U := lw_Uin (i := 1204) (rfl) rfl
theorem cw_X4_72 : CVk "Lastbus$Rounds" 72 yX2_getOff cX2_getOff 3 (some .boolean) 2 := ⟨lw_Uin (i := 1254) (by decide +kernel) rfl, lw_Uin (i := 1202) (by decide +kernel) rfl, lw_Uin (i := 1203) (by decide +kernel) rfl, lw_Uin (i := 111) (by decide +kernel) rfl, cd_X2_getOff, ⟨by decide +kernel, by decide +kernel, by decide +kernel⟩⟩
set_option maxRecDepth 100000 in
theorem cd_X2_canGetOn : Cond.code yX2_canGetOn cX2_canGetOn 3 (some .boolean) ∈ lw_U := lw_Uin (i := 1200) (rfl) rfl
theorem cw_X4_79 : CVk "Lastbus$Rounds" 79 yX2_canGetOn cX2_canGetOn 3 (some .boolean) 2 := ⟨lw_Uin (i := 1255) (by decide +kernel) rfl, lw_Uin (i := 1198) (by decide +kernel) rfl, lw_Uin (i := 1199) (by decide +kernel) rfl, lw_Uin (i := 111) (by decide +kernel) rfl, cd_X2_canGetOn, ⟨by decide +kernel, by decide +kernel, by decide +kernel⟩⟩
theorem cw_X4_82 : CVk "Lastbus$Rounds" 82 yX2_at cX2_at 2 (some .int) 1 := ⟨lw_Uin (i := 1260) (by decide +kernel) rfl, lw_Uin (i := 1206) (by decide +kernel) rfl, lw_Uin (i := 1207) (by decide +kernel) rfl, lw_Uin (i := 111) (by decide +kernel) rfl, cd_X2_at, ⟨by decide +kernel, by decide +kernel, by decide +kernel⟩⟩
theorem cw_X4_87 : CVk "Lastbus$Rounds" 87 yX4_least cX4_least 2 (some .int) 1 := ⟨lw_Uin (i := 1310) (by decide +kernel) rfl, lw_Uin (i := 1257) (by decide +kernel) rfl, lw_Uin (i := 1258) (by decide +kernel) rfl, lw_Uin (i := 112) (by decide +kernel) rfl, cd_X4_least, ⟨by decide +kernel, by decide +kernel, by decide +kernel⟩⟩
set_option maxRecDepth 100000 in
theorem cd_X4_fewestRides : Cond.code yX4_fewestRides cX4_fewestRides 3 (some .int) ∈ lw_U := lw_Uin (i := 1309) (rfl) rfl
theorem cw_X4_90 : CVk "Lastbus$Rounds" 90 yX4_fewestRides cX4_fewestRides 3 (some .int) 1 := ⟨lw_Uin (i := 1306) (by decide +kernel) rfl, lw_Uin (i := 1308) (by decide +kernel) rfl, lw_Uin (i := 29) (by decide +kernel) rfl, lw_Uin (i := 112) (by decide +kernel) rfl, cd_X4_fewestRides, ⟨by decide +kernel, by decide +kernel, by decide +kernel⟩⟩
set_option maxRecDepth 100000 in
theorem cd_X4_findRide : Cond.code yX4_findRide cX4_findRide 6 (some .int) ∈ lw_U := lw_Uin (i := 1314) (rfl) rfl
theorem cw_X4_96 : CVk "Lastbus$Rounds" 96 yX4_findRide cX4_findRide 6 (some .int) 4 := ⟨lw_Uin (i := 1311) (by decide +kernel) rfl, lw_Uin (i := 1313) (by decide +kernel) rfl, lw_Uin (i := 30) (by decide +kernel) rfl, lw_Uin (i := 112) (by decide +kernel) rfl, cd_X4_findRide, ⟨by decide +kernel, by decide +kernel, by decide +kernel⟩⟩
set_option maxRecDepth 100000 in
theorem cd_X4_offCall : Cond.code yX4_offCall cX4_offCall 9 (some .int) ∈ lw_U := lw_Uin (i := 1318) (rfl) rfl
theorem cw_X4_106 : CVk "Lastbus$Rounds" 106 yX4_offCall cX4_offCall 9 (some .int) 5 := ⟨lw_Uin (i := 1315) (by decide +kernel) rfl, lw_Uin (i := 1317) (by decide +kernel) rfl, lw_Uin (i := 31) (by decide +kernel) rfl, lw_Uin (i := 112) (by decide +kernel) rfl, cd_X4_offCall, ⟨by decide +kernel, by decide +kernel, by decide +kernel⟩⟩
set_option maxRecDepth 100000 in
theorem cd_X4_onCall : Cond.code yX4_onCall cX4_onCall 5 (some .int) ∈ lw_U := lw_Uin (i := 1322) (rfl) rfl
theorem cw_X4_110 : CVk "Lastbus$Rounds" 110 yX4_onCall cX4_onCall 5 (some .int) 3 := ⟨lw_Uin (i := 1319) (by decide +kernel) rfl, lw_Uin (i := 1321) (by decide +kernel) rfl, lw_Uin (i := 32) (by decide +kernel) rfl, lw_Uin (i := 112) (by decide +kernel) rfl, cd_X4_onCall, ⟨by decide +kernel, by decide +kernel, by decide +kernel⟩⟩
set_option maxRecDepth 100000 in
theorem cd_X5_putDigit : Cond.code yX5_putDigit cX5_putDigit 2 (some .int) ∈ lw_U := lw_Uin (i := 1033) (rfl) rfl
theorem cw_X5_32 : CVk "Lastbus$Row" 32 yX5_putDigit cX5_putDigit 2 (some .int) 1 := ⟨lw_Uin (i := 1030) (by decide +kernel) rfl, lw_Uin (i := 1032) (by decide +kernel) rfl, lw_Uin (i := 9) (by decide +kernel) rfl, lw_Uin (i := 108) (by decide +kernel) rfl, cd_X5_putDigit, ⟨by decide +kernel, by decide +kernel, by decide +kernel⟩⟩
theorem cw_X5_36 : CVk "Lastbus$Row" 36 yX5_put cX5_put 2 (some .int) 1 := ⟨lw_Uin (i := 1034) (by decide +kernel) rfl, lw_Uin (i := 1016) (by decide +kernel) rfl, lw_Uin (i := 1017) (by decide +kernel) rfl, lw_Uin (i := 108) (by decide +kernel) rfl, cd_X5_put, ⟨by decide +kernel, by decide +kernel, by decide +kernel⟩⟩
set_option maxRecDepth 100000 in
theorem cd_X5_readFirst : Cond.code yX5_readFirst cX5_readFirst 2 (some .boolean) ∈ lw_U := lw_Uin (i := 1050) (rfl) rfl
theorem cw_X5_46 : CVk "Lastbus$Row" 46 yX5_readFirst cX5_readFirst 2 (some .boolean) 0 := ⟨lw_Uin (i := 1047) (by decide +kernel) rfl, lw_Uin (i := 1049) (by decide +kernel) rfl, lw_Uin (i := 10) (by decide +kernel) rfl, lw_Uin (i := 108) (by decide +kernel) rfl, cd_X5_readFirst, ⟨by decide +kernel, by decide +kernel, by decide +kernel⟩⟩
set_option maxRecDepth 100000 in
theorem cd_X5_readNext : Cond.code yX5_readNext cX5_readNext 3 (some .boolean) ∈ lw_U := lw_Uin (i := 1066) (rfl) rfl
theorem cw_X5_50 : CVk "Lastbus$Row" 50 yX5_readNext cX5_readNext 3 (some .boolean) 0 := ⟨lw_Uin (i := 1063) (by decide +kernel) rfl, lw_Uin (i := 1065) (by decide +kernel) rfl, lw_Uin (i := 14) (by decide +kernel) rfl, lw_Uin (i := 108) (by decide +kernel) rfl, cd_X5_readNext, ⟨by decide +kernel, by decide +kernel, by decide +kernel⟩⟩
set_option maxRecDepth 100000 in
theorem cd_X5_readNumber : Cond.code yX5_readNumber cX5_readNumber 2 (some .boolean) ∈ lw_U := lw_Uin (i := 1054) (rfl) rfl
theorem cw_X5_53 : CVk "Lastbus$Row" 53 yX5_readNumber cX5_readNumber 2 (some .boolean) 0 := ⟨lw_Uin (i := 1051) (by decide +kernel) rfl, lw_Uin (i := 1053) (by decide +kernel) rfl, lw_Uin (i := 11) (by decide +kernel) rfl, lw_Uin (i := 108) (by decide +kernel) rfl, cd_X5_readNumber, ⟨by decide +kernel, by decide +kernel, by decide +kernel⟩⟩
set_option maxRecDepth 100000 in
theorem cd_X5_readSign : Cond.code yX5_readSign cX5_readSign 2 (some .boolean) ∈ lw_U := lw_Uin (i := 1058) (rfl) rfl
theorem cw_X5_62 : CVk "Lastbus$Row" 62 yX5_readSign cX5_readSign 2 (some .boolean) 1 := ⟨lw_Uin (i := 1055) (by decide +kernel) rfl, lw_Uin (i := 1057) (by decide +kernel) rfl, lw_Uin (i := 12) (by decide +kernel) rfl, lw_Uin (i := 108) (by decide +kernel) rfl, cd_X5_readSign, ⟨by decide +kernel, by decide +kernel, by decide +kernel⟩⟩
set_option maxRecDepth 100000 in
theorem cd_X5_keep : Cond.code yX5_keep cX5_keep 4 none ∈ lw_U := lw_Uin (i := 1062) (rfl) rfl
theorem cw_X5_66 : CVk "Lastbus$Row" 66 yX5_keep cX5_keep 4 none 3 := ⟨lw_Uin (i := 1059) (by decide +kernel) rfl, lw_Uin (i := 1061) (by decide +kernel) rfl, lw_Uin (i := 13) (by decide +kernel) rfl, lw_Uin (i := 108) (by decide +kernel) rfl, cd_X5_keep, ⟨by decide +kernel, by decide +kernel, by decide +kernel⟩⟩
theorem cw_X6_48 : CVk "Lastbus$Search" 48 yX2_begin cX2_begin 3 none 2 := ⟨lw_Uin (i := 1170) (by decide +kernel) rfl, lw_Uin (i := 1171) (by decide +kernel) rfl, lw_Uin (i := 1172) (by decide +kernel) rfl, lw_Uin (i := 111) (by decide +kernel) rfl, cd_X2_begin, ⟨by decide +kernel, by decide +kernel, by decide +kernel⟩⟩
set_option maxRecDepth 100000 in
theorem cd_X6_readHops : Cond.code yX6_readHops cX6_readHops 7 none ∈ lw_U := lw_Uin (i := 1186) (rfl) rfl
theorem cw_X6_52 : CVk "Lastbus$Search" 52 yX6_readHops cX6_readHops 7 none 1 := ⟨lw_Uin (i := 1183) (by decide +kernel) rfl, lw_Uin (i := 1185) (by decide +kernel) rfl, lw_Uin (i := 20) (by decide +kernel) rfl, lw_Uin (i := 110) (by decide +kernel) rfl, cd_X6_readHops, ⟨by decide +kernel, by decide +kernel, by decide +kernel⟩⟩
theorem cw_X6_56 : CVk "Lastbus$Search" 56 yX2_clear cX2_clear 2 none 0 := ⟨lw_Uin (i := 1349) (by decide +kernel) rfl, lw_Uin (i := 1175) (by decide +kernel) rfl, lw_Uin (i := 1176) (by decide +kernel) rfl, lw_Uin (i := 111) (by decide +kernel) rfl, cd_X2_clear, ⟨by decide +kernel, by decide +kernel, by decide +kernel⟩⟩
theorem cw_X6_81 : CVk "Lastbus$Search" 81 yX2_getOff cX2_getOff 3 (some .boolean) 2 := ⟨lw_Uin (i := 1201) (by decide +kernel) rfl, lw_Uin (i := 1202) (by decide +kernel) rfl, lw_Uin (i := 1203) (by decide +kernel) rfl, lw_Uin (i := 111) (by decide +kernel) rfl, cd_X2_getOff, ⟨by decide +kernel, by decide +kernel, by decide +kernel⟩⟩
set_option maxRecDepth 100000 in
theorem cd_X6_leaveRuns : Cond.code yX6_leaveRuns cX6_leaveRuns 2 none ∈ lw_U := lw_Uin (i := 1190) (rfl) rfl
theorem cw_X6_85 : CVk "Lastbus$Search" 85 yX6_leaveRuns cX6_leaveRuns 2 none 0 := ⟨lw_Uin (i := 1187) (by decide +kernel) rfl, lw_Uin (i := 1189) (by decide +kernel) rfl, lw_Uin (i := 21) (by decide +kernel) rfl, lw_Uin (i := 110) (by decide +kernel) rfl, cd_X6_leaveRuns, ⟨by decide +kernel, by decide +kernel, by decide +kernel⟩⟩
set_option maxRecDepth 100000 in
theorem cd_X3_runOf : Cond.code yX3_runOf cX3_runOf 1 (some .int) ∈ lw_U := lw_Uin (i := 1193) (rfl) rfl
theorem cw_X6_94 : CSk "Lastbus$Search" 94 yX3_runOf cX3_runOf 1 (some .int) 1 := ⟨lw_Uin (i := 1191) (by decide +kernel) rfl, lw_Uin (i := 1192) (by decide +kernel) rfl, lw_Uin (i := 109) (by decide +kernel) rfl, cd_X3_runOf, ⟨by decide +kernel, by decide +kernel, by decide +kernel⟩⟩
set_option maxRecDepth 100000 in
theorem cd_X3_callOf : Cond.code yX3_callOf cX3_callOf 1 (some .int) ∈ lw_U := lw_Uin (i := 1196) (rfl) rfl
theorem cw_X6_98 : CSk "Lastbus$Search" 98 yX3_callOf cX3_callOf 1 (some .int) 1 := ⟨lw_Uin (i := 1194) (by decide +kernel) rfl, lw_Uin (i := 1195) (by decide +kernel) rfl, lw_Uin (i := 109) (by decide +kernel) rfl, cd_X3_callOf, ⟨by decide +kernel, by decide +kernel, by decide +kernel⟩⟩
theorem cw_X6_101 : CVk "Lastbus$Search" 101 yX2_canGetOn cX2_canGetOn 3 (some .boolean) 2 := ⟨lw_Uin (i := 1197) (by decide +kernel) rfl, lw_Uin (i := 1198) (by decide +kernel) rfl, lw_Uin (i := 1199) (by decide +kernel) rfl, lw_Uin (i := 111) (by decide +kernel) rfl, cd_X2_canGetOn, ⟨by decide +kernel, by decide +kernel, by decide +kernel⟩⟩
set_option maxRecDepth 100000 in
theorem cd_X6_lastLeaveByRides : Cond.code yX6_lastLeaveByRides cX6_lastLeaveByRides 6 (some .int) ∈ lw_U := lw_Uin (i := 1282) (rfl) rfl
theorem cw_X6_104 : CVk "Lastbus$Search" 104 yX6_lastLeaveByRides cX6_lastLeaveByRides 6 (some .int) 3 := ⟨lw_Uin (i := 1279) (by decide +kernel) rfl, lw_Uin (i := 1281) (by decide +kernel) rfl, lw_Uin (i := 26) (by decide +kernel) rfl, lw_Uin (i := 110) (by decide +kernel) rfl, cd_X6_lastLeaveByRides, ⟨by decide +kernel, by decide +kernel, by decide +kernel⟩⟩
set_option maxRecDepth 100000 in
theorem cd_X6_scanBack : Cond.code yX6_scanBack cX6_scanBack 7 none ∈ lw_U := lw_Uin (i := 1286) (rfl) rfl
theorem cw_X6_119 : CVk "Lastbus$Search" 119 yX6_scanBack cX6_scanBack 7 none 2 := ⟨lw_Uin (i := 1283) (by decide +kernel) rfl, lw_Uin (i := 1285) (by decide +kernel) rfl, lw_Uin (i := 27) (by decide +kernel) rfl, lw_Uin (i := 110) (by decide +kernel) rfl, cd_X6_scanBack, ⟨by decide +kernel, by decide +kernel, by decide +kernel⟩⟩
set_option maxRecDepth 100000 in
theorem cd_X6_getOnBack : Cond.code yX6_getOnBack cX6_getOnBack 4 none ∈ lw_U := lw_Uin (i := 1290) (rfl) rfl
theorem cw_X6_131 : CVk "Lastbus$Search" 131 yX6_getOnBack cX6_getOnBack 4 none 2 := ⟨lw_Uin (i := 1287) (by decide +kernel) rfl, lw_Uin (i := 1289) (by decide +kernel) rfl, lw_Uin (i := 28) (by decide +kernel) rfl, lw_Uin (i := 110) (by decide +kernel) rfl, cd_X6_getOnBack, ⟨by decide +kernel, by decide +kernel, by decide +kernel⟩⟩
set_option maxRecDepth 100000 in
theorem cd_X6_nearest : Cond.code yX6_nearest cX6_nearest 5 (some .int) ∈ lw_U := lw_Uin (i := 1224) (rfl) rfl
theorem cw_X6_137 : CVk "Lastbus$Search" 137 yX6_nearest cX6_nearest 5 (some .int) 0 := ⟨lw_Uin (i := 1221) (by decide +kernel) rfl, lw_Uin (i := 1223) (by decide +kernel) rfl, lw_Uin (i := 22) (by decide +kernel) rfl, lw_Uin (i := 110) (by decide +kernel) rfl, cd_X6_nearest, ⟨by decide +kernel, by decide +kernel, by decide +kernel⟩⟩
set_option maxRecDepth 100000 in
theorem cd_X6_minuteAt : Cond.code yX6_minuteAt cX6_minuteAt 2 (some .int) ∈ lw_U := lw_Uin (i := 1229) (rfl) rfl
theorem cw_X6_141 : CVk "Lastbus$Search" 141 yX6_minuteAt cX6_minuteAt 2 (some .int) 1 := ⟨lw_Uin (i := 1226) (by decide +kernel) rfl, lw_Uin (i := 1228) (by decide +kernel) rfl, lw_Uin (i := 23) (by decide +kernel) rfl, lw_Uin (i := 110) (by decide +kernel) rfl, cd_X6_minuteAt, ⟨by decide +kernel, by decide +kernel, by decide +kernel⟩⟩
set_option maxRecDepth 100000 in
theorem cd_X6_getOnAll : Cond.code yX6_getOnAll cX6_getOnAll 6 none ∈ lw_U := lw_Uin (i := 1233) (rfl) rfl
theorem cw_X6_144 : CVk "Lastbus$Search" 144 yX6_getOnAll cX6_getOnAll 6 none 2 := ⟨lw_Uin (i := 1230) (by decide +kernel) rfl, lw_Uin (i := 1232) (by decide +kernel) rfl, lw_Uin (i := 24) (by decide +kernel) rfl, lw_Uin (i := 110) (by decide +kernel) rfl, cd_X6_getOnAll, ⟨by decide +kernel, by decide +kernel, by decide +kernel⟩⟩
theorem cw_X6_157 : CVk "Lastbus$Search" 157 yX6_scan cX6_scan 3 none 2 := ⟨lw_Uin (i := 1365) (by decide +kernel) rfl, lw_Uin (i := 1167) (by decide +kernel) rfl, lw_Uin (i := 1168) (by decide +kernel) rfl, lw_Uin (i := 110) (by decide +kernel) rfl, cd_X6_scan, ⟨by decide +kernel, by decide +kernel, by decide +kernel⟩⟩
set_option maxRecDepth 100000 in
theorem cd_X2_atByRides : Cond.code yX2_atByRides cX2_atByRides 4 (some .int) ∈ lw_U := lw_Uin (i := 1369) (rfl) rfl
theorem cw_X6_160 : CVk "Lastbus$Search" 160 yX2_atByRides cX2_atByRides 4 (some .int) 1 := ⟨lw_Uin (i := 1366) (by decide +kernel) rfl, lw_Uin (i := 1367) (by decide +kernel) rfl, lw_Uin (i := 1368) (by decide +kernel) rfl, lw_Uin (i := 111) (by decide +kernel) rfl, cd_X2_atByRides, ⟨by decide +kernel, by decide +kernel, by decide +kernel⟩⟩
theorem cw_X7_19 : CVk "Lastbus$Services" 19 yX7_isOn cX7_isOn 3 (some .boolean) 2 := ⟨lw_Uin (i := 642) (by decide +kernel) rfl, lw_Uin (i := 643) (by decide +kernel) rfl, lw_Uin (i := 644) (by decide +kernel) rfl, lw_Uin (i := 105) (by decide +kernel) rfl, cd_X7_isOn, ⟨by decide +kernel, by decide +kernel, by decide +kernel⟩⟩
set_option maxRecDepth 100000 in
theorem cd_X8_linkVia : Cond.code yX8_linkVia cX8_linkVia 5 none ∈ lw_U := lw_Uin (i := 830) (rfl) rfl
theorem cw_X8_31 : CVk "Lastbus$Stops" 31 yX8_linkVia cX8_linkVia 5 none 2 := ⟨lw_Uin (i := 827) (by decide +kernel) rfl, lw_Uin (i := 829) (by decide +kernel) rfl, lw_Uin (i := 2) (by decide +kernel) rfl, lw_Uin (i := 104) (by decide +kernel) rfl, cd_X8_linkVia, ⟨by decide +kernel, by decide +kernel, by decide +kernel⟩⟩
theorem cw_X9_33 : CVk "Lastbus$Trips" 33 yX9_add cX9_add 6 none 4 := ⟨lw_Uin (i := 936) (by decide +kernel) rfl, lw_Uin (i := 937) (by decide +kernel) rfl, lw_Uin (i := 938) (by decide +kernel) rfl, lw_Uin (i := 106) (by decide +kernel) rfl, cd_X9_add, ⟨by decide +kernel, by decide +kernel, by decide +kernel⟩⟩
theorem cw_X10_57 : CVk "Lastbus$Wishes" 57 yX7_isOn cX7_isOn 3 (some .boolean) 2 := ⟨lw_Uin (i := 1467) (by decide +kernel) rfl, lw_Uin (i := 643) (by decide +kernel) rfl, lw_Uin (i := 644) (by decide +kernel) rfl, lw_Uin (i := 105) (by decide +kernel) rfl, cd_X7_isOn, ⟨by decide +kernel, by decide +kernel, by decide +kernel⟩⟩
set_option maxRecDepth 100000 in
theorem cd_X10_tellDelays : Cond.code yX10_tellDelays cX10_tellDelays 5 none ∈ lw_U := lw_Uin (i := 1456) (rfl) rfl
theorem cw_X10_63 : CVk "Lastbus$Wishes" 63 yX10_tellDelays cX10_tellDelays 5 none 1 := ⟨lw_Uin (i := 1453) (by decide +kernel) rfl, lw_Uin (i := 1455) (by decide +kernel) rfl, lw_Uin (i := 38) (by decide +kernel) rfl, lw_Uin (i := 113) (by decide +kernel) rfl, cd_X10_tellDelays, ⟨by decide +kernel, by decide +kernel, by decide +kernel⟩⟩
set_option maxRecDepth 100000 in
theorem cd_X10_holdOnce : Cond.code yX10_holdOnce cX10_holdOnce 5 (some .boolean) ∈ lw_U := lw_Uin (i := 1462) (rfl) rfl
theorem cw_X10_67 : CVk "Lastbus$Wishes" 67 yX10_holdOnce cX10_holdOnce 5 (some .boolean) 2 := ⟨lw_Uin (i := 1459) (by decide +kernel) rfl, lw_Uin (i := 1461) (by decide +kernel) rfl, lw_Uin (i := 39) (by decide +kernel) rfl, lw_Uin (i := 113) (by decide +kernel) rfl, cd_X10_holdOnce, ⟨by decide +kernel, by decide +kernel, by decide +kernel⟩⟩
set_option maxRecDepth 100000 in
theorem cd_X10_isWithinLimit : Cond.code yX10_isWithinLimit cX10_isWithinLimit 2 (some .boolean) ∈ lw_U := lw_Uin (i := 1480) (rfl) rfl
theorem cw_X10_70 : CVk "Lastbus$Wishes" 70 yX10_isWithinLimit cX10_isWithinLimit 2 (some .boolean) 0 := ⟨lw_Uin (i := 1477) (by decide +kernel) rfl, lw_Uin (i := 1479) (by decide +kernel) rfl, lw_Uin (i := 43) (by decide +kernel) rfl, lw_Uin (i := 113) (by decide +kernel) rfl, cd_X10_isWithinLimit, ⟨by decide +kernel, by decide +kernel, by decide +kernel⟩⟩
theorem cw_X10_75 : CVk "Lastbus$Wishes" 75 yX0_find cX0_find 4 (some .int) 2 := ⟨lw_Uin (i := 1457) (by decide +kernel) rfl, lw_Uin (i := 1104) (by decide +kernel) rfl, lw_Uin (i := 1105) (by decide +kernel) rfl, lw_Uin (i := 107) (by decide +kernel) rfl, cd_X0_find, ⟨by decide +kernel, by decide +kernel, by decide +kernel⟩⟩
theorem cw_X10_84 : CVk "Lastbus$Wishes" 84 yX0_at cX0_at 3 (some .int) 2 := ⟨lw_Uin (i := 1458) (by decide +kernel) rfl, lw_Uin (i := 1124) (by decide +kernel) rfl, lw_Uin (i := 1125) (by decide +kernel) rfl, lw_Uin (i := 107) (by decide +kernel) rfl, cd_X0_at, ⟨by decide +kernel, by decide +kernel, by decide +kernel⟩⟩
set_option maxRecDepth 100000 in
theorem cd_X10_isCounted : Cond.code yX10_isCounted cX10_isCounted 3 (some .boolean) ∈ lw_U := lw_Uin (i := 1466) (rfl) rfl
theorem cw_X10_87 : CVk "Lastbus$Wishes" 87 yX10_isCounted cX10_isCounted 3 (some .boolean) 2 := ⟨lw_Uin (i := 1463) (by decide +kernel) rfl, lw_Uin (i := 1465) (by decide +kernel) rfl, lw_Uin (i := 40) (by decide +kernel) rfl, lw_Uin (i := 113) (by decide +kernel) rfl, cd_X10_isCounted, ⟨by decide +kernel, by decide +kernel, by decide +kernel⟩⟩
set_option maxRecDepth 100000 in
theorem cd_X10_hold : Cond.code yX10_hold cX10_hold 5 (some .boolean) ∈ lw_U := lw_Uin (i := 1471) (rfl) rfl
theorem cw_X10_90 : CVk "Lastbus$Wishes" 90 yX10_hold cX10_hold 5 (some .boolean) 1 := ⟨lw_Uin (i := 1468) (by decide +kernel) rfl, lw_Uin (i := 1470) (by decide +kernel) rfl, lw_Uin (i := 41) (by decide +kernel) rfl, lw_Uin (i := 113) (by decide +kernel) rfl, cd_X10_hold, ⟨by decide +kernel, by decide +kernel, by decide +kernel⟩⟩
set_option maxRecDepth 100000 in
theorem cd_X10_gap : Cond.code yX10_gap cX10_gap 6 (some .int) ∈ lw_U := lw_Uin (i := 1475) (rfl) rfl
theorem cw_X10_94 : CVk "Lastbus$Wishes" 94 yX10_gap cX10_gap 6 (some .int) 1 := ⟨lw_Uin (i := 1472) (by decide +kernel) rfl, lw_Uin (i := 1474) (by decide +kernel) rfl, lw_Uin (i := 42) (by decide +kernel) rfl, lw_Uin (i := 113) (by decide +kernel) rfl, cd_X10_gap, ⟨by decide +kernel, by decide +kernel, by decide +kernel⟩⟩
set_option maxRecDepth 100000 in
theorem cd_X12_isIn : Cond.code yX12_isIn cX12_isIn 3 (some .boolean) ∈ lw_U := lw_Uin (i := 1802) (rfl) rfl
theorem cw_X12_126 : CSk "LastbusModel" 126 yX12_isIn cX12_isIn 3 (some .boolean) 3 := ⟨lw_Uin (i := 1800) (by decide +kernel) rfl, lw_Uin (i := 1801) (by decide +kernel) rfl, lw_Uin (i := 115) (by decide +kernel) rfl, cd_X12_isIn, ⟨by decide +kernel, by decide +kernel, by decide +kernel⟩⟩
set_option maxRecDepth 100000 in
theorem cd_X12_isThrown : Cond.code yX12_isThrown cX12_isThrown 3 (some .boolean) ∈ lw_U := lw_Uin (i := 1806) (rfl) rfl
theorem cw_X12_130 : CVk "LastbusModel" 130 yX12_isThrown cX12_isThrown 3 (some .boolean) 2 := ⟨lw_Uin (i := 1803) (by decide +kernel) rfl, lw_Uin (i := 1805) (by decide +kernel) rfl, lw_Uin (i := 56) (by decide +kernel) rfl, lw_Uin (i := 115) (by decide +kernel) rfl, cd_X12_isThrown, ⟨by decide +kernel, by decide +kernel, by decide +kernel⟩⟩
set_option maxRecDepth 100000 in
theorem cd_X12_isNoTrip : Cond.code yX12_isNoTrip cX12_isNoTrip 2 (some .boolean) ∈ lw_U := lw_Uin (i := 1871) (rfl) rfl
theorem cw_X12_140 : CVk "LastbusModel" 140 yX12_isNoTrip cX12_isNoTrip 2 (some .boolean) 1 := ⟨lw_Uin (i := 1868) (by decide +kernel) rfl, lw_Uin (i := 1870) (by decide +kernel) rfl, lw_Uin (i := 62) (by decide +kernel) rfl, lw_Uin (i := 115) (by decide +kernel) rfl, cd_X12_isNoTrip, ⟨by decide +kernel, by decide +kernel, by decide +kernel⟩⟩
set_option maxRecDepth 100000 in
theorem cd_X12_walks : Cond.code yX12_walks cX12_walks 5 none ∈ lw_U := lw_Uin (i := 1810) (rfl) rfl
theorem cw_X12_144 : CVk "LastbusModel" 144 yX12_walks cX12_walks 5 none 0 := ⟨lw_Uin (i := 1807) (by decide +kernel) rfl, lw_Uin (i := 1809) (by decide +kernel) rfl, lw_Uin (i := 57) (by decide +kernel) rfl, lw_Uin (i := 115) (by decide +kernel) rfl, cd_X12_walks, ⟨by decide +kernel, by decide +kernel, by decide +kernel⟩⟩
set_option maxRecDepth 100000 in
theorem cd_X12_isNoStop : Cond.code yX12_isNoStop cX12_isNoStop 2 (some .boolean) ∈ lw_U := lw_Uin (i := 1819) (rfl) rfl
theorem cw_X12_147 : CVk "LastbusModel" 147 yX12_isNoStop cX12_isNoStop 2 (some .boolean) 1 := ⟨lw_Uin (i := 1816) (by decide +kernel) rfl, lw_Uin (i := 1818) (by decide +kernel) rfl, lw_Uin (i := 58) (by decide +kernel) rfl, lw_Uin (i := 115) (by decide +kernel) rfl, cd_X12_isNoStop, ⟨by decide +kernel, by decide +kernel, by decide +kernel⟩⟩
set_option maxRecDepth 100000 in
theorem cd_X12_isNoService : Cond.code yX12_isNoService cX12_isNoService 2 (some .boolean) ∈ lw_U := lw_Uin (i := 1839) (rfl) rfl
theorem cw_X12_151 : CVk "LastbusModel" 151 yX12_isNoService cX12_isNoService 2 (some .boolean) 1 := ⟨lw_Uin (i := 1836) (by decide +kernel) rfl, lw_Uin (i := 1838) (by decide +kernel) rfl, lw_Uin (i := 59) (by decide +kernel) rfl, lw_Uin (i := 115) (by decide +kernel) rfl, cd_X12_isNoService, ⟨by decide +kernel, by decide +kernel, by decide +kernel⟩⟩
set_option maxRecDepth 100000 in
theorem cd_X12_isNoDay : Cond.code yX12_isNoDay cX12_isNoDay 3 (some .boolean) ∈ lw_U := lw_Uin (i := 1847) (rfl) rfl
theorem cw_X12_154 : CVk "LastbusModel" 154 yX12_isNoDay cX12_isNoDay 3 (some .boolean) 2 := ⟨lw_Uin (i := 1844) (by decide +kernel) rfl, lw_Uin (i := 1846) (by decide +kernel) rfl, lw_Uin (i := 60) (by decide +kernel) rfl, lw_Uin (i := 115) (by decide +kernel) rfl, cd_X12_isNoDay, ⟨by decide +kernel, by decide +kernel, by decide +kernel⟩⟩
set_option maxRecDepth 100000 in
theorem cd_X12_added : Cond.code yX12_added cX12_added 4 (some .int) ∈ lw_U := lw_Uin (i := 1863) (rfl) rfl
theorem cw_X12_158 : CVk "LastbusModel" 158 yX12_added cX12_added 4 (some .int) 3 := ⟨lw_Uin (i := 1860) (by decide +kernel) rfl, lw_Uin (i := 1862) (by decide +kernel) rfl, lw_Uin (i := 61) (by decide +kernel) rfl, lw_Uin (i := 115) (by decide +kernel) rfl, cd_X12_added, ⟨by decide +kernel, by decide +kernel, by decide +kernel⟩⟩
set_option maxRecDepth 100000 in
theorem cd_X12_isNoCall : Cond.code yX12_isNoCall cX12_isNoCall 3 (some .boolean) ∈ lw_U := lw_Uin (i := 1887) (rfl) rfl
theorem cw_X12_162 : CVk "LastbusModel" 162 yX12_isNoCall cX12_isNoCall 3 (some .boolean) 2 := ⟨lw_Uin (i := 1884) (by decide +kernel) rfl, lw_Uin (i := 1886) (by decide +kernel) rfl, lw_Uin (i := 63) (by decide +kernel) rfl, lw_Uin (i := 115) (by decide +kernel) rfl, cd_X12_isNoCall, ⟨by decide +kernel, by decide +kernel, by decide +kernel⟩⟩
set_option maxRecDepth 100000 in
theorem cd_X12_isShiftWrong : Cond.code yX12_isShiftWrong cX12_isShiftWrong 5 (some .boolean) ∈ lw_U := lw_Uin (i := 1899) (rfl) rfl
theorem cw_X12_165 : CVk "LastbusModel" 165 yX12_isShiftWrong cX12_isShiftWrong 5 (some .boolean) 2 := ⟨lw_Uin (i := 1896) (by decide +kernel) rfl, lw_Uin (i := 1898) (by decide +kernel) rfl, lw_Uin (i := 64) (by decide +kernel) rfl, lw_Uin (i := 115) (by decide +kernel) rfl, cd_X12_isShiftWrong, ⟨by decide +kernel, by decide +kernel, by decide +kernel⟩⟩
set_option maxRecDepth 100000 in
theorem cd_X12_move : Cond.code yX12_move cX12_move 4 none ∈ lw_U := lw_Uin (i := 1903) (rfl) rfl
theorem cw_X12_168 : CVk "LastbusModel" 168 yX12_move cX12_move 4 none 2 := ⟨lw_Uin (i := 1900) (by decide +kernel) rfl, lw_Uin (i := 1902) (by decide +kernel) rfl, lw_Uin (i := 65) (by decide +kernel) rfl, lw_Uin (i := 115) (by decide +kernel) rfl, cd_X12_move, ⟨by decide +kernel, by decide +kernel, by decide +kernel⟩⟩
set_option maxRecDepth 100000 in
theorem cd_X12_told : Cond.code yX12_told cX12_told 3 none ∈ lw_U := lw_Uin (i := 1927) (rfl) rfl
theorem cw_X12_178 : CVk "LastbusModel" 178 yX12_told cX12_told 3 none 2 := ⟨lw_Uin (i := 1924) (by decide +kernel) rfl, lw_Uin (i := 1926) (by decide +kernel) rfl, lw_Uin (i := 67) (by decide +kernel) rfl, lw_Uin (i := 115) (by decide +kernel) rfl, cd_X12_told, ⟨by decide +kernel, by decide +kernel, by decide +kernel⟩⟩
set_option maxRecDepth 100000 in
theorem cd_X12_read : Cond.code yX12_read cX12_read 7 (some .int) ∈ lw_U := lw_Uin (i := 1923) (rfl) rfl
theorem cw_X12_180 : CVk "LastbusModel" 180 yX12_read cX12_read 7 (some .int) 0 := ⟨lw_Uin (i := 1920) (by decide +kernel) rfl, lw_Uin (i := 1922) (by decide +kernel) rfl, lw_Uin (i := 66) (by decide +kernel) rfl, lw_Uin (i := 115) (by decide +kernel) rfl, cd_X12_read, ⟨by decide +kernel, by decide +kernel, by decide +kernel⟩⟩
set_option maxRecDepth 100000 in
theorem cd_X12_isRowWrong : Cond.code yX12_isRowWrong cX12_isRowWrong 5 (some .boolean) ∈ lw_U := lw_Uin (i := 1931) (rfl) rfl
theorem cw_X12_184 : CVk "LastbusModel" 184 yX12_isRowWrong cX12_isRowWrong 5 (some .boolean) 0 := ⟨lw_Uin (i := 1928) (by decide +kernel) rfl, lw_Uin (i := 1930) (by decide +kernel) rfl, lw_Uin (i := 68) (by decide +kernel) rfl, lw_Uin (i := 115) (by decide +kernel) rfl, cd_X12_isRowWrong, ⟨by decide +kernel, by decide +kernel, by decide +kernel⟩⟩
set_option maxRecDepth 100000 in
theorem cd_X12_lateAt : Cond.code yX12_lateAt cX12_lateAt 5 (some .int) ∈ lw_U := lw_Uin (i := 1943) (rfl) rfl
theorem cw_X12_191 : CVk "LastbusModel" 191 yX12_lateAt cX12_lateAt 5 (some .int) 2 := ⟨lw_Uin (i := 1940) (by decide +kernel) rfl, lw_Uin (i := 1942) (by decide +kernel) rfl, lw_Uin (i := 69) (by decide +kernel) rfl, lw_Uin (i := 115) (by decide +kernel) rfl, cd_X12_lateAt, ⟨by decide +kernel, by decide +kernel, by decide +kernel⟩⟩
set_option maxRecDepth 100000 in
theorem cd_X12_lateOf : Cond.code yX12_lateOf cX12_lateOf 5 (some .int) ∈ lw_U := lw_Uin (i := 1951) (rfl) rfl
theorem cw_X12_195 : CVk "LastbusModel" 195 yX12_lateOf cX12_lateOf 5 (some .int) 3 := ⟨lw_Uin (i := 1948) (by decide +kernel) rfl, lw_Uin (i := 1950) (by decide +kernel) rfl, lw_Uin (i := 70) (by decide +kernel) rfl, lw_Uin (i := 115) (by decide +kernel) rfl, cd_X12_lateOf, ⟨by decide +kernel, by decide +kernel, by decide +kernel⟩⟩
set_option maxRecDepth 100000 in
theorem cd_X12_nowhere : Cond.code yX12_nowhere cX12_nowhere 2 none ∈ lw_U := lw_Uin (i := 1975) (rfl) rfl
theorem cw_X12_201 : CVk "LastbusModel" 201 yX12_nowhere cX12_nowhere 2 none 0 := ⟨lw_Uin (i := 1972) (by decide +kernel) rfl, lw_Uin (i := 1974) (by decide +kernel) rfl, lw_Uin (i := 74) (by decide +kernel) rfl, lw_Uin (i := 115) (by decide +kernel) rfl, cd_X12_nowhere, ⟨by decide +kernel, by decide +kernel, by decide +kernel⟩⟩
set_option maxRecDepth 100000 in
theorem cd_X12_isRun : Cond.code yX12_isRun cX12_isRun 4 (some .boolean) ∈ lw_U := lw_Uin (i := 1983) (rfl) rfl
theorem cw_X12_208 : CVk "LastbusModel" 208 yX12_isRun cX12_isRun 4 (some .boolean) 1 := ⟨lw_Uin (i := 1980) (by decide +kernel) rfl, lw_Uin (i := 1982) (by decide +kernel) rfl, lw_Uin (i := 76) (by decide +kernel) rfl, lw_Uin (i := 115) (by decide +kernel) rfl, cd_X12_isRun, ⟨by decide +kernel, by decide +kernel, by decide +kernel⟩⟩
set_option maxRecDepth 100000 in
theorem cd_X12_rideOn : Cond.code yX12_rideOn cX12_rideOn 4 none ∈ lw_U := lw_Uin (i := 1987) (rfl) rfl
theorem cw_X12_211 : CVk "LastbusModel" 211 yX12_rideOn cX12_rideOn 4 none 1 := ⟨lw_Uin (i := 1984) (by decide +kernel) rfl, lw_Uin (i := 1986) (by decide +kernel) rfl, lw_Uin (i := 77) (by decide +kernel) rfl, lw_Uin (i := 115) (by decide +kernel) rfl, cd_X12_rideOn, ⟨by decide +kernel, by decide +kernel, by decide +kernel⟩⟩
set_option maxRecDepth 100000 in
theorem cd_X12_stopIn : Cond.code yX12_stopIn cX12_stopIn 3 (some .int) ∈ lw_U := lw_Uin (i := 1991) (rfl) rfl
theorem cw_X12_214 : CVk "LastbusModel" 214 yX12_stopIn cX12_stopIn 3 (some .int) 2 := ⟨lw_Uin (i := 1988) (by decide +kernel) rfl, lw_Uin (i := 1990) (by decide +kernel) rfl, lw_Uin (i := 78) (by decide +kernel) rfl, lw_Uin (i := 115) (by decide +kernel) rfl, cd_X12_stopIn, ⟨by decide +kernel, by decide +kernel, by decide +kernel⟩⟩
set_option maxRecDepth 100000 in
theorem cd_X12_comesAt : Cond.code yX12_comesAt cX12_comesAt 5 (some .int) ∈ lw_U := lw_Uin (i := 1995) (rfl) rfl
theorem cw_X12_217 : CVk "LastbusModel" 217 yX12_comesAt cX12_comesAt 5 (some .int) 2 := ⟨lw_Uin (i := 1992) (by decide +kernel) rfl, lw_Uin (i := 1994) (by decide +kernel) rfl, lw_Uin (i := 79) (by decide +kernel) rfl, lw_Uin (i := 115) (by decide +kernel) rfl, cd_X12_comesAt, ⟨by decide +kernel, by decide +kernel, by decide +kernel⟩⟩
set_option maxRecDepth 100000 in
theorem cd_X12_getsOff : Cond.code yX12_getsOff cX12_getsOff 5 none ∈ lw_U := lw_Uin (i := 1999) (rfl) rfl
theorem cw_X12_220 : CVk "LastbusModel" 220 yX12_getsOff cX12_getsOff 5 none 2 := ⟨lw_Uin (i := 1996) (by decide +kernel) rfl, lw_Uin (i := 1998) (by decide +kernel) rfl, lw_Uin (i := 80) (by decide +kernel) rfl, lw_Uin (i := 115) (by decide +kernel) rfl, cd_X12_getsOff, ⟨by decide +kernel, by decide +kernel, by decide +kernel⟩⟩
set_option maxRecDepth 100000 in
theorem cd_X12_leavesAt : Cond.code yX12_leavesAt cX12_leavesAt 5 (some .int) ∈ lw_U := lw_Uin (i := 2003) (rfl) rfl
theorem cw_X12_223 : CVk "LastbusModel" 223 yX12_leavesAt cX12_leavesAt 5 (some .int) 2 := ⟨lw_Uin (i := 2000) (by decide +kernel) rfl, lw_Uin (i := 2002) (by decide +kernel) rfl, lw_Uin (i := 81) (by decide +kernel) rfl, lw_Uin (i := 115) (by decide +kernel) rfl, cd_X12_leavesAt, ⟨by decide +kernel, by decide +kernel, by decide +kernel⟩⟩
set_option maxRecDepth 100000 in
theorem cd_X12_getsOn : Cond.code yX12_getsOn cX12_getsOn 3 (some .boolean) ∈ lw_U := lw_Uin (i := 2007) (rfl) rfl
theorem cw_X12_226 : CVk "LastbusModel" 226 yX12_getsOn cX12_getsOn 3 (some .boolean) 2 := ⟨lw_Uin (i := 2004) (by decide +kernel) rfl, lw_Uin (i := 2006) (by decide +kernel) rfl, lw_Uin (i := 82) (by decide +kernel) rfl, lw_Uin (i := 115) (by decide +kernel) rfl, cd_X12_getsOn, ⟨by decide +kernel, by decide +kernel, by decide +kernel⟩⟩
set_option maxRecDepth 100000 in
theorem cd_X12_begin : Cond.code yX12_begin cX12_begin 5 none ∈ lw_U := lw_Uin (i := 1971) (rfl) rfl
theorem cw_X12_229 : CVk "LastbusModel" 229 yX12_begin cX12_begin 5 none 2 := ⟨lw_Uin (i := 1968) (by decide +kernel) rfl, lw_Uin (i := 1970) (by decide +kernel) rfl, lw_Uin (i := 73) (by decide +kernel) rfl, lw_Uin (i := 115) (by decide +kernel) rfl, cd_X12_begin, ⟨by decide +kernel, by decide +kernel, by decide +kernel⟩⟩
set_option maxRecDepth 100000 in
theorem cd_X12_settle : Cond.code yX12_settle cX12_settle 2 none ∈ lw_U := lw_Uin (i := 1979) (rfl) rfl
theorem cw_X12_232 : CVk "LastbusModel" 232 yX12_settle cX12_settle 2 none 0 := ⟨lw_Uin (i := 1976) (by decide +kernel) rfl, lw_Uin (i := 1978) (by decide +kernel) rfl, lw_Uin (i := 75) (by decide +kernel) rfl, lw_Uin (i := 115) (by decide +kernel) rfl, cd_X12_settle, ⟨by decide +kernel, by decide +kernel, by decide +kernel⟩⟩
set_option maxRecDepth 100000 in
theorem cd_X12_at : Cond.code yX12_at cX12_at 2 (some .int) ∈ lw_U := lw_Uin (i := 2011) (rfl) rfl
theorem cw_X12_235 : CVk "LastbusModel" 235 yX12_at cX12_at 2 (some .int) 1 := ⟨lw_Uin (i := 2008) (by decide +kernel) rfl, lw_Uin (i := 2010) (by decide +kernel) rfl, lw_Uin (i := 83) (by decide +kernel) rfl, lw_Uin (i := 115) (by decide +kernel) rfl, cd_X12_at, ⟨by decide +kernel, by decide +kernel, by decide +kernel⟩⟩
set_option maxRecDepth 100000 in
theorem cd_X12_isAskedWrong : Cond.code yX12_isAskedWrong cX12_isAskedWrong 5 (some .boolean) ∈ lw_U := lw_Uin (i := 1963) (rfl) rfl
theorem cw_X12_239 : CVk "LastbusModel" 239 yX12_isAskedWrong cX12_isAskedWrong 5 (some .boolean) 4 := ⟨lw_Uin (i := 1960) (by decide +kernel) rfl, lw_Uin (i := 1962) (by decide +kernel) rfl, lw_Uin (i := 71) (by decide +kernel) rfl, lw_Uin (i := 115) (by decide +kernel) rfl, cd_X12_isAskedWrong, ⟨by decide +kernel, by decide +kernel, by decide +kernel⟩⟩
set_option maxRecDepth 100000 in
theorem cd_X12_earliestOf : Cond.code yX12_earliestOf cX12_earliestOf 5 (some .int) ∈ lw_U := lw_Uin (i := 1967) (rfl) rfl
theorem cw_X12_243 : CVk "LastbusModel" 243 yX12_earliestOf cX12_earliestOf 5 (some .int) 4 := ⟨lw_Uin (i := 1964) (by decide +kernel) rfl, lw_Uin (i := 1966) (by decide +kernel) rfl, lw_Uin (i := 72) (by decide +kernel) rfl, lw_Uin (i := 115) (by decide +kernel) rfl, cd_X12_earliestOf, ⟨by decide +kernel, by decide +kernel, by decide +kernel⟩⟩
set_option maxRecDepth 100000 in
theorem cd_X12_earliest : Cond.code yX12_earliest cX12_earliest 6 (some .int) ∈ lw_U := lw_Uin (i := 1959) (rfl) rfl
theorem cw_X12_247 : CVk "LastbusModel" 247 yX12_earliest cX12_earliest 6 (some .int) 4 := ⟨lw_Uin (i := 2016) (by decide +kernel) rfl, lw_Uin (i := 1957) (by decide +kernel) rfl, lw_Uin (i := 1958) (by decide +kernel) rfl, lw_Uin (i := 115) (by decide +kernel) rfl, cd_X12_earliest, ⟨by decide +kernel, by decide +kernel, by decide +kernel⟩⟩
set_option maxRecDepth 100000 in
theorem cd_X12_keepRound : Cond.code yX12_keepRound cX12_keepRound 2 none ∈ lw_U := lw_Uin (i := 2048) (rfl) rfl
theorem cw_X12_253 : CVk "LastbusModel" 253 yX12_keepRound cX12_keepRound 2 none 0 := ⟨lw_Uin (i := 2045) (by decide +kernel) rfl, lw_Uin (i := 2047) (by decide +kernel) rfl, lw_Uin (i := 85) (by decide +kernel) rfl, lw_Uin (i := 115) (by decide +kernel) rfl, cd_X12_keepRound, ⟨by decide +kernel, by decide +kernel, by decide +kernel⟩⟩
set_option maxRecDepth 100000 in
theorem cd_X12_getsOnBy : Cond.code yX12_getsOnBy cX12_getsOnBy 4 (some .boolean) ∈ lw_U := lw_Uin (i := 2052) (rfl) rfl
theorem cw_X12_256 : CVk "LastbusModel" 256 yX12_getsOnBy cX12_getsOnBy 4 (some .boolean) 3 := ⟨lw_Uin (i := 2049) (by decide +kernel) rfl, lw_Uin (i := 2051) (by decide +kernel) rfl, lw_Uin (i := 86) (by decide +kernel) rfl, lw_Uin (i := 115) (by decide +kernel) rfl, cd_X12_getsOnBy, ⟨by decide +kernel, by decide +kernel, by decide +kernel⟩⟩
set_option maxRecDepth 100000 in
theorem cd_X12_atBy : Cond.code yX12_atBy cX12_atBy 5 (some .int) ∈ lw_U := lw_Uin (i := 2060) (rfl) rfl
theorem cw_X12_259 : CVk "LastbusModel" 259 yX12_atBy cX12_atBy 5 (some .int) 2 := ⟨lw_Uin (i := 2057) (by decide +kernel) rfl, lw_Uin (i := 2059) (by decide +kernel) rfl, lw_Uin (i := 88) (by decide +kernel) rfl, lw_Uin (i := 115) (by decide +kernel) rfl, cd_X12_atBy, ⟨by decide +kernel, by decide +kernel, by decide +kernel⟩⟩
set_option maxRecDepth 100000 in
theorem cd_X12_tellRounds : Cond.code yX12_tellRounds cX12_tellRounds 7 none ∈ lw_U := lw_Uin (i := 2044) (rfl) rfl
theorem cw_X12_268 : CVk "LastbusModel" 268 yX12_tellRounds cX12_tellRounds 7 none 3 := ⟨lw_Uin (i := 2041) (by decide +kernel) rfl, lw_Uin (i := 2043) (by decide +kernel) rfl, lw_Uin (i := 84) (by decide +kernel) rfl, lw_Uin (i := 115) (by decide +kernel) rfl, cd_X12_tellRounds, ⟨by decide +kernel, by decide +kernel, by decide +kernel⟩⟩
set_option maxRecDepth 100000 in
theorem cd_X12_choicesOf : Cond.code yX12_choicesOf cX12_choicesOf 7 (some .int) ∈ lw_U := lw_Uin (i := 2056) (rfl) rfl
theorem cw_X12_272 : CVk "LastbusModel" 272 yX12_choicesOf cX12_choicesOf 7 (some .int) 2 := ⟨lw_Uin (i := 2053) (by decide +kernel) rfl, lw_Uin (i := 2055) (by decide +kernel) rfl, lw_Uin (i := 87) (by decide +kernel) rfl, lw_Uin (i := 115) (by decide +kernel) rfl, cd_X12_choicesOf, ⟨by decide +kernel, by decide +kernel, by decide +kernel⟩⟩
set_option maxRecDepth 100000 in
theorem cd_X12_findRide : Cond.code yX12_findRide cX12_findRide 10 none ∈ lw_U := lw_Uin (i := 2072) (rfl) rfl
theorem cw_X12_275 : CVk "LastbusModel" 275 yX12_findRide cX12_findRide 10 none 4 := ⟨lw_Uin (i := 2069) (by decide +kernel) rfl, lw_Uin (i := 2071) (by decide +kernel) rfl, lw_Uin (i := 89) (by decide +kernel) rfl, lw_Uin (i := 115) (by decide +kernel) rfl, cd_X12_findRide, ⟨by decide +kernel, by decide +kernel, by decide +kernel⟩⟩
set_option maxRecDepth 100000 in
theorem cd_X12_leaveBefore : Cond.code yX12_leaveBefore cX12_leaveBefore 8 (some .int) ∈ lw_U := lw_Uin (i := 2088) (rfl) rfl
theorem cw_X12_282 : CVk "LastbusModel" 282 yX12_leaveBefore cX12_leaveBefore 8 (some .int) 2 := ⟨lw_Uin (i := 2085) (by decide +kernel) rfl, lw_Uin (i := 2087) (by decide +kernel) rfl, lw_Uin (i := 91) (by decide +kernel) rfl, lw_Uin (i := 115) (by decide +kernel) rfl, cd_X12_leaveBefore, ⟨by decide +kernel, by decide +kernel, by decide +kernel⟩⟩
set_option maxRecDepth 100000 in
theorem cd_X12_byRide : Cond.code yX12_byRide cX12_byRide 5 (some .int) ∈ lw_U := lw_Uin (i := 2092) (rfl) rfl
theorem cw_X12_285 : CVk "LastbusModel" 285 yX12_byRide cX12_byRide 5 (some .int) 1 := ⟨lw_Uin (i := 2089) (by decide +kernel) rfl, lw_Uin (i := 2091) (by decide +kernel) rfl, lw_Uin (i := 92) (by decide +kernel) rfl, lw_Uin (i := 115) (by decide +kernel) rfl, cd_X12_byRide, ⟨by decide +kernel, by decide +kernel, by decide +kernel⟩⟩
set_option maxRecDepth 100000 in
theorem cd_X12_tellPairs : Cond.code yX12_tellPairs cX12_tellPairs 8 none ∈ lw_U := lw_Uin (i := 2084) (rfl) rfl
theorem cw_X12_288 : CVk "LastbusModel" 288 yX12_tellPairs cX12_tellPairs 8 none 3 := ⟨lw_Uin (i := 2081) (by decide +kernel) rfl, lw_Uin (i := 2083) (by decide +kernel) rfl, lw_Uin (i := 90) (by decide +kernel) rfl, lw_Uin (i := 115) (by decide +kernel) rfl, cd_X12_tellPairs, ⟨by decide +kernel, by decide +kernel, by decide +kernel⟩⟩
set_option maxRecDepth 100000 in
theorem cd_X12_isChangeWrong : Cond.code yX12_isChangeWrong cX12_isChangeWrong 5 (some .boolean) ∈ lw_U := lw_Uin (i := 2104) (rfl) rfl
theorem cw_X12_291 : CVk "LastbusModel" 291 yX12_isChangeWrong cX12_isChangeWrong 5 (some .boolean) 4 := ⟨lw_Uin (i := 2101) (by decide +kernel) rfl, lw_Uin (i := 2103) (by decide +kernel) rfl, lw_Uin (i := 93) (by decide +kernel) rfl, lw_Uin (i := 115) (by decide +kernel) rfl, cd_X12_isChangeWrong, ⟨by decide +kernel, by decide +kernel, by decide +kernel⟩⟩
set_option maxRecDepth 100000 in
theorem cd_X12_runs : Cond.code yX12_runs cX12_runs 3 (some .boolean) ∈ lw_U := lw_Uin (i := 2108) (rfl) rfl
theorem cw_X12_294 : CVk "LastbusModel" 294 yX12_runs cX12_runs 3 (some .boolean) 2 := ⟨lw_Uin (i := 2105) (by decide +kernel) rfl, lw_Uin (i := 2107) (by decide +kernel) rfl, lw_Uin (i := 94) (by decide +kernel) rfl, lw_Uin (i := 115) (by decide +kernel) rfl, cd_X12_runs, ⟨by decide +kernel, by decide +kernel, by decide +kernel⟩⟩
set_option maxRecDepth 100000 in
theorem cd_X12_counts : Cond.code yX12_counts cX12_counts 3 (some .boolean) ∈ lw_U := lw_Uin (i := 2128) (rfl) rfl
theorem cw_X12_300 : CVk "LastbusModel" 300 yX12_counts cX12_counts 3 (some .boolean) 2 := ⟨lw_Uin (i := 2125) (by decide +kernel) rfl, lw_Uin (i := 2127) (by decide +kernel) rfl, lw_Uin (i := 96) (by decide +kernel) rfl, lw_Uin (i := 115) (by decide +kernel) rfl, cd_X12_counts, ⟨by decide +kernel, by decide +kernel, by decide +kernel⟩⟩
set_option maxRecDepth 100000 in
theorem cd_X12_missedBy : Cond.code yX12_missedBy cX12_missedBy 5 (some .int) ∈ lw_U := lw_Uin (i := 2132) (rfl) rfl
theorem cw_X12_303 : CVk "LastbusModel" 303 yX12_missedBy cX12_missedBy 5 (some .int) 1 := ⟨lw_Uin (i := 2129) (by decide +kernel) rfl, lw_Uin (i := 2131) (by decide +kernel) rfl, lw_Uin (i := 97) (by decide +kernel) rfl, lw_Uin (i := 115) (by decide +kernel) rfl, cd_X12_missedBy, ⟨by decide +kernel, by decide +kernel, by decide +kernel⟩⟩
set_option maxRecDepth 100000 in
theorem cd_X12_costOf : Cond.code yX12_costOf cX12_costOf 7 (some .int) ∈ lw_U := lw_Uin (i := 2124) (rfl) rfl
theorem cw_X12_306 : CVk "LastbusModel" 306 yX12_costOf cX12_costOf 7 (some .int) 2 := ⟨lw_Uin (i := 2121) (by decide +kernel) rfl, lw_Uin (i := 2123) (by decide +kernel) rfl, lw_Uin (i := 95) (by decide +kernel) rfl, lw_Uin (i := 115) (by decide +kernel) rfl, cd_X12_costOf, ⟨by decide +kernel, by decide +kernel, by decide +kernel⟩⟩
set_option maxRecDepth 100000 in
theorem cd_X12_tellAll : Cond.code yX12_tellAll cX12_tellAll 6 none ∈ lw_U := lw_Uin (i := 2148) (rfl) rfl
theorem cw_X12_309 : CVk "LastbusModel" 309 yX12_tellAll cX12_tellAll 6 none 2 := ⟨lw_Uin (i := 2145) (by decide +kernel) rfl, lw_Uin (i := 2147) (by decide +kernel) rfl, lw_Uin (i := 99) (by decide +kernel) rfl, lw_Uin (i := 115) (by decide +kernel) rfl, cd_X12_tellAll, ⟨by decide +kernel, by decide +kernel, by decide +kernel⟩⟩
set_option maxRecDepth 100000 in
theorem cd_X12_lostBy : Cond.code yX12_lostBy cX12_lostBy 6 (some .int) ∈ lw_U := lw_Uin (i := 2144) (rfl) rfl
theorem cw_X12_312 : CVk "LastbusModel" 312 yX12_lostBy cX12_lostBy 6 (some .int) 2 := ⟨lw_Uin (i := 2141) (by decide +kernel) rfl, lw_Uin (i := 2143) (by decide +kernel) rfl, lw_Uin (i := 98) (by decide +kernel) rfl, lw_Uin (i := 115) (by decide +kernel) rfl, cd_X12_lostBy, ⟨by decide +kernel, by decide +kernel, by decide +kernel⟩⟩
set_option maxRecDepth 100000 in
theorem cd_X12_put : Cond.code yX12_put cX12_put 4 (some .int) ∈ lw_U := lw_Uin (i := 2159) (rfl) rfl
theorem cw_X12_315 : CSk "LastbusModel" 315 yX12_put cX12_put 4 (some .int) 3 := ⟨lw_Uin (i := 2157) (by decide +kernel) rfl, lw_Uin (i := 2158) (by decide +kernel) rfl, lw_Uin (i := 115) (by decide +kernel) rfl, cd_X12_put, ⟨by decide +kernel, by decide +kernel, by decide +kernel⟩⟩
set_option maxRecDepth 100000 in
theorem cd_X12_endStop : Cond.code yX12_endStop cX12_endStop 2 (some .int) ∈ lw_U := lw_Uin (i := 2163) (rfl) rfl
theorem cw_X12_319 : CVk "LastbusModel" 319 yX12_endStop cX12_endStop 2 (some .int) 1 := ⟨lw_Uin (i := 2160) (by decide +kernel) rfl, lw_Uin (i := 2162) (by decide +kernel) rfl, lw_Uin (i := 100) (by decide +kernel) rfl, lw_Uin (i := 115) (by decide +kernel) rfl, cd_X12_endStop, ⟨by decide +kernel, by decide +kernel, by decide +kernel⟩⟩
set_option maxRecDepth 100000 in
theorem cd_X12_vehicles : Cond.code yX12_vehicles cX12_vehicles 8 (some .int) ∈ lw_U := lw_Uin (i := 2156) (rfl) rfl
theorem cw_X12_322 : CVk "LastbusModel" 322 yX12_vehicles cX12_vehicles 8 (some .int) 1 := ⟨lw_Uin (i := 2168) (by decide +kernel) rfl, lw_Uin (i := 2154) (by decide +kernel) rfl, lw_Uin (i := 2155) (by decide +kernel) rfl, lw_Uin (i := 115) (by decide +kernel) rfl, cd_X12_vehicles, ⟨by decide +kernel, by decide +kernel, by decide +kernel⟩⟩
set_option maxRecDepth 100000 in
theorem cd_X12_other : Cond.code yX12_other cX12_other 11 (some .int) ∈ lw_U := lw_Uin (i := 2176) (rfl) rfl
theorem cw_X12_325 : CVk "LastbusModel" 325 yX12_other cX12_other 11 (some .int) 5 := ⟨lw_Uin (i := 2173) (by decide +kernel) rfl, lw_Uin (i := 2175) (by decide +kernel) rfl, lw_Uin (i := 101) (by decide +kernel) rfl, lw_Uin (i := 115) (by decide +kernel) rfl, cd_X12_other, ⟨by decide +kernel, by decide +kernel, by decide +kernel⟩⟩
theorem kc_X11_420 : Cond.constant "Lastbus" 420 (i32 1000000) ∈ lw_U := lw_Uin (i := 834) (by decide +kernel) rfl
theorem kc_X2_28 : Cond.constant "Lastbus$Labels" 28 (i32 1000000) ∈ lw_U := lw_Uin (i := 1178) (by decide +kernel) rfl
theorem kc_X4_86 : Cond.constant "Lastbus$Rounds" 86 (i32 1000000) ∈ lw_U := lw_Uin (i := 1400) (by decide +kernel) rfl
theorem kc_X6_153 : Cond.constant "Lastbus$Search" 153 (i32 1000000) ∈ lw_U := lw_Uin (i := 1225) (by decide +kernel) rfl
theorem kc_X8_30 : Cond.constant "Lastbus$Stops" 30 (i32 1000000) ∈ lw_U := lw_Uin (i := 826) (by decide +kernel) rfl
theorem kc_X12_150 : Cond.constant "LastbusModel" 150 (i32 1000000) ∈ lw_U := lw_Uin (i := 1811) (by decide +kernel) rfl
theorem kl_X11_423 : Cond.constantLong "Lastbus" 423 7 ∈ lw_U := lw_Uin (i := 626) (by decide +kernel) rfl
theorem kl_X11_431 : Cond.constantLong "Lastbus" 431 31 ∈ lw_U := lw_Uin (i := 646) (by decide +kernel) rfl
theorem kl_X7_23 : Cond.constantLong "Lastbus$Services" 23 31 ∈ lw_U := lw_Uin (i := 641) (by decide +kernel) rfl
theorem kl_X8_35 : Cond.constantLong "Lastbus$Stops" 35 31 ∈ lw_U := lw_Uin (i := 631) (by decide +kernel) rfl
theorem kl_X9_37 : Cond.constantLong "Lastbus$Trips" 37 31 ∈ lw_U := lw_Uin (i := 636) (by decide +kernel) rfl
theorem kl_X12_329 : Cond.constantLong "LastbusModel" 329 7 ∈ lw_U := lw_Uin (i := 2193) (by decide +kernel) rfl
theorem kl_X12_331 : Cond.constantLong "LastbusModel" 331 31 ∈ lw_U := lw_Uin (i := 2194) (by decide +kernel) rfl
set_option maxRecDepth 100000 in
theorem mm_X11_358 : MMk "Lastbus" 358 Lib.Math.min.name Lib.Math.min.code := ⟨lw_Uin (i := 1157) (by decide +kernel) rfl, lw_Uin (i := 1158) (by decide +kernel) rfl, lw_Uin (i := 127) (by decide +kernel) rfl, lw_Uin (i := 1159) (rfl) rfl⟩
set_option maxRecDepth 100000 in
theorem mm_X2_46 : MMk "Lastbus$Labels" 46 Lib.Math.min.name Lib.Math.min.code := ⟨lw_Uin (i := 1209) (by decide +kernel) rfl, lw_Uin (i := 1158) (by decide +kernel) rfl, lw_Uin (i := 127) (by decide +kernel) rfl, lw_Uin (i := 1159) (rfl) rfl⟩
set_option maxRecDepth 100000 in
theorem mm_X6_113 : MMk "Lastbus$Search" 113 Lib.Math.max.name Lib.Math.max.code := ⟨lw_Uin (i := 1291) (by decide +kernel) rfl, lw_Uin (i := 1292) (by decide +kernel) rfl, lw_Uin (i := 127) (by decide +kernel) rfl, lw_Uin (i := 1293) (rfl) rfl⟩
set_option maxRecDepth 100000 in
theorem mm_X10_98 : MMk "Lastbus$Wishes" 98 Lib.Math.max.name Lib.Math.max.code := ⟨lw_Uin (i := 1476) (by decide +kernel) rfl, lw_Uin (i := 1292) (by decide +kernel) rfl, lw_Uin (i := 127) (by decide +kernel) rfl, lw_Uin (i := 1293) (rfl) rfl⟩
theorem ac_X11_490 : ACk "Lastbus" 490 := ⟨lw_Uin (i := 1163) (by decide +kernel) rfl, lw_Uin (i := 1165) (by decide +kernel) rfl, lw_Uin (i := 1164) (by decide +kernel) rfl, lw_Uin (i := 128) (by decide +kernel) rfl⟩
theorem th_mem {ws : List Cond} (ps : List Nat) (h : ws = ps.filterMap (fun i => lw_tbl[i]?)) : ∀ w ∈ ws, w ∈ lw_tbl := by
  intro w hw
  rw [h] at hw
  obtain ⟨i, -, hi⟩ := List.mem_filterMap.mp hw
  exact List.mem_of_getElem? hi
set_option maxRecDepth 100000 in
theorem th_X11_96_98_100 : THk "Lastbus" 96 98 100 1 "there are 12 stops" := ⟨lw_Uin (i := 731) (by decide +kernel) rfl, lw_Uin (i := 120) (by decide +kernel) rfl, th_mem [116, 681, 690, 698, 701, 703, 682, 683, 136, 137, 684, 689, 699, 719, 671, 720, 673, 721, 675, 685, 687, 677, 715, 716, 718, 677, 742, 743, 744, 709, 663, 709, 710, 711, 712, 665, 712, 713, 714, 715, 667, 741, 732, 733, 734, 694, 735, 736, 737, 738, 717, 679, 739] (by rfl), by decide +kernel, by decide +kernel, by decide +kernel⟩
set_option maxRecDepth 100000 in
theorem th_X11_96_132_100 : THk "Lastbus" 96 132 100 1 "there are 6 services" := ⟨lw_Uin (i := 731) (by decide +kernel) rfl, lw_Uin (i := 120) (by decide +kernel) rfl, th_mem [116, 681, 690, 698, 701, 703, 682, 683, 136, 137, 684, 689, 699, 719, 671, 720, 673, 721, 675, 685, 687, 677, 715, 716, 718, 677, 742, 743, 744, 709, 663, 709, 710, 711, 712, 665, 712, 713, 714, 715, 667, 741, 732, 733, 734, 694, 735, 736, 737, 738, 717, 679, 739] (by rfl), by decide +kernel, by decide +kernel, by decide +kernel⟩
set_option maxRecDepth 100000 in
theorem th_X11_96_198_100 : THk "Lastbus" 96 198 100 1 "it has 8 calls" := ⟨lw_Uin (i := 731) (by decide +kernel) rfl, lw_Uin (i := 120) (by decide +kernel) rfl, th_mem [116, 681, 690, 698, 701, 703, 682, 683, 136, 137, 684, 689, 699, 719, 671, 720, 673, 721, 675, 685, 687, 677, 715, 716, 718, 677, 742, 743, 744, 709, 663, 709, 710, 711, 712, 665, 712, 713, 714, 715, 667, 741, 732, 733, 734, 694, 735, 736, 737, 738, 717, 679, 739] (by rfl), by decide +kernel, by decide +kernel, by decide +kernel⟩
set_option maxRecDepth 100000 in
theorem th_X11_96_269_100 : THk "Lastbus" 96 269 100 1 "12 are told" := ⟨lw_Uin (i := 731) (by decide +kernel) rfl, lw_Uin (i := 120) (by decide +kernel) rfl, th_mem [116, 681, 690, 698, 701, 703, 682, 683, 136, 137, 684, 689, 699, 719, 671, 720, 673, 721, 675, 685, 687, 677, 715, 716, 718, 677, 742, 743, 744, 709, 663, 709, 710, 711, 712, 665, 712, 713, 714, 715, 667, 741, 732, 733, 734, 694, 735, 736, 737, 738, 717, 679, 739] (by rfl), by decide +kernel, by decide +kernel, by decide +kernel⟩
set_option maxRecDepth 100000 in
theorem th_X11_96_384_100 : THk "Lastbus" 96 384 100 1 "there are 6 wishes" := ⟨lw_Uin (i := 731) (by decide +kernel) rfl, lw_Uin (i := 120) (by decide +kernel) rfl, th_mem [116, 681, 690, 698, 701, 703, 682, 683, 136, 137, 684, 689, 699, 719, 671, 720, 673, 721, 675, 685, 687, 677, 715, 716, 718, 677, 742, 743, 744, 709, 663, 709, 710, 711, 712, 665, 712, 713, 714, 715, 667, 741, 732, 733, 734, 694, 735, 736, 737, 738, 717, 679, 739] (by rfl), by decide +kernel, by decide +kernel, by decide +kernel⟩
set_option maxRecDepth 100000 in
theorem th_X11_96_470_100 : THk "Lastbus" 96 470 100 1 "there are 24 trips" := ⟨lw_Uin (i := 731) (by decide +kernel) rfl, lw_Uin (i := 120) (by decide +kernel) rfl, th_mem [116, 681, 690, 698, 701, 703, 682, 683, 136, 137, 684, 689, 699, 719, 671, 720, 673, 721, 675, 685, 687, 677, 715, 716, 718, 677, 742, 743, 744, 709, 663, 709, 710, 711, 712, 665, 712, 713, 714, 715, 667, 741, 732, 733, 734, 694, 735, 736, 737, 738, 717, 679, 739] (by rfl), by decide +kernel, by decide +kernel, by decide +kernel⟩
set_option maxRecDepth 100000 in
theorem th_X11_96_472_100 : THk "Lastbus" 96 472 100 1 "more than 80 signs would be typed" := ⟨lw_Uin (i := 731) (by decide +kernel) rfl, lw_Uin (i := 120) (by decide +kernel) rfl, th_mem [116, 681, 690, 698, 701, 703, 682, 683, 136, 137, 684, 689, 699, 719, 671, 720, 673, 721, 675, 685, 687, 677, 715, 716, 718, 677, 742, 743, 744, 709, 663, 709, 710, 711, 712, 665, 712, 713, 714, 715, 667, 741, 732, 733, 734, 694, 735, 736, 737, 738, 717, 679, 739] (by rfl), by decide +kernel, by decide +kernel, by decide +kernel⟩
set_option maxRecDepth 100000 in
theorem th_X11_143_145_147 : THk "Lastbus" 143 145 147 0 "the last day is ahead of the first one" := ⟨lw_Uin (i := 659) (by decide +kernel) rfl, lw_Uin (i := 119) (by decide +kernel) rfl, th_mem [116, 681, 690, 698, 701, 703, 682, 683, 136, 137, 684, 689, 699, 719, 671, 720, 673, 721, 675, 685, 687, 677, 715, 716, 718, 677, 706, 707, 708, 709, 663, 709, 710, 711, 712, 665, 712, 713, 714, 715, 667, 705, 660, 661, 668, 669, 670, 672, 674, 676, 717, 679, 678] (by rfl), by decide +kernel, by decide +kernel, by decide +kernel⟩
set_option maxRecDepth 100000 in
theorem th_X11_143_193_147 : THk "Lastbus" 143 193 147 0 "the times are not as told" := ⟨lw_Uin (i := 659) (by decide +kernel) rfl, lw_Uin (i := 119) (by decide +kernel) rfl, th_mem [116, 681, 690, 698, 701, 703, 682, 683, 136, 137, 684, 689, 699, 719, 671, 720, 673, 721, 675, 685, 687, 677, 715, 716, 718, 677, 706, 707, 708, 709, 663, 709, 710, 711, 712, 665, 712, 713, 714, 715, 667, 705, 660, 661, 668, 669, 670, 672, 674, 676, 717, 679, 678] (by rfl), by decide +kernel, by decide +kernel, by decide +kernel⟩
set_option maxRecDepth 100000 in
theorem th_X11_143_232_147 : THk "Lastbus" 143 232 147 0 "it is no table row" := ⟨lw_Uin (i := 659) (by decide +kernel) rfl, lw_Uin (i := 119) (by decide +kernel) rfl, th_mem [116, 681, 690, 698, 701, 703, 682, 683, 136, 137, 684, 689, 699, 719, 671, 720, 673, 721, 675, 685, 687, 677, 715, 716, 718, 677, 706, 707, 708, 709, 663, 709, 710, 711, 712, 665, 712, 713, 714, 715, 667, 705, 660, 661, 668, 669, 670, 672, 674, 676, 717, 679, 678] (by rfl), by decide +kernel, by decide +kernel, by decide +kernel⟩
set_option maxRecDepth 100000 in
theorem th_X11_143_314_147 : THk "Lastbus" 143 314 147 0 "there is no such letter" := ⟨lw_Uin (i := 659) (by decide +kernel) rfl, lw_Uin (i := 119) (by decide +kernel) rfl, th_mem [116, 681, 690, 698, 701, 703, 682, 683, 136, 137, 684, 689, 699, 719, 671, 720, 673, 721, 675, 685, 687, 677, 715, 716, 718, 677, 706, 707, 708, 709, 663, 709, 710, 711, 712, 665, 712, 713, 714, 715, 667, 705, 660, 661, 668, 669, 670, 672, 674, 676, 717, 679, 678] (by rfl), by decide +kernel, by decide +kernel, by decide +kernel⟩
set_option maxRecDepth 100000 in
theorem th_X11_143_442_147 : THk "Lastbus" 143 442 147 0 "a number is out of range" := ⟨lw_Uin (i := 659) (by decide +kernel) rfl, lw_Uin (i := 119) (by decide +kernel) rfl, th_mem [116, 681, 690, 698, 701, 703, 682, 683, 136, 137, 684, 689, 699, 719, 671, 720, 673, 721, 675, 685, 687, 677, 715, 716, 718, 677, 706, 707, 708, 709, 663, 709, 710, 711, 712, 665, 712, 713, 714, 715, 667, 705, 660, 661, 668, 669, 670, 672, 674, 676, 717, 679, 678] (by rfl), by decide +kernel, by decide +kernel, by decide +kernel⟩
set_option maxRecDepth 100000 in
theorem th_X11_143_444_147 : THk "Lastbus" 143 444 147 0 "both are the same" := ⟨lw_Uin (i := 659) (by decide +kernel) rfl, lw_Uin (i := 119) (by decide +kernel) rfl, th_mem [116, 681, 690, 698, 701, 703, 682, 683, 136, 137, 684, 689, 699, 719, 671, 720, 673, 721, 675, 685, 687, 677, 715, 716, 718, 677, 706, 707, 708, 709, 663, 709, 710, 711, 712, 665, 712, 713, 714, 715, 667, 705, 660, 661, 668, 669, 670, 672, 674, 676, 717, 679, 678] (by rfl), by decide +kernel, by decide +kernel, by decide +kernel⟩
set_option maxRecDepth 100000 in
theorem th_X11_143_468_147 : THk "Lastbus" 143 468 147 0 "a call is not as told" := ⟨lw_Uin (i := 659) (by decide +kernel) rfl, lw_Uin (i := 119) (by decide +kernel) rfl, th_mem [116, 681, 690, 698, 701, 703, 682, 683, 136, 137, 684, 689, 699, 719, 671, 720, 673, 721, 675, 685, 687, 677, 715, 716, 718, 677, 706, 707, 708, 709, 663, 709, 710, 711, 712, 665, 712, 713, 714, 715, 667, 705, 660, 661, 668, 669, 670, 672, 674, 676, 717, 679, 678] (by rfl), by decide +kernel, by decide +kernel, by decide +kernel⟩
set_option maxRecDepth 100000 in
theorem th_X11_168_170_172 : THx "Lastbus" 168 170 172 "it runs on no day from there on" := ⟨lw_Uin (i := 835) (by decide +kernel) rfl, lw_Uin (i := 124) (by decide +kernel) rfl, th_mem [116, 681, 690, 698, 701, 703, 682, 683, 136, 137, 684, 689, 699, 719, 671, 720, 673, 721, 675, 685, 687, 677, 715, 716, 718, 677, 846, 847, 848, 709, 663, 709, 710, 711, 712, 665, 712, 713, 714, 715, 667, 845, 836, 837, 838, 697, 839, 840, 841, 842, 717, 679, 843] (by rfl), by decide +kernel, by decide +kernel, by decide +kernel⟩
set_option maxRecDepth 100000 in
theorem th_X11_168_257_172 : THx "Lastbus" 168 257 172 "there was no fault" := ⟨lw_Uin (i := 835) (by decide +kernel) rfl, lw_Uin (i := 124) (by decide +kernel) rfl, th_mem [116, 681, 690, 698, 701, 703, 682, 683, 136, 137, 684, 689, 699, 719, 671, 720, 673, 721, 675, 685, 687, 677, 715, 716, 718, 677, 846, 847, 848, 709, 663, 709, 710, 711, 712, 665, 712, 713, 714, 715, 667, 845, 836, 837, 838, 697, 839, 840, 841, 842, 717, 679, 843] (by rfl), by decide +kernel, by decide +kernel, by decide +kernel⟩
set_option maxRecDepth 100000 in
theorem th_X11_168_306_172 : THx "Lastbus" 168 306 172 "there is no such minute" := ⟨lw_Uin (i := 835) (by decide +kernel) rfl, lw_Uin (i := 124) (by decide +kernel) rfl, th_mem [116, 681, 690, 698, 701, 703, 682, 683, 136, 137, 684, 689, 699, 719, 671, 720, 673, 721, 675, 685, 687, 677, 715, 716, 718, 677, 846, 847, 848, 709, 663, 709, 710, 711, 712, 665, 712, 713, 714, 715, 667, 845, 836, 837, 838, 697, 839, 840, 841, 842, 717, 679, 843] (by rfl), by decide +kernel, by decide +kernel, by decide +kernel⟩
set_option maxRecDepth 100000 in
theorem th_X11_168_316_172 : THx "Lastbus" 168 316 172 "there is no such ride" := ⟨lw_Uin (i := 835) (by decide +kernel) rfl, lw_Uin (i := 124) (by decide +kernel) rfl, th_mem [116, 681, 690, 698, 701, 703, 682, 683, 136, 137, 684, 689, 699, 719, 671, 720, 673, 721, 675, 685, 687, 677, 715, 716, 718, 677, 846, 847, 848, 709, 663, 709, 710, 711, 712, 665, 712, 713, 714, 715, 667, 845, 836, 837, 838, 697, 839, 840, 841, 842, 717, 679, 843] (by rfl), by decide +kernel, by decide +kernel, by decide +kernel⟩
set_option maxRecDepth 100000 in
theorem th_X11_168_344_172 : THx "Lastbus" 168 344 172 "there is no such pair" := ⟨lw_Uin (i := 835) (by decide +kernel) rfl, lw_Uin (i := 124) (by decide +kernel) rfl, th_mem [116, 681, 690, 698, 701, 703, 682, 683, 136, 137, 684, 689, 699, 719, 671, 720, 673, 721, 675, 685, 687, 677, 715, 716, 718, 677, 846, 847, 848, 709, 663, 709, 710, 711, 712, 665, 712, 713, 714, 715, 667, 845, 836, 837, 838, 697, 839, 840, 841, 842, 717, 679, 843] (by rfl), by decide +kernel, by decide +kernel, by decide +kernel⟩
set_option maxRecDepth 100000 in
theorem th_X11_168_373_172 : THx "Lastbus" 168 373 172 "there is no such choice" := ⟨lw_Uin (i := 835) (by decide +kernel) rfl, lw_Uin (i := 124) (by decide +kernel) rfl, th_mem [116, 681, 690, 698, 701, 703, 682, 683, 136, 137, 684, 689, 699, 719, 671, 720, 673, 721, 675, 685, 687, 677, 715, 716, 718, 677, 846, 847, 848, 709, 663, 709, 710, 711, 712, 665, 712, 713, 714, 715, 667, 845, 836, 837, 838, 697, 839, 840, 841, 842, 717, 679, 843] (by rfl), by decide +kernel, by decide +kernel, by decide +kernel⟩
set_option maxRecDepth 100000 in
theorem th_X11_168_446_172 : THx "Lastbus" 168 446 172 "there is none" := ⟨lw_Uin (i := 835) (by decide +kernel) rfl, lw_Uin (i := 124) (by decide +kernel) rfl, th_mem [116, 681, 690, 698, 701, 703, 682, 683, 136, 137, 684, 689, 699, 719, 671, 720, 673, 721, 675, 685, 687, 677, 715, 716, 718, 677, 846, 847, 848, 709, 663, 709, 710, 711, 712, 665, 712, 713, 714, 715, 667, 845, 836, 837, 838, 697, 839, 840, 841, 842, 717, 679, 843] (by rfl), by decide +kernel, by decide +kernel, by decide +kernel⟩
set_option maxRecDepth 100000 in
theorem th_X11_237_239_241 : THk "Lastbus" 237 239 241 4 "there is no such service or stop, or the calls do not fit" := ⟨lw_Uin (i := 1072) (by decide +kernel) rfl, lw_Uin (i := 126) (by decide +kernel) rfl, th_mem [116, 681, 690, 698, 701, 703, 682, 683, 136, 137, 684, 689, 699, 719, 671, 720, 673, 721, 675, 685, 687, 677, 715, 716, 718, 677, 1083, 1084, 1085, 709, 663, 709, 710, 711, 712, 665, 712, 713, 714, 715, 667, 1082, 1073, 1074, 1075, 696, 1076, 1077, 1078, 1079, 717, 679, 1080] (by rfl), by decide +kernel, by decide +kernel, by decide +kernel⟩
set_option maxRecDepth 100000 in
theorem th_X11_237_333_241 : THk "Lastbus" 237 333 241 4 "this is its last call" := ⟨lw_Uin (i := 1072) (by decide +kernel) rfl, lw_Uin (i := 126) (by decide +kernel) rfl, th_mem [116, 681, 690, 698, 701, 703, 682, 683, 136, 137, 684, 689, 699, 719, 671, 720, 673, 721, 675, 685, 687, 677, 715, 716, 718, 677, 1083, 1084, 1085, 709, 663, 709, 710, 711, 712, 665, 712, 713, 714, 715, 667, 1082, 1073, 1074, 1075, 696, 1076, 1077, 1078, 1079, 717, 679, 1080] (by rfl), by decide +kernel, by decide +kernel, by decide +kernel⟩
set_option maxRecDepth 100000 in
theorem th_X11_237_381_241 : THk "Lastbus" 237 381 241 4 "the stops are not the same" := ⟨lw_Uin (i := 1072) (by decide +kernel) rfl, lw_Uin (i := 126) (by decide +kernel) rfl, th_mem [116, 681, 690, 698, 701, 703, 682, 683, 136, 137, 684, 689, 699, 719, 671, 720, 673, 721, 675, 685, 687, 677, 715, 716, 718, 677, 1083, 1084, 1085, 709, 663, 709, 710, 711, 712, 665, 712, 713, 714, 715, 667, 1082, 1073, 1074, 1075, 696, 1076, 1077, 1078, 1079, 717, 679, 1080] (by rfl), by decide +kernel, by decide +kernel, by decide +kernel⟩
set_option maxRecDepth 100000 in
theorem th_X11_237_466_241 : THk "Lastbus" 237 466 241 4 "it does not run on that day" := ⟨lw_Uin (i := 1072) (by decide +kernel) rfl, lw_Uin (i := 126) (by decide +kernel) rfl, th_mem [116, 681, 690, 698, 701, 703, 682, 683, 136, 137, 684, 689, 699, 719, 671, 720, 673, 721, 675, 685, 687, 677, 715, 716, 718, 677, 1083, 1084, 1085, 709, 663, 709, 710, 711, 712, 665, 712, 713, 714, 715, 667, 1082, 1073, 1074, 1075, 696, 1076, 1077, 1078, 1079, 717, 679, 1080] (by rfl), by decide +kernel, by decide +kernel, by decide +kernel⟩
set_option maxRecDepth 100000 in
theorem th_X11_415_417_419 : THk "Lastbus" 415 417 419 3 "there are fewer than two stops" := ⟨lw_Uin (i := 1605) (by decide +kernel) rfl, lw_Uin (i := 129) (by decide +kernel) rfl, th_mem [116, 681, 690, 698, 701, 703, 682, 683, 136, 137, 684, 689, 699, 719, 671, 720, 673, 721, 675, 685, 687, 677, 715, 716, 718, 677, 1589, 1590, 1591, 709, 663, 709, 710, 711, 712, 665, 712, 713, 714, 715, 667, 1607, 1588, 1599, 1600, 692, 1594, 1595, 1597, 1593, 717, 679, 1592] (by rfl), by decide +kernel, by decide +kernel, by decide +kernel⟩
set_option maxRecDepth 100000 in
theorem th_X11_415_421_419 : THk "Lastbus" 415 421 419 3 "there are no two calls of a trip" := ⟨lw_Uin (i := 1605) (by decide +kernel) rfl, lw_Uin (i := 129) (by decide +kernel) rfl, th_mem [116, 681, 690, 698, 701, 703, 682, 683, 136, 137, 684, 689, 699, 719, 671, 720, 673, 721, 675, 685, 687, 677, 715, 716, 718, 677, 1589, 1590, 1591, 709, 663, 709, 710, 711, 712, 665, 712, 713, 714, 715, 667, 1607, 1588, 1599, 1600, 692, 1594, 1595, 1597, 1593, 717, 679, 1592] (by rfl), by decide +kernel, by decide +kernel, by decide +kernel⟩
set_option maxRecDepth 100000 in
theorem th_X11_451_453_455 : THk "Lastbus" 451 453 455 2 "there is no such stop" := ⟨lw_Uin (i := 790) (by decide +kernel) rfl, lw_Uin (i := 121) (by decide +kernel) rfl, th_mem [116, 681, 690, 698, 701, 703, 682, 683, 136, 137, 684, 689, 699, 719, 671, 720, 673, 721, 675, 685, 687, 677, 715, 716, 718, 677, 759, 760, 761, 709, 663, 709, 710, 711, 712, 665, 712, 713, 714, 715, 667, 800, 791, 792, 793, 695, 794, 795, 796, 797, 717, 679, 798] (by rfl), by decide +kernel, by decide +kernel, by decide +kernel⟩
set_option maxRecDepth 100000 in
theorem th_X11_451_457_455 : THk "Lastbus" 451 457 455 2 "there is no such service" := ⟨lw_Uin (i := 790) (by decide +kernel) rfl, lw_Uin (i := 121) (by decide +kernel) rfl, th_mem [116, 681, 690, 698, 701, 703, 682, 683, 136, 137, 684, 689, 699, 719, 671, 720, 673, 721, 675, 685, 687, 677, 715, 716, 718, 677, 759, 760, 761, 709, 663, 709, 710, 711, 712, 665, 712, 713, 714, 715, 667, 800, 791, 792, 793, 695, 794, 795, 796, 797, 717, 679, 798] (by rfl), by decide +kernel, by decide +kernel, by decide +kernel⟩
set_option maxRecDepth 100000 in
theorem th_X11_451_460_455 : THk "Lastbus" 451 460 455 2 "there is no such trip" := ⟨lw_Uin (i := 790) (by decide +kernel) rfl, lw_Uin (i := 121) (by decide +kernel) rfl, th_mem [116, 681, 690, 698, 701, 703, 682, 683, 136, 137, 684, 689, 699, 719, 671, 720, 673, 721, 675, 685, 687, 677, 715, 716, 718, 677, 759, 760, 761, 709, 663, 709, 710, 711, 712, 665, 712, 713, 714, 715, 667, 800, 791, 792, 793, 695, 794, 795, 796, 797, 717, 679, 798] (by rfl), by decide +kernel, by decide +kernel, by decide +kernel⟩
set_option maxRecDepth 100000 in
theorem th_X11_451_462_455 : THk "Lastbus" 451 462 455 2 "there is no such call" := ⟨lw_Uin (i := 790) (by decide +kernel) rfl, lw_Uin (i := 121) (by decide +kernel) rfl, th_mem [116, 681, 690, 698, 701, 703, 682, 683, 136, 137, 684, 689, 699, 719, 671, 720, 673, 721, 675, 685, 687, 677, 715, 716, 718, 677, 759, 760, 761, 709, 663, 709, 710, 711, 712, 665, 712, 713, 714, 715, 667, 800, 791, 792, 793, 695, 794, 795, 796, 797, 717, 679, 798] (by rfl), by decide +kernel, by decide +kernel, by decide +kernel⟩
