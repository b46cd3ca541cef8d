/-! ===== floating point, over J; Integer.bitCount ===== -/
section FPR
variable {SH : List Sh} {G : Gl} {R : Room} {O : OutT} {C : Ct} {k n pc : Nat} {L : List (Nat × V)} {st : List V} {mm : Mem} {cc : ByteArray} {nL : Nat} {own : String} {ret : Option FieldType} {nx : Bool}
theorem s_fconst0 (X : Cx SH G R C cc nL own ret nx) (d : decode cc pc = .ok (.fconst 0, 1)) (kk : J SH G R O C k n (pc + 1) L (VF FP.fconst0 :: st) mm) : J SH G R O C k n pc L (st) mm := by
  obtain ⟨p, e, s, m, args, below, meth, c, A0⟩ := C
  obtain ⟨hx, hb, hml, hown, hts, hK, hr, hlk, hex, hXB, hst, hA⟩ := X
  intro h1 h2 h3 H locs ls hP hD hS hl
  exact lv_fconst0 hx hb d (kk h1 (ok_cons trivial h2) h3 H locs ls hP hD hS hl)
theorem s_dconst0 (X : Cx SH G R C cc nL own ret nx) (d : decode cc pc = .ok (.dconst 0, 1)) (kk : J SH G R O C k n (pc + 1) L (VD FP.dconst0 :: st) mm) : J SH G R O C k n pc L (st) mm := by
  obtain ⟨p, e, s, m, args, below, meth, c, A0⟩ := C
  obtain ⟨hx, hb, hml, hown, hts, hK, hr, hlk, hex, hXB, hst, hA⟩ := X
  intro h1 h2 h3 H locs ls hP hD hS hl
  exact lv_dconst0 hx hb d (kk h1 (ok_cons trivial h2) h3 H locs ls hP hD hS hl)
theorem s_i2f (X : Cx SH G R C cc nL own ret nx) {a : Int} (d : decode cc pc = .ok (.i2f, 1)) (kk : J SH G R O C k n (pc + 1) L (VF (FP.i2f (i32 a)) :: st) mm) : J SH G R O C k n pc L (VI a :: st) mm := by
  obtain ⟨p, e, s, m, args, below, meth, c, A0⟩ := C
  obtain ⟨hx, hb, hml, hown, hts, hK, hr, hlk, hex, hXB, hst, hA⟩ := X
  intro h1 h2 h3 H locs ls hP hD hS hl
  exact lv_i2f hx hb d (kk h1 (ok_cons trivial (ok_tl h2)) h3 H locs ls hP hD hS hl)
theorem s_i2d (X : Cx SH G R C cc nL own ret nx) {a : Int} (d : decode cc pc = .ok (.i2d, 1)) (kk : J SH G R O C k n (pc + 1) L (VD (FP.i2d (i32 a)) :: st) mm) : J SH G R O C k n pc L (VI a :: st) mm := by
  obtain ⟨p, e, s, m, args, below, meth, c, A0⟩ := C
  obtain ⟨hx, hb, hml, hown, hts, hK, hr, hlk, hex, hXB, hst, hA⟩ := X
  intro h1 h2 h3 H locs ls hP hD hS hl
  exact lv_i2d hx hb d (kk h1 (ok_cons trivial (ok_tl h2)) h3 H locs ls hP hD hS hl)
theorem s_fdiv (X : Cx SH G R C cc nL own ret nx) {a b : UInt32} (hn : vf_n32 (FP.fdiv a b)) (d : decode cc pc = .ok (.fdiv, 1)) (kk : J SH G R O C k n (pc + 1) L (VF (FP.fdiv a b) :: st) mm) : J SH G R O C k n pc L (VF b :: VF a :: st) mm := by
  obtain ⟨p, e, s, m, args, below, meth, c, A0⟩ := C
  obtain ⟨hx, hb, hml, hown, hts, hK, hr, hlk, hex, hXB, hst, hA⟩ := X
  intro h1 h2 h3 H locs ls hP hD hS hl
  exact lv_fdiv hx hb d hn (kk h1 (ok_cons trivial (ok_tl (ok_tl h2))) h3 H locs ls hP hD hS hl)
theorem s_ddiv (X : Cx SH G R C cc nL own ret nx) {a b : UInt64} (hn : vf_n64 (FP.ddiv a b)) (d : decode cc pc = .ok (.ddiv, 1)) (kk : J SH G R O C k n (pc + 1) L (VD (FP.ddiv a b) :: st) mm) : J SH G R O C k n pc L (VD b :: VD a :: st) mm := by
  obtain ⟨p, e, s, m, args, below, meth, c, A0⟩ := C
  obtain ⟨hx, hb, hml, hown, hts, hK, hr, hlk, hex, hXB, hst, hA⟩ := X
  intro h1 h2 h3 H locs ls hP hD hS hl
  exact lv_ddiv hx hb d hn (kk h1 (ok_cons trivial (ok_tl (ok_tl h2))) h3 H locs ls hP hD hS hl)
end FPR
theorem dJ6_bitCount_0f7a4_0 : decode cJ6_bitCount_0f7a4 0 = .ok (.iload_n 0, 1) := by decide +kernel
theorem dJ6_bitCount_0f7a4_1 : decode cJ6_bitCount_0f7a4 1 = .ok (.iload_n 0, 1) := by decide +kernel
theorem dJ6_bitCount_0f7a4_2 : decode cJ6_bitCount_0f7a4 2 = .ok (.iconst 1, 1) := by decide +kernel
theorem dJ6_bitCount_0f7a4_3 : decode cJ6_bitCount_0f7a4 3 = .ok (.iushr, 1) := by decide +kernel
theorem dJ6_bitCount_0f7a4_4 : decode cJ6_bitCount_0f7a4 4 = .ok (.ldc_w 265, 3) := by decide +kernel
theorem dJ6_bitCount_0f7a4_7 : decode cJ6_bitCount_0f7a4 7 = .ok (.iand, 1) := by decide +kernel
theorem dJ6_bitCount_0f7a4_8 : decode cJ6_bitCount_0f7a4 8 = .ok (.isub, 1) := by decide +kernel
theorem dJ6_bitCount_0f7a4_9 : decode cJ6_bitCount_0f7a4 9 = .ok (.istore_n 0, 1) := by decide +kernel
theorem dJ6_bitCount_0f7a4_10 : decode cJ6_bitCount_0f7a4 10 = .ok (.iload_n 0, 1) := by decide +kernel
theorem dJ6_bitCount_0f7a4_11 : decode cJ6_bitCount_0f7a4 11 = .ok (.ldc_w 266, 3) := by decide +kernel
theorem dJ6_bitCount_0f7a4_14 : decode cJ6_bitCount_0f7a4 14 = .ok (.iand, 1) := by decide +kernel
theorem dJ6_bitCount_0f7a4_15 : decode cJ6_bitCount_0f7a4 15 = .ok (.iload_n 0, 1) := by decide +kernel
theorem dJ6_bitCount_0f7a4_16 : decode cJ6_bitCount_0f7a4 16 = .ok (.iconst 2, 1) := by decide +kernel
theorem dJ6_bitCount_0f7a4_17 : decode cJ6_bitCount_0f7a4 17 = .ok (.iushr, 1) := by decide +kernel
theorem dJ6_bitCount_0f7a4_18 : decode cJ6_bitCount_0f7a4 18 = .ok (.ldc_w 266, 3) := by decide +kernel
theorem dJ6_bitCount_0f7a4_21 : decode cJ6_bitCount_0f7a4 21 = .ok (.iand, 1) := by decide +kernel
theorem dJ6_bitCount_0f7a4_22 : decode cJ6_bitCount_0f7a4 22 = .ok (.iadd, 1) := by decide +kernel
theorem dJ6_bitCount_0f7a4_23 : decode cJ6_bitCount_0f7a4 23 = .ok (.istore_n 0, 1) := by decide +kernel
theorem dJ6_bitCount_0f7a4_24 : decode cJ6_bitCount_0f7a4 24 = .ok (.iload_n 0, 1) := by decide +kernel
theorem dJ6_bitCount_0f7a4_25 : decode cJ6_bitCount_0f7a4 25 = .ok (.iload_n 0, 1) := by decide +kernel
theorem dJ6_bitCount_0f7a4_26 : decode cJ6_bitCount_0f7a4 26 = .ok (.iconst 4, 1) := by decide +kernel
theorem dJ6_bitCount_0f7a4_27 : decode cJ6_bitCount_0f7a4 27 = .ok (.iushr, 1) := by decide +kernel
theorem dJ6_bitCount_0f7a4_28 : decode cJ6_bitCount_0f7a4 28 = .ok (.iadd, 1) := by decide +kernel
theorem dJ6_bitCount_0f7a4_29 : decode cJ6_bitCount_0f7a4 29 = .ok (.ldc_w 267, 3) := by decide +kernel
theorem dJ6_bitCount_0f7a4_32 : decode cJ6_bitCount_0f7a4 32 = .ok (.iand, 1) := by decide +kernel
theorem dJ6_bitCount_0f7a4_33 : decode cJ6_bitCount_0f7a4 33 = .ok (.istore_n 0, 1) := by decide +kernel
theorem dJ6_bitCount_0f7a4_34 : decode cJ6_bitCount_0f7a4 34 = .ok (.iload_n 0, 1) := by decide +kernel
theorem dJ6_bitCount_0f7a4_35 : decode cJ6_bitCount_0f7a4 35 = .ok (.iload_n 0, 1) := by decide +kernel
theorem dJ6_bitCount_0f7a4_36 : decode cJ6_bitCount_0f7a4 36 = .ok (.bipush 8, 2) := by decide +kernel
theorem dJ6_bitCount_0f7a4_38 : decode cJ6_bitCount_0f7a4 38 = .ok (.iushr, 1) := by decide +kernel
theorem dJ6_bitCount_0f7a4_39 : decode cJ6_bitCount_0f7a4 39 = .ok (.iadd, 1) := by decide +kernel
theorem dJ6_bitCount_0f7a4_40 : decode cJ6_bitCount_0f7a4 40 = .ok (.istore_n 0, 1) := by decide +kernel
theorem dJ6_bitCount_0f7a4_41 : decode cJ6_bitCount_0f7a4 41 = .ok (.iload_n 0, 1) := by decide +kernel
theorem dJ6_bitCount_0f7a4_42 : decode cJ6_bitCount_0f7a4 42 = .ok (.iload_n 0, 1) := by decide +kernel
theorem dJ6_bitCount_0f7a4_43 : decode cJ6_bitCount_0f7a4 43 = .ok (.bipush 16, 2) := by decide +kernel
theorem dJ6_bitCount_0f7a4_45 : decode cJ6_bitCount_0f7a4 45 = .ok (.iushr, 1) := by decide +kernel
theorem dJ6_bitCount_0f7a4_46 : decode cJ6_bitCount_0f7a4 46 = .ok (.iadd, 1) := by decide +kernel
theorem dJ6_bitCount_0f7a4_47 : decode cJ6_bitCount_0f7a4 47 = .ok (.istore_n 0, 1) := by decide +kernel
theorem dJ6_bitCount_0f7a4_48 : decode cJ6_bitCount_0f7a4 48 = .ok (.iload_n 0, 1) := by decide +kernel
theorem dJ6_bitCount_0f7a4_49 : decode cJ6_bitCount_0f7a4 49 = .ok (.bipush 63, 2) := by decide +kernel
theorem dJ6_bitCount_0f7a4_51 : decode cJ6_bitCount_0f7a4 51 = .ok (.iand, 1) := by decide +kernel
theorem dJ6_bitCount_0f7a4_52 : decode cJ6_bitCount_0f7a4 52 = .ok (.ireturn, 1) := by decide +kernel
def rm_bits : Room := { frames := 0, cells := 0, slots := 0, locals := 0 }
theorem kc_J6_265 : Cond.constant "java/lang/Integer" 265 (i32 1431655765) ∈ lw_U := lw_Uin (i := 900) (by decide +kernel) rfl
theorem kc_J6_266 : Cond.constant "java/lang/Integer" 266 (i32 858993459) ∈ lw_U := lw_Uin (i := 901) (by decide +kernel) rfl
theorem kc_J6_267 : Cond.constant "java/lang/Integer" 267 (i32 252645135) ∈ lw_U := lw_Uin (i := 902) (by decide +kernel) rfl
set_option maxRecDepth 20000 in
set_option maxHeartbeats 1000000 in
theorem L_bits (SH : List Sh) (G : Gl) (a : Int) (m : Mem) : Con SH G yJ6_bitCount_0f7a4 cJ6_bitCount_0f7a4 1 (some .int) rm_bits [VI a] m ((.inl (some (VI (jbits a))), m) : Res × Mem) := by
  refine con_of (own := "java/lang/Integer") (by decide) rfl (Nat.le_of_ble_eq_true rfl) (fun C X => ?_)
  obtain ⟨O, hO⟩ : ∃ O : Res × Mem, O = ((.inl (some (VI (jbits a))), m) : Res × Mem) := ⟨_, rfl⟩
  rw [← hO]
  show J SH G rm_bits (.inl O) C 0 0 0 [(0, VI a)] [] m
  let b1 := wr32 (a - jiand (jiushr a 1) 1431655765)
  let b2 := wr32 (jiand b1 858993459 + jiand (jiushr b1 2) 858993459)
  let b3 := jiand (wr32 (b2 + jiushr b2 4)) 252645135
  let b4 := wr32 (b3 + jiushr b3 8)
  let b5 := wr32 (b4 + jiushr b4 16)
  refine s_iload_n X 0 rfl dJ6_bitCount_0f7a4_0 ?_
  refine s_iload_n X 0 rfl dJ6_bitCount_0f7a4_1 ?_
  refine s_const X (by unfold InR; omega) dJ6_bitCount_0f7a4_2 ?_
  refine s_iushr X dJ6_bitCount_0f7a4_3 ?_
  refine s_ldcW (z := 1431655765) X (by unfold InR; omega) kc_J6_265 dJ6_bitCount_0f7a4_4 ?_
  refine s_iand X dJ6_bitCount_0f7a4_7 ?_
  refine s_isubW X dJ6_bitCount_0f7a4_8 ?_
  refine s_istore_n (w := b1) X rfl rfl (by omega) dJ6_bitCount_0f7a4_9 ?_
  refine s_iload_n X 0 rfl dJ6_bitCount_0f7a4_10 ?_
  refine s_ldcW (z := 858993459) X (by unfold InR; omega) kc_J6_266 dJ6_bitCount_0f7a4_11 ?_
  refine s_iand X dJ6_bitCount_0f7a4_14 ?_
  refine s_iload_n X 0 rfl dJ6_bitCount_0f7a4_15 ?_
  refine s_const X (by unfold InR; omega) dJ6_bitCount_0f7a4_16 ?_
  refine s_iushr X dJ6_bitCount_0f7a4_17 ?_
  refine s_ldcW (z := 858993459) X (by unfold InR; omega) kc_J6_266 dJ6_bitCount_0f7a4_18 ?_
  refine s_iand X dJ6_bitCount_0f7a4_21 ?_
  refine s_iaddW X dJ6_bitCount_0f7a4_22 ?_
  refine s_istore_n (w := b2) X rfl rfl (by omega) dJ6_bitCount_0f7a4_23 ?_
  refine s_iload_n X 0 rfl dJ6_bitCount_0f7a4_24 ?_
  refine s_iload_n X 0 rfl dJ6_bitCount_0f7a4_25 ?_
  refine s_const X (by unfold InR; omega) dJ6_bitCount_0f7a4_26 ?_
  refine s_iushr X dJ6_bitCount_0f7a4_27 ?_
  refine s_iaddW X dJ6_bitCount_0f7a4_28 ?_
  refine s_ldcW (z := 252645135) X (by unfold InR; omega) kc_J6_267 dJ6_bitCount_0f7a4_29 ?_
  refine s_iand X dJ6_bitCount_0f7a4_32 ?_
  refine s_istore_n (w := b3) X rfl rfl (by omega) dJ6_bitCount_0f7a4_33 ?_
  refine s_iload_n X 0 rfl dJ6_bitCount_0f7a4_34 ?_
  refine s_iload_n X 0 rfl dJ6_bitCount_0f7a4_35 ?_
  refine s_bipush X (by omega) dJ6_bitCount_0f7a4_36 ?_
  refine s_iushr X dJ6_bitCount_0f7a4_38 ?_
  refine s_iaddW X dJ6_bitCount_0f7a4_39 ?_
  refine s_istore_n (w := b4) X rfl rfl (by omega) dJ6_bitCount_0f7a4_40 ?_
  refine s_iload_n X 0 rfl dJ6_bitCount_0f7a4_41 ?_
  refine s_iload_n X 0 rfl dJ6_bitCount_0f7a4_42 ?_
  refine s_bipush X (by omega) dJ6_bitCount_0f7a4_43 ?_
  refine s_iushr X dJ6_bitCount_0f7a4_45 ?_
  refine s_iaddW X dJ6_bitCount_0f7a4_46 ?_
  refine s_istore_n (w := b5) X rfl rfl (by omega) dJ6_bitCount_0f7a4_47 ?_
  refine s_iload_n X 0 rfl dJ6_bitCount_0f7a4_48 ?_
  refine s_bipush X (by omega) dJ6_bitCount_0f7a4_49 ?_
  refine s_iand X dJ6_bitCount_0f7a4_51 ?_
  exact s_iret X (Nat.le_of_ble_eq_true rfl) (Nat.le_of_ble_eq_true rfl) hO dJ6_bitCount_0f7a4_52
set_option maxRecDepth 100000 in
theorem bc_X11_155 : CSk "Lastbus" 155 yJ6_bitCount_0f7a4 cJ6_bitCount_0f7a4 1 (some .int) 1 := ⟨lw_Uin (i := 897) (by decide +kernel) rfl, lw_Uin (i := 898) (by decide +kernel) rfl, lw_Uin (i := 52) (by decide +kernel) rfl, lw_Uin (i := 899) (rfl) rfl, ⟨by decide +kernel, by decide +kernel, by decide +kernel⟩⟩
