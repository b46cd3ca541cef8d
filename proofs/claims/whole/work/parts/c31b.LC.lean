/-! ===== printed by a program out of the Java source and the decode rows: 31b.LC ===== -/
set_option maxRecDepth 20000 in
set_option maxHeartbeats 4000000 in
theorem L_C_shift (G : Gl) (trip_ : Int) (minutes_ : Int) (m : Mem) (r : ((Int ⊕ Nat) × Mem))  (h : C_shift trip_ minutes_ m = some r) : Con SHC G yX11_shift cX11_shift 3 (some .int) rm_X11_shift [VR 0, VI trip_, VI minutes_] m (oT wI r) := by
  refine con_of (own := "Lastbus") (by decide) rfl (Nat.le_of_ble_eq_true rfl) (fun C X => ?_)
  obtain ⟨O, hO⟩ : ∃ O : Res × Mem, O = (oT wI r) := ⟨_, rfl⟩
  rw [← hO]
  show J SHC G rm_X11_shift (.inl O) C 0 0 0 [(0, VR 0), (1, VI trip_), (2, VI minutes_)] [] m
  unfold C_shift at h
  refine s_load0 X 0 rfl dX11_shift_0 ?_
  refine s_iload_n X 1 rfl dX11_shift_1 ?_
  obtain ⟨q3, hq2, h⟩ := bnd_some h
  refine s_callV (As := [VI trip_]) X cw_X11_180 SHC_0 rfl dX11_shift_2 (L_C_needTrip G trip_ m q3 hq2) rfl ⟨Nat.le_of_ble_eq_true rfl, Nat.le_of_ble_eq_true rfl⟩ ⟨Nat.le_of_ble_eq_true rfl, Nat.le_of_ble_eq_true rfl⟩ (Nat.le_of_ble_eq_true rfl) (thr_up hO h) (kkT fun u_ m_ e9 => ?_)
  subst e9
  replace h := tbd_inl h
  refine s_load0 X 0 rfl dX11_shift_5 ?_
  refine s_iload_n X 1 rfl dX11_shift_6 ?_
  refine s_iload_n X 2 rfl dX11_shift_7 ?_
  obtain ⟨q7, hq6, h⟩ := bnd_some h
  refine s_callV (As := [VI trip_, VI minutes_]) X cw_X11_210 SHC_0 rfl dX11_shift_8 (L_C_needShift G trip_ minutes_ m_ q7 hq6) rfl ⟨Nat.le_of_ble_eq_true rfl, Nat.le_of_ble_eq_true rfl⟩ ⟨Nat.le_of_ble_eq_true rfl, Nat.le_of_ble_eq_true rfl⟩ (Nat.le_of_ble_eq_true rfl) (thr_up hO h) (kkT fun u_2 m_2 e9 => ?_)
  subst e9
  replace h := tbd_inl h
  refine s_load0 X 0 rfl dX11_shift_11 ?_
  refine s_getR (id := 31) X fk_X11_26 SHC_0 rfl dX11_shift_12 ?_
  refine s_iload_n X 1 rfl dX11_shift_15 ?_
  refine s_iload_n X 2 rfl dX11_shift_16 ?_
  obtain ⟨m_3, hq10, h⟩ := bnd_some h
  refine s_callV (As := [VI trip_, VI minutes_]) X cw_X11_213 SHC_31 rfl dX11_shift_17 (L_C_Trips_move G trip_ minutes_ m_2 m_3 hq10) rfl ⟨Nat.le_of_ble_eq_true rfl, Nat.le_of_ble_eq_true rfl⟩ ⟨Nat.le_of_ble_eq_true rfl, Nat.le_of_ble_eq_true rfl⟩ (Nat.le_of_ble_eq_true rfl) noT (kkU ?_)
  obtain ⟨g13, h⟩ := grd_some h
  refine s_load0 X 0 rfl dX11_shift_20 ?_
  refine s_getR (id := 31) X fk_X11_26 SHC_0 rfl dX11_shift_21 ?_
  refine s_getR (id := 84) X fk_X11_186 SHC_31 rfl dX11_shift_24 ?_
  refine s_iload_n X 1 rfl dX11_shift_27 ?_
  refine s_aaldI (id := (85 + trip_.toNat)) X (by omega) (Or.inl rfl) SHC_84 g13.1 g13.2 dX11_shift_28 ?_
  refine s_const X (by unfold InR; omega) dX11_shift_29 ?_
  refine s_iald X (SHC_r85 g13.1 g13.2) (by omega) (by omega) dX11_shift_30 ?_
  exact s_iret X (Nat.le_of_ble_eq_true rfl) (Nat.le_of_ble_eq_true rfl) (by cases h; exact hO) dX11_shift_31
set_option maxRecDepth 20000 in
set_option maxHeartbeats 4000000 in
theorem L_C_needRoomForSigns (G : Gl) (signs_ : Int) (m : Mem) (r : ((Unit ⊕ Nat) × Mem))  (h : C_needRoomForSigns signs_ m = some r) : Con SHC G yX11_needRoomForSigns cX11_needRoomForSigns 2 none rm_X11_needRoomForSigns [VR 0, VI signs_] m (oT wU r) := by
  refine con_of (own := "Lastbus") (by decide) rfl (Nat.le_of_ble_eq_true rfl) (fun C X => ?_)
  obtain ⟨O, hO⟩ : ∃ O : Res × Mem, O = (oT wU r) := ⟨_, rfl⟩
  rw [← hO]
  show J SHC G rm_X11_needRoomForSigns (.inl O) C 0 0 0 [(0, VR 0), (1, VI signs_)] [] m
  unfold C_needRoomForSigns at h
  obtain ⟨g1, h⟩ := grd_some h
  refine s_load0 X 0 rfl dX11_needRoomForSigns_0 ?_
  refine s_getR (id := 114) X fk_X11_40 SHC_0 rfl dX11_needRoomForSigns_1 ?_
  refine s_getI X fk_X11_433 SHC_114 rfl dX11_needRoomForSigns_4 ?_
  refine s_iload_n X 1 rfl dX11_needRoomForSigns_7 ?_
  refine s_iadd X g1 dX11_needRoomForSigns_8 ?_
  refine s_bipush X (by omega) dX11_needRoomForSigns_9 ?_
  refine s_icmple_f (tgt := 25) X dX11_needRoomForSigns_11 (by omega) (fun c4 => ?_) (fun c5 => ?_)
  · replace h := ite_neg h c4
    exact s_vret X (Nat.le_of_ble_eq_true rfl) (Nat.le_of_ble_eq_true rfl) (by cases h; exact hO) dX11_needRoomForSigns_25
  · replace h := ite_pos h c5
    exact s_throwW X th_X11_96_472_100 (by cases h; exact hO) (Nat.le_of_ble_eq_true rfl) (Nat.le_of_ble_eq_true rfl) (Nat.le_of_ble_eq_true rfl) (Nat.le_of_ble_eq_true rfl) dX11_needRoomForSigns_14 dX11_needRoomForSigns_17 dX11_needRoomForSigns_18 dX11_needRoomForSigns_21 dX11_needRoomForSigns_24
set_option maxRecDepth 20000 in
set_option maxHeartbeats 4000000 in
theorem L_C_Row_put (G : Gl) (sign_ : Int) (m : Mem) (r : (Int × Mem))  (h : C_Row_put sign_ m = some r) : Con SHC G yX5_put cX5_put 2 (some .int) rm_X5_put [VR 114, VI sign_] m (((.inl (some (VI r.1)), r.2) : Res × Mem)) := by
  refine con_of (own := "Lastbus$Row") (by decide) rfl (Nat.le_of_ble_eq_true rfl) (fun C X => ?_)
  obtain ⟨O, hO⟩ : ∃ O : Res × Mem, O = (((.inl (some (VI r.1)), r.2) : Res × Mem)) := ⟨_, rfl⟩
  rw [← hO]
  show J SHC G rm_X5_put (.inl O) C 0 0 0 [(0, VR 114), (1, VI sign_)] [] m
  unfold C_Row_put at h
  obtain ⟨g1, h⟩ := grd_some h
  refine s_load0 X 0 rfl dX5_put_0 ?_
  refine s_getR (id := 115) X fk_X5_9 SHC_114 rfl dX5_put_1 ?_
  refine s_load0 X 0 rfl dX5_put_4 ?_
  refine s_getI X fk_X5_29 SHC_114 rfl dX5_put_5 ?_
  refine s_iload_n X 1 rfl dX5_put_8 ?_
  obtain ⟨m_, e2, h⟩ := ltv_elim h
  refine s_cast X e2 SHC_115 g1.1 g1.2.1 g1.2.2 dX5_put_9 ?_
  obtain ⟨g3, h⟩ := grd_some h
  refine s_load0 X 0 rfl dX5_put_10 ?_
  refine s_dup X rfl dX5_put_11 ?_
  refine s_getI X fk_X5_29 SHC_114 rfl dX5_put_12 ?_
  refine s_const X (by unfold InR; omega) dX5_put_15 ?_
  refine s_iadd X g3 dX5_put_16 ?_
  obtain ⟨m_2, e4, h⟩ := ltv_elim h
  refine s_putI X e4 fp_X5_29 SHC_114 rfl trivial dX5_put_17 ?_
  refine s_load0 X 0 rfl dX5_put_20 ?_
  refine s_getI X fk_X5_29 SHC_114 rfl dX5_put_21 ?_
  exact s_iret X (Nat.le_of_ble_eq_true rfl) (Nat.le_of_ble_eq_true rfl) (by cases h; exact hO) dX5_put_24
set_option maxRecDepth 20000 in
set_option maxHeartbeats 4000000 in
theorem L_C_type (G : Gl) (sign_ : Int) (m : Mem) (r : ((Int ⊕ Nat) × Mem))  (h : C_type sign_ m = some r) : Con SHC G yX11_type cX11_type 2 (some .int) rm_X11_type [VR 0, VI sign_] m (oT wI r) := by
  refine con_of (own := "Lastbus") (by decide) rfl (Nat.le_of_ble_eq_true rfl) (fun C X => ?_)
  obtain ⟨O, hO⟩ : ∃ O : Res × Mem, O = (oT wI r) := ⟨_, rfl⟩
  rw [← hO]
  show J SHC G rm_X11_type (.inl O) C 0 0 0 [(0, VR 0), (1, VI sign_)] [] m
  unfold C_type at h
  refine s_load0 X 0 rfl dX11_type_0 ?_
  refine s_const X (by unfold InR; omega) dX11_type_1 ?_
  obtain ⟨q3, hq2, h⟩ := bnd_some h
  refine s_callV (As := [VI 1]) X cw_X11_216 SHC_0 rfl dX11_type_2 (L_C_needRoomForSigns G 1 m q3 hq2) rfl ⟨Nat.le_of_ble_eq_true rfl, Nat.le_of_ble_eq_true rfl⟩ ⟨Nat.le_of_ble_eq_true rfl, Nat.le_of_ble_eq_true rfl⟩ (Nat.le_of_ble_eq_true rfl) (thr_up hO h) (kkT fun u_ m_ e9 => ?_)
  subst e9
  replace h := tbd_inl h
  refine s_load0 X 0 rfl dX11_type_5 ?_
  refine s_getR (id := 114) X fk_X11_40 SHC_0 rfl dX11_type_6 ?_
  refine s_iload_n X 1 rfl dX11_type_9 ?_
  obtain ⟨r_, m_2, hq6, h⟩ := bq2_some h
  refine s_callV (As := [VI sign_]) X cw_X11_219 SHC_114 rfl dX11_type_10 (L_C_Row_put G sign_ m_ (r_, m_2) hq6) rfl ⟨Nat.le_of_ble_eq_true rfl, Nat.le_of_ble_eq_true rfl⟩ ⟨Nat.le_of_ble_eq_true rfl, Nat.le_of_ble_eq_true rfl⟩ (Nat.le_of_ble_eq_true rfl) noT (kkR ?_)
  exact s_iret X (Nat.le_of_ble_eq_true rfl) (Nat.le_of_ble_eq_true rfl) (by cases h; exact hO) dX11_type_13
set_option maxRecDepth 20000 in
set_option maxHeartbeats 4000000 in
theorem L_C_Row_putDigit (G : Gl) (value_ : Int) (m : Mem) (r : (Int × Mem))  (h : C_Row_putDigit value_ m = some r) : Con SHC G yX5_putDigit cX5_putDigit 2 (some .int) rm_X5_putDigit [VR 114, VI value_] m (((.inl (some (VI r.1)), r.2) : Res × Mem)) := by
  refine con_of (own := "Lastbus$Row") (by decide) rfl (Nat.le_of_ble_eq_true rfl) (fun C X => ?_)
  obtain ⟨O, hO⟩ : ∃ O : Res × Mem, O = (((.inl (some (VI r.1)), r.2) : Res × Mem)) := ⟨_, rfl⟩
  rw [← hO]
  show J SHC G rm_X5_putDigit (.inl O) C 0 0 0 [(0, VR 114), (1, VI value_)] [] m
  unfold C_Row_putDigit at h
  obtain ⟨g1, h⟩ := grd_some h
  refine s_load0 X 0 rfl dX5_putDigit_0 ?_
  refine s_bipush X (by omega) dX5_putDigit_1 ?_
  refine s_iload_n X 1 rfl dX5_putDigit_3 ?_
  refine s_bipush X (by omega) dX5_putDigit_4 ?_
  refine s_irem X (by omega) dX5_putDigit_6 ?_
  refine s_iadd X g1 dX5_putDigit_7 ?_
  refine s_i2c X dX5_putDigit_8 ?_
  obtain ⟨r_, m_, hq2, h⟩ := bq2_some h
  refine s_callV (As := [VI ((48 + value_.tmod 10) % 65536)]) X cw_X5_36 SHC_114 rfl dX5_putDigit_9 (L_C_Row_put G ((48 + value_.tmod 10) % 65536) m (r_, m_) hq2) rfl ⟨Nat.le_of_ble_eq_true rfl, Nat.le_of_ble_eq_true rfl⟩ ⟨Nat.le_of_ble_eq_true rfl, Nat.le_of_ble_eq_true rfl⟩ (Nat.le_of_ble_eq_true rfl) noT (kkR ?_)
  exact s_iret X (Nat.le_of_ble_eq_true rfl) (Nat.le_of_ble_eq_true rfl) (by cases h; exact hO) dX5_putDigit_12
set_option maxRecDepth 20000 in
set_option maxHeartbeats 4000000 in
theorem L_C_Row_putNumber (G : Gl) (value_ : Int) (m : Mem) (r : (Int × Mem))  (h : C_Row_putNumber value_ m = some r) : Con SHC G yX5_putNumber cX5_putNumber 2 (some .int) rm_X5_putNumber [VR 114, VI value_] m (((.inl (some (VI r.1)), r.2) : Res × Mem)) := by
  refine con_of (own := "Lastbus$Row") (by decide) rfl (Nat.le_of_ble_eq_true rfl) (fun C X => ?_)
  obtain ⟨O, hO⟩ : ∃ O : Res × Mem, O = (((.inl (some (VI r.1)), r.2) : Res × Mem)) := ⟨_, rfl⟩
  rw [← hO]
  show J SHC G rm_X5_putNumber (.inl O) C 0 0 0 [(0, VR 114), (1, VI value_)] [] m
  unfold C_Row_putNumber at h
  obtain ⟨kj_, hk1, h⟩ := ltv_elim h
  have K2 : ∀ (m_ : Mem), kj_ m_ = some r → J SHC G rm_X5_putNumber (.inl O) C 0 0 17 [(0, VR 114), (1, VI value_)] [] m_ := by
    intro m_ h
    subst hk1
    dsimp only at h
    obtain ⟨kj_2, hk12, h⟩ := ltv_elim h
    have K13 : ∀ (m_3 : Mem), kj_2 m_3 = some r → J SHC G rm_X5_putNumber (.inl O) C 0 0 32 [(0, VR 114), (1, VI value_)] [] m_3 := by
      intro m_3 h
      subst hk12
      dsimp only at h
      obtain ⟨kj_3, hk23, h⟩ := ltv_elim h
      have K24 : ∀ (m_5 : Mem), kj_3 m_5 = some r → J SHC G rm_X5_putNumber (.inl O) C 0 0 47 [(0, VR 114), (1, VI value_)] [] m_5 := by
        intro m_5 h
        subst hk23
        dsimp only at h
        refine s_load0 X 0 rfl dX5_putNumber_47 ?_
        refine s_iload_n X 1 rfl dX5_putNumber_48 ?_
        obtain ⟨r_4, m_7, hq35, h⟩ := bq2_some h
        refine s_callV (As := [VI value_]) X cw_X5_32 SHC_114 rfl dX5_putNumber_49 (L_C_Row_putDigit G value_ m_5 (r_4, m_7) hq35) rfl ⟨Nat.le_of_ble_eq_true rfl, Nat.le_of_ble_eq_true rfl⟩ ⟨Nat.le_of_ble_eq_true rfl, Nat.le_of_ble_eq_true rfl⟩ (Nat.le_of_ble_eq_true rfl) noT (kkR ?_)
        exact s_iret X (Nat.le_of_ble_eq_true rfl) (Nat.le_of_ble_eq_true rfl) (by cases h; exact hO) dX5_putNumber_52
      refine s_iload_n X 1 rfl dX5_putNumber_32 ?_
      refine s_bipush X (by omega) dX5_putNumber_33 ?_
      refine s_icmple_f (tgt := 47) X dX5_putNumber_35 (by omega) (fun c28 => ?_) (fun c29 => ?_)
      · replace h := ite_neg h c28
        exact s_kn rfl rfl (K24 _ h)
      · replace h := ite_pos h c29
        refine s_load0 X 0 rfl dX5_putNumber_38 ?_
        refine s_iload_n X 1 rfl dX5_putNumber_39 ?_
        refine s_bipush X (by omega) dX5_putNumber_40 ?_
        refine s_idiv X (by omega) dX5_putNumber_42 ?_
        obtain ⟨r_3, m_6, hq31, h⟩ := bq2_some h
        refine s_callV (As := [VI (value_.tdiv 10)]) X cw_X5_32 SHC_114 rfl dX5_putNumber_43 (L_C_Row_putDigit G (value_.tdiv 10) m_3 (r_3, m_6) hq31) rfl ⟨Nat.le_of_ble_eq_true rfl, Nat.le_of_ble_eq_true rfl⟩ ⟨Nat.le_of_ble_eq_true rfl, Nat.le_of_ble_eq_true rfl⟩ (Nat.le_of_ble_eq_true rfl) noT (kkR ?_)
        refine s_pop X rfl dX5_putNumber_46 ?_
        exact s_kn rfl rfl (K24 _ h)
    refine s_iload_n X 1 rfl dX5_putNumber_17 ?_
    refine s_bipush X (by omega) dX5_putNumber_18 ?_
    refine s_icmple_f (tgt := 32) X dX5_putNumber_20 (by omega) (fun c17 => ?_) (fun c18 => ?_)
    · replace h := ite_neg h c17
      exact s_kn rfl rfl (K13 _ h)
    · replace h := ite_pos h c18
      refine s_load0 X 0 rfl dX5_putNumber_23 ?_
      refine s_iload_n X 1 rfl dX5_putNumber_24 ?_
      refine s_bipush X (by omega) dX5_putNumber_25 ?_
      refine s_idiv X (by omega) dX5_putNumber_27 ?_
      obtain ⟨r_2, m_4, hq20, h⟩ := bq2_some h
      refine s_callV (As := [VI (value_.tdiv 100)]) X cw_X5_32 SHC_114 rfl dX5_putNumber_28 (L_C_Row_putDigit G (value_.tdiv 100) m_ (r_2, m_4) hq20) rfl ⟨Nat.le_of_ble_eq_true rfl, Nat.le_of_ble_eq_true rfl⟩ ⟨Nat.le_of_ble_eq_true rfl, Nat.le_of_ble_eq_true rfl⟩ (Nat.le_of_ble_eq_true rfl) noT (kkR ?_)
      refine s_pop X rfl dX5_putNumber_31 ?_
      exact s_kn rfl rfl (K13 _ h)
  refine s_iload_n X 1 rfl dX5_putNumber_0 ?_
  refine s_sipush X (by omega) dX5_putNumber_1 ?_
  refine s_icmple_f (tgt := 17) X dX5_putNumber_4 (by omega) (fun c6 => ?_) (fun c7 => ?_)
  · replace h := ite_neg h c6
    exact s_kn rfl rfl (K2 _ h)
  · replace h := ite_pos h c7
    refine s_load0 X 0 rfl dX5_putNumber_7 ?_
    refine s_iload_n X 1 rfl dX5_putNumber_8 ?_
    refine s_sipush X (by omega) dX5_putNumber_9 ?_
    refine s_idiv X (by omega) dX5_putNumber_12 ?_
    obtain ⟨r_, m_2, hq9, h⟩ := bq2_some h
    refine s_callV (As := [VI (value_.tdiv 1000)]) X cw_X5_32 SHC_114 rfl dX5_putNumber_13 (L_C_Row_putDigit G (value_.tdiv 1000) m (r_, m_2) hq9) rfl ⟨Nat.le_of_ble_eq_true rfl, Nat.le_of_ble_eq_true rfl⟩ ⟨Nat.le_of_ble_eq_true rfl, Nat.le_of_ble_eq_true rfl⟩ (Nat.le_of_ble_eq_true rfl) noT (kkR ?_)
    refine s_pop X rfl dX5_putNumber_16 ?_
    exact s_kn rfl rfl (K2 _ h)
set_option maxRecDepth 20000 in
set_option maxHeartbeats 4000000 in
theorem L_C_typeNumber (G : Gl) (number_ : Int) (m : Mem) (r : ((Int ⊕ Nat) × Mem))  (h : C_typeNumber number_ m = some r) : Con SHC G yX11_typeNumber cX11_typeNumber 2 (some .int) rm_X11_typeNumber [VR 0, VI number_] m (oT wI r) := by
  refine con_of (own := "Lastbus") (by decide) rfl (Nat.le_of_ble_eq_true rfl) (fun C X => ?_)
  obtain ⟨O, hO⟩ : ∃ O : Res × Mem, O = (oT wI r) := ⟨_, rfl⟩
  rw [← hO]
  show J SHC G rm_X11_typeNumber (.inl O) C 0 0 0 [(0, VR 0), (1, VI number_)] [] m
  unfold C_typeNumber at h
  refine s_iload_n X 1 rfl dX11_typeNumber_0 ?_
  refine s_const X (by unfold InR; omega) dX11_typeNumber_1 ?_
  refine s_sipush X (by omega) dX11_typeNumber_2 ?_
  obtain ⟨q3, hq2, h⟩ := bnd_some h
  refine s_callS (As := [VI number_, VI 0, VI 9999]) X cw_X11_88 dX11_typeNumber_5 (L_C_needNumber G number_ 0 9999 m q3 hq2) rfl ⟨Nat.le_of_ble_eq_true rfl, Nat.le_of_ble_eq_true rfl⟩ ⟨Nat.le_of_ble_eq_true rfl, Nat.le_of_ble_eq_true rfl⟩ (Nat.le_of_ble_eq_true rfl) (thr_up hO h) (kkT fun u_ m_ e9 => ?_)
  subst e9
  replace h := tbd_inl h
  refine s_load0 X 0 rfl dX11_typeNumber_8 ?_
  have kM6 : J SHC G rm_X11_typeNumber (.inl O) C 1 6 41 [(0, VR 0), (1, VI number_)] [VI (if 999 < number_ then 4 else (if 99 < number_ then 3 else (if 9 < number_ then 2 else 1))), VR 0] m_ := by
    obtain ⟨q16, hq15, h⟩ := bnd_some h
    refine s_callV (As := [VI (if 999 < number_ then 4 else (if 99 < number_ then 3 else (if 9 < number_ then 2 else 1)))]) X cw_X11_216 SHC_0 rfl dX11_typeNumber_41 (L_C_needRoomForSigns G (if 999 < number_ then 4 else (if 99 < number_ then 3 else (if 9 < number_ then 2 else 1))) m_ q16 hq15) rfl ⟨Nat.le_of_ble_eq_true rfl, Nat.le_of_ble_eq_true rfl⟩ ⟨Nat.le_of_ble_eq_true rfl, Nat.le_of_ble_eq_true rfl⟩ (Nat.le_of_ble_eq_true rfl) (thr_up hO h) (kkT fun u_2 m_2 e9 => ?_)
    subst e9
    replace h := tbd_inl h
    refine s_load0 X 0 rfl dX11_typeNumber_44 ?_
    refine s_getR (id := 114) X fk_X11_40 SHC_0 rfl dX11_typeNumber_45 ?_
    refine s_iload_n X 1 rfl dX11_typeNumber_48 ?_
    obtain ⟨r_, m_3, hq19, h⟩ := bq2_some h
    refine s_callV (As := [VI number_]) X cw_X11_222 SHC_114 rfl dX11_typeNumber_49 (L_C_Row_putNumber G number_ m_2 (r_, m_3) hq19) rfl ⟨Nat.le_of_ble_eq_true rfl, Nat.le_of_ble_eq_true rfl⟩ ⟨Nat.le_of_ble_eq_true rfl, Nat.le_of_ble_eq_true rfl⟩ (Nat.le_of_ble_eq_true rfl) noT (kkR ?_)
    exact s_iret X (Nat.le_of_ble_eq_true rfl) (Nat.le_of_ble_eq_true rfl) (by cases h; exact hO) dX11_typeNumber_52
  refine s_iload_n X 1 rfl dX11_typeNumber_9 ?_
  refine s_sipush X (by omega) dX11_typeNumber_10 ?_
  refine s_icmple_f (tgt := 20) X dX11_typeNumber_13 (by omega) (fun c7 => ?_) (fun c8 => ?_)
  · have kM9 : J SHC G rm_X11_typeNumber (.inl O) C 1 6 41 [(0, VR 0), (1, VI number_)] [VI (if 99 < number_ then 3 else (if 9 < number_ then 2 else 1)), VR 0] m_ := by
      exact s_eqt (if_neg c7) kM6
    refine s_iload_n X 1 rfl dX11_typeNumber_20 ?_
    refine s_bipush X (by omega) dX11_typeNumber_21 ?_
    refine s_icmple_f (tgt := 30) X dX11_typeNumber_23 (by omega) (fun c10 => ?_) (fun c11 => ?_)
    · have kM12 : J SHC G rm_X11_typeNumber (.inl O) C 1 6 41 [(0, VR 0), (1, VI number_)] [VI (if 9 < number_ then 2 else 1), VR 0] m_ := by
        exact s_eqt (if_neg c10) kM9
      refine s_iload_n X 1 rfl dX11_typeNumber_30 ?_
      refine s_bipush X (by omega) dX11_typeNumber_31 ?_
      refine s_icmple_f (tgt := 40) X dX11_typeNumber_33 (by omega) (fun c13 => ?_) (fun c14 => ?_)
      · refine s_const X (by unfold InR; omega) dX11_typeNumber_40 ?_
        exact s_eqt (if_neg c13) kM12
      · refine s_const X (by unfold InR; omega) dX11_typeNumber_36 ?_
        refine s_goto (tgt := 41) X dX11_typeNumber_37 (by omega) ?_
        exact s_eqt (if_pos c14) kM12
    · refine s_const X (by unfold InR; omega) dX11_typeNumber_26 ?_
      refine s_goto (tgt := 41) X dX11_typeNumber_27 (by omega) ?_
      exact s_eqt (if_pos c11) kM9
  · refine s_const X (by unfold InR; omega) dX11_typeNumber_16 ?_
    refine s_goto (tgt := 41) X dX11_typeNumber_17 (by omega) ?_
    exact s_eqt (if_pos c8) kM6
set_option maxRecDepth 20000 in
set_option maxHeartbeats 4000000 in
theorem L_C_Row_empty (G : Gl)  (m : Mem) (r : (Int × Mem))  (h : C_Row_empty  m = some r) : Con SHC G yX5_empty cX5_empty 2 (some .int) rm_X5_empty [VR 114] m (((.inl (some (VI r.1)), r.2) : Res × Mem)) := by
  refine con_of (own := "Lastbus$Row") (by decide) rfl (Nat.le_of_ble_eq_true rfl) (fun C X => ?_)
  obtain ⟨O, hO⟩ : ∃ O : Res × Mem, O = (((.inl (some (VI r.1)), r.2) : Res × Mem)) := ⟨_, rfl⟩
  rw [← hO]
  show J SHC G rm_X5_empty (.inl O) C 0 0 0 [(0, VR 114)] [] m
  unfold C_Row_empty at h
  refine s_load0 X 0 rfl dX5_empty_0 ?_
  refine s_getI X fk_X5_29 SHC_114 rfl dX5_empty_1 ?_
  obtain ⟨had_, e2, h⟩ := ltv_elim h
  refine s_istore_n X e2 rfl (by omega) dX5_empty_4 ?_
  refine s_load0 X 1 rfl dX5_empty_5 ?_
  refine s_const X (by unfold InR; omega) dX5_empty_6 ?_
  obtain ⟨m_, e4, h⟩ := ltv_elim h
  refine s_putI X e4 fp_X5_29 SHC_114 rfl trivial dX5_empty_7 ?_
  refine s_iload_n X 0 rfl dX5_empty_10 ?_
  exact s_iret X (Nat.le_of_ble_eq_true rfl) (Nat.le_of_ble_eq_true rfl) (by cases h; exact hO) dX5_empty_11
set_option maxRecDepth 20000 in
set_option maxHeartbeats 4000000 in
theorem L_C_erase (G : Gl)  (m : Mem) (r : (Int × Mem))  (h : C_erase  m = some r) : Con SHC G yX11_erase cX11_erase 1 (some .int) rm_X11_erase [VR 0] m (((.inl (some (VI r.1)), r.2) : Res × Mem)) := by
  refine con_of (own := "Lastbus") (by decide) rfl (Nat.le_of_ble_eq_true rfl) (fun C X => ?_)
  obtain ⟨O, hO⟩ : ∃ O : Res × Mem, O = (((.inl (some (VI r.1)), r.2) : Res × Mem)) := ⟨_, rfl⟩
  rw [← hO]
  show J SHC G rm_X11_erase (.inl O) C 0 0 0 [(0, VR 0)] [] m
  unfold C_erase at h
  refine s_load0 X 0 rfl dX11_erase_0 ?_
  refine s_getR (id := 114) X fk_X11_40 SHC_0 rfl dX11_erase_1 ?_
  obtain ⟨r_, m_, hq2, h⟩ := bq2_some h
  refine s_callV (As := []) X cw_X11_225 SHC_114 rfl dX11_erase_4 (L_C_Row_empty G m (r_, m_) hq2) rfl ⟨Nat.le_of_ble_eq_true rfl, Nat.le_of_ble_eq_true rfl⟩ ⟨Nat.le_of_ble_eq_true rfl, Nat.le_of_ble_eq_true rfl⟩ (Nat.le_of_ble_eq_true rfl) noT (kkR ?_)
  exact s_iret X (Nat.le_of_ble_eq_true rfl) (Nat.le_of_ble_eq_true rfl) (by cases h; exact hO) dX11_erase_7
set_option maxRecDepth 20000 in
set_option maxHeartbeats 4000000 in
theorem L_C_Row_readNumber (G : Gl)  (m : Mem) (r : (Int × Mem))  (h : C_Row_readNumber  m = some r) : Con SHC G yX5_readNumber cX5_readNumber 2 (some .boolean) rm_X5_readNumber [VR 114] m (((.inl (some (VI r.1)), r.2) : Res × Mem)) := by
  refine con_of (own := "Lastbus$Row") (by decide) rfl (Nat.le_of_ble_eq_true rfl) (fun C X => ?_)
  obtain ⟨O, hO⟩ : ∃ O : Res × Mem, O = (((.inl (some (VI r.1)), r.2) : Res × Mem)) := ⟨_, rfl⟩
  rw [← hO]
  show J SHC G rm_X5_readNumber (.inl O) C 0 0 0 [(0, VR 114)] [] m
  unfold C_Row_readNumber at h
  refine s_load0 X 0 rfl dX5_readNumber_0 ?_
  refine s_const X (by unfold InR; omega) dX5_readNumber_1 ?_
  obtain ⟨m_, e2, h⟩ := ltv_elim h
  refine s_putI X e2 fp_X5_56 SHC_114 rfl trivial dX5_readNumber_2 ?_
  refine s_const X (by unfold InR; omega) dX5_readNumber_5 ?_
  obtain ⟨digits_, e4, h⟩ := ltv_elim h
  refine s_istore_n X e4 rfl (by omega) dX5_readNumber_6 ?_
  obtain ⟨digits_4, m_5, hl14, h⟩ := bq2_some h
  obtain ⟨fu50, hl15⟩ := loop_iter hl14
  have KX11 : ∀ q9 : Int × Mem, q9 = (digits_4, m_5) → J SHC G rm_X5_readNumber (.inl O) C 0 0 91 [(1, VI q9.1), (0, VR 114)] [] (q9.2) := by
    intro q9 e9
    subst e9
    show J SHC G rm_X5_readNumber (.inl O) C 0 0 91 [(1, VI digits_4), (0, VR 114)] [] m_5
    have kM38 : J SHC G rm_X5_readNumber (.inl O) C 0 0 100 [(1, VI digits_4), (0, VR 114)] [VI (if 0 < digits_4 then 1 else 0)] m_5 := by
      exact s_zret X okT_ite (Nat.le_of_ble_eq_true rfl) (Nat.le_of_ble_eq_true rfl) (by cases h; exact hO) dX5_readNumber_100
    refine s_iload_n X 0 rfl dX5_readNumber_91 ?_
    refine s_ifle_f (tgt := 99) X dX5_readNumber_92 (by omega) (fun c39 => ?_) (fun c40 => ?_)
    · refine s_const X (by unfold InR; omega) dX5_readNumber_99 ?_
      exact s_eqt (if_neg c39) kM38
    · refine s_const X (by unfold InR; omega) dX5_readNumber_95 ?_
      refine s_goto (tgt := 100) X dX5_readNumber_96 (by omega) ?_
      exact s_eqt (if_pos c40) kM38
  have LP10 : ∀ (fu5 : Nat) (digits_2 : Int) (m_2 : Mem), iter (fun s => C_Row_readNumber_b1 s.1 s.2) fu5 (digits_2, m_2) = some (digits_4, m_5) → J SHC G rm_X5_readNumber (.inl O) C 0 0 7 [(1, VI digits_2), (0, VR 114)] [] m_2 := by
    intro fu5
    induction fu5 with
    | zero => intro digits_2 m_2 hn6; exact absurd hn6 (by simp [iter])
    | succ fu5 ih9 =>
      intro digits_2 m_2 hn6
      obtain ⟨x7, h, hc8⟩ := iter_succ hn6
      replace h : C_Row_readNumber_b1 digits_2 m_2 = some x7 := h
      unfold C_Row_readNumber_b1 at h
      obtain ⟨g16, h⟩ := grd_some h
      have kF18 : ¬ ((((digits_2 < 4) ∧ (m_2 114 8 < m_2 114 1)) ∧ (48 ≤ m_2 115 (m_2 114 8).toNat)) ∧ (m_2 115 (m_2 114 8).toNat ≤ 57)) → J SHC G rm_X5_readNumber (.inl O) C 0 0 91 [(1, VI digits_2), (0, VR 114)] [] m_2 := by
        intro c21
        replace h := ite_neg h c21
        exact KX11 _ (iter_exit h hc8)
      refine s_iload_n X 0 rfl dX5_readNumber_7 ?_
      refine s_const X (by unfold InR; omega) dX5_readNumber_8 ?_
      refine s_icmpge_f (tgt := 91) X dX5_readNumber_9 (by omega) (fun c19 => ?_) (fun c20 => ?_)
      · exact kF18 (fun q => (fun q => (fun q => c19 q.1) q.1) q.1)
      · have a22 : digits_2 < 4 := c20
        refine s_load0 X 1 rfl dX5_readNumber_12 ?_
        refine s_getI X fk_X5_40 SHC_114 rfl dX5_readNumber_13 ?_
        refine s_load0 X 1 rfl dX5_readNumber_16 ?_
        refine s_getI X fk_X5_29 SHC_114 rfl dX5_readNumber_17 ?_
        refine s_icmpge_f (tgt := 91) X dX5_readNumber_20 (by omega) (fun c23 => ?_) (fun c24 => ?_)
        · exact kF18 (fun q => (fun q => (fun q => c23 q.2) q.1) q.1)
        · have a25 : (digits_2 < 4) ∧ (m_2 114 8 < m_2 114 1) := ⟨a22, c24⟩
          refine s_load0 X 1 rfl dX5_readNumber_23 ?_
          refine s_getR (id := 115) X fk_X5_9 SHC_114 rfl dX5_readNumber_24 ?_
          refine s_load0 X 1 rfl dX5_readNumber_27 ?_
          refine s_getI X fk_X5_40 SHC_114 rfl dX5_readNumber_28 ?_
          refine s_cald X SHC_115 (g16.1 a25) (g16.2.1 a25) dX5_readNumber_31 ?_
          refine s_bipush X (by omega) dX5_readNumber_32 ?_
          refine s_icmplt_f (tgt := 91) X dX5_readNumber_34 (by omega) (fun c26 => ?_) (fun c27 => ?_)
          · exact kF18 (fun q => (fun q => c26 q.2) q.1)
          · have a28 : ((digits_2 < 4) ∧ (m_2 114 8 < m_2 114 1)) ∧ (48 ≤ m_2 115 (m_2 114 8).toNat) := ⟨a25, c27⟩
            refine s_load0 X 1 rfl dX5_readNumber_37 ?_
            refine s_getR (id := 115) X fk_X5_9 SHC_114 rfl dX5_readNumber_38 ?_
            refine s_load0 X 1 rfl dX5_readNumber_41 ?_
            refine s_getI X fk_X5_40 SHC_114 rfl dX5_readNumber_42 ?_
            refine s_cald X SHC_115 (g16.2.2.1 a28) (g16.2.2.2 a28) dX5_readNumber_45 ?_
            refine s_bipush X (by omega) dX5_readNumber_46 ?_
            refine s_icmpgt_f (tgt := 91) X dX5_readNumber_48 (by omega) (fun c29 => ?_) (fun c30 => ?_)
            · exact kF18 (fun q => c29 q.2)
            · replace h := ite_pos h ⟨a28, c30⟩
              obtain ⟨g31, h⟩ := grd_some h
              refine s_load0 X 1 rfl dX5_readNumber_51 ?_
              refine s_bipush X (by omega) dX5_readNumber_52 ?_
              refine s_load0 X 1 rfl dX5_readNumber_54 ?_
              refine s_getI X fk_X5_56 SHC_114 rfl dX5_readNumber_55 ?_
              refine s_imul X g31.1 dX5_readNumber_58 ?_
              refine s_load0 X 1 rfl dX5_readNumber_59 ?_
              refine s_getR (id := 115) X fk_X5_9 SHC_114 rfl dX5_readNumber_60 ?_
              refine s_load0 X 1 rfl dX5_readNumber_63 ?_
              refine s_getI X fk_X5_40 SHC_114 rfl dX5_readNumber_64 ?_
              refine s_cald X SHC_115 g31.2.1 g31.2.2.1 dX5_readNumber_67 ?_
              refine s_bipush X (by omega) dX5_readNumber_68 ?_
              refine s_isub X g31.2.2.2.1 dX5_readNumber_70 ?_
              refine s_iadd X g31.2.2.2.2 dX5_readNumber_71 ?_
              obtain ⟨m_3, e32, h⟩ := ltv_elim h
              refine s_putI X e32 fp_X5_56 SHC_114 rfl trivial dX5_readNumber_72 ?_
              obtain ⟨g33, h⟩ := grd_some h
              refine s_load0 X 1 rfl dX5_readNumber_75 ?_
              refine s_dup X rfl dX5_readNumber_76 ?_
              refine s_getI X fk_X5_40 SHC_114 rfl dX5_readNumber_77 ?_
              refine s_const X (by unfold InR; omega) dX5_readNumber_80 ?_
              refine s_iadd X g33 dX5_readNumber_81 ?_
              obtain ⟨m_4, e34, h⟩ := ltv_elim h
              refine s_putI X e34 fp_X5_40 SHC_114 rfl trivial dX5_readNumber_82 ?_
              obtain ⟨g35, h⟩ := grd_some h
              obtain ⟨digits_3, e36, h⟩ := ltv_elim h
              refine s_iinc X 0 rfl g35 e36 rfl (by omega) dX5_readNumber_85 ?_
              refine s_goto (tgt := 7) X dX5_readNumber_88 (by omega) ?_
              exact ih9 _ _ (iter_next h hc8)
  exact LP10 _ _ _ hl15
set_option maxRecDepth 20000 in
set_option maxHeartbeats 4000000 in
theorem L_C_Row_readSign (G : Gl) (sign_ : Int) (m : Mem) (r : (Int × Mem))  (h : C_Row_readSign sign_ m = some r) : Con SHC G yX5_readSign cX5_readSign 2 (some .boolean) rm_X5_readSign [VR 114, VI sign_] m (((.inl (some (VI r.1)), r.2) : Res × Mem)) := by
  refine con_of (own := "Lastbus$Row") (by decide) rfl (Nat.le_of_ble_eq_true rfl) (fun C X => ?_)
  obtain ⟨O, hO⟩ : ∃ O : Res × Mem, O = (((.inl (some (VI r.1)), r.2) : Res × Mem)) := ⟨_, rfl⟩
  rw [← hO]
  show J SHC G rm_X5_readSign (.inl O) C 0 0 0 [(0, VR 114), (1, VI sign_)] [] m
  unfold C_Row_readSign at h
  obtain ⟨g1, h⟩ := grd_some h
  have kT2 : (m 114 1 ≤ m 114 8) ∨ (¬ m 115 (m 114 8).toNat = sign_) → J SHC G rm_X5_readSign (.inl O) C 0 0 24 [(0, VR 114), (1, VI sign_)] [] m := by
    intro c7
    replace h := ite_pos h c7
    refine s_const X (by unfold InR; omega) dX5_readSign_24 ?_
    exact s_zret X (Or.inl rfl) (Nat.le_of_ble_eq_true rfl) (Nat.le_of_ble_eq_true rfl) (by cases h; exact hO) dX5_readSign_25
  refine s_load0 X 0 rfl dX5_readSign_0 ?_
  refine s_getI X fk_X5_40 SHC_114 rfl dX5_readSign_1 ?_
  refine s_load0 X 0 rfl dX5_readSign_4 ?_
  refine s_getI X fk_X5_29 SHC_114 rfl dX5_readSign_5 ?_
  refine s_icmpge_t (tgt := 24) X dX5_readSign_8 (by omega) (fun c4 => ?_) (fun c5 => ?_)
  · exact kT2 (Or.inl c4)
  · have a8 : ¬ (m 114 1 ≤ m 114 8) := c5
    refine s_load0 X 0 rfl dX5_readSign_11 ?_
    refine s_getR (id := 115) X fk_X5_9 SHC_114 rfl dX5_readSign_12 ?_
    refine s_load0 X 0 rfl dX5_readSign_15 ?_
    refine s_getI X fk_X5_40 SHC_114 rfl dX5_readSign_16 ?_
    refine s_cald X SHC_115 (g1.1 a8) (g1.2 a8) dX5_readSign_19 ?_
    refine s_iload_n X 1 rfl dX5_readSign_20 ?_
    refine s_icmpeq_f (tgt := 26) X dX5_readSign_21 (by omega) (fun c9 => ?_) (fun c10 => ?_)
    · replace h := ite_neg h (fun q => q.elim a8 c9)
      obtain ⟨g11, h⟩ := grd_some h
      refine s_load0 X 0 rfl dX5_readSign_26 ?_
      refine s_dup X rfl dX5_readSign_27 ?_
      refine s_getI X fk_X5_40 SHC_114 rfl dX5_readSign_28 ?_
      refine s_const X (by unfold InR; omega) dX5_readSign_31 ?_
      refine s_iadd X g11 dX5_readSign_32 ?_
      obtain ⟨m_, e12, h⟩ := ltv_elim h
      refine s_putI X e12 fp_X5_40 SHC_114 rfl trivial dX5_readSign_33 ?_
      refine s_const X (by unfold InR; omega) dX5_readSign_36 ?_
      exact s_zret X (Or.inr rfl) (Nat.le_of_ble_eq_true rfl) (Nat.le_of_ble_eq_true rfl) (by cases h; exact hO) dX5_readSign_37
    · exact kT2 (Or.inr c10)
set_option maxRecDepth 20000 in
set_option maxHeartbeats 4000000 in
theorem L_C_Row_keep (G : Gl) (place_ : Int) (arrival_ : Int) (departure_ : Int) (m : Mem) (r : Mem)  (h : C_Row_keep place_ arrival_ departure_ m = some r) : Con SHC G yX5_keep cX5_keep 4 none rm_X5_keep [VR 114, VI place_, VI arrival_, VI departure_] m (((.inl none, r) : Res × Mem)) := by
  refine con_of (own := "Lastbus$Row") (by decide) rfl (Nat.le_of_ble_eq_true rfl) (fun C X => ?_)
  obtain ⟨O, hO⟩ : ∃ O : Res × Mem, O = (((.inl none, r) : Res × Mem)) := ⟨_, rfl⟩
  rw [← hO]
  show J SHC G rm_X5_keep (.inl O) C 0 0 0 [(0, VR 114), (1, VI place_), (2, VI arrival_), (3, VI departure_)] [] m
  unfold C_Row_keep at h
  obtain ⟨kj_, hk1, h⟩ := ltv_elim h
  have K2 : ∀ (m_ : Mem), kj_ m_ = some r → J SHC G rm_X5_keep (.inl O) C 0 0 39 [(0, VR 114), (1, VI place_), (2, VI arrival_), (3, VI departure_)] [] m_ := by
    intro m_ h
    subst hk1
    dsimp only at h
    obtain ⟨g14, h⟩ := grd_some h
    refine s_load0 X 0 rfl dX5_keep_39 ?_
    refine s_dup X rfl dX5_keep_40 ?_
    refine s_getI X fk_X5_43 SHC_114 rfl dX5_keep_41 ?_
    refine s_const X (by unfold InR; omega) dX5_keep_44 ?_
    refine s_iadd X g14 dX5_keep_45 ?_
    obtain ⟨m_5, e15, h⟩ := ltv_elim h
    refine s_putI X e15 fp_X5_43 SHC_114 rfl trivial dX5_keep_46 ?_
    exact s_vret X (Nat.le_of_ble_eq_true rfl) (Nat.le_of_ble_eq_true rfl) (by cases h; exact hO) dX5_keep_49
  refine s_load0 X 0 rfl dX5_keep_0 ?_
  refine s_getI X fk_X5_43 SHC_114 rfl dX5_keep_1 ?_
  refine s_bipush X (by omega) dX5_keep_4 ?_
  refine s_icmpge_f (tgt := 39) X dX5_keep_6 (by omega) (fun c6 => ?_) (fun c7 => ?_)
  · replace h := ite_neg h c6
    exact s_kn rfl rfl (K2 _ h)
  · replace h := ite_pos h c7
    obtain ⟨g8, h⟩ := grd_some h
    refine s_load0 X 0 rfl dX5_keep_9 ?_
    refine s_getR (id := 116) X fk_X5_19 SHC_114 rfl dX5_keep_10 ?_
    refine s_load0 X 0 rfl dX5_keep_13 ?_
    refine s_getI X fk_X5_43 SHC_114 rfl dX5_keep_14 ?_
    refine s_iload_n X 1 rfl dX5_keep_17 ?_
    obtain ⟨m_2, e9, h⟩ := ltv_elim h
    refine s_iast X e9 SHC_116 g8.1 g8.2 dX5_keep_18 ?_
    obtain ⟨g10, h⟩ := grd_some h
    refine s_load0 X 0 rfl dX5_keep_19 ?_
    refine s_getR (id := 117) X fk_X5_23 SHC_114 rfl dX5_keep_20 ?_
    refine s_load0 X 0 rfl dX5_keep_23 ?_
    refine s_getI X fk_X5_43 SHC_114 rfl dX5_keep_24 ?_
    refine s_iload_n X 2 rfl dX5_keep_27 ?_
    obtain ⟨m_3, e11, h⟩ := ltv_elim h
    refine s_iast X e11 SHC_117 g10.1 g10.2 dX5_keep_28 ?_
    obtain ⟨g12, h⟩ := grd_some h
    refine s_load0 X 0 rfl dX5_keep_29 ?_
    refine s_getR (id := 118) X fk_X5_26 SHC_114 rfl dX5_keep_30 ?_
    refine s_load0 X 0 rfl dX5_keep_33 ?_
    refine s_getI X fk_X5_43 SHC_114 rfl dX5_keep_34 ?_
    refine s_iload_n X 3 rfl dX5_keep_37 ?_
    obtain ⟨m_4, e13, h⟩ := ltv_elim h
    refine s_iast X e13 SHC_118 g12.1 g12.2 dX5_keep_38 ?_
    exact s_kn rfl rfl (K2 _ h)
set_option maxRecDepth 20000 in
set_option maxHeartbeats 4000000 in
theorem L_C_Row_readFirst (G : Gl)  (m : Mem) (r : (Int × Mem))  (h : C_Row_readFirst  m = some r) : Con SHC G yX5_readFirst cX5_readFirst 2 (some .boolean) rm_X5_readFirst [VR 114] m (((.inl (some (VI r.1)), r.2) : Res × Mem)) := by
  refine con_of (own := "Lastbus$Row") (by decide) rfl (Nat.le_of_ble_eq_true rfl) (fun C X => ?_)
  obtain ⟨O, hO⟩ : ∃ O : Res × Mem, O = (((.inl (some (VI r.1)), r.2) : Res × Mem)) := ⟨_, rfl⟩
  rw [← hO]
  show J SHC G rm_X5_readFirst (.inl O) C 0 0 0 [(0, VR 114)] [] m
  unfold C_Row_readFirst at h
  refine s_load0 X 0 rfl dX5_readFirst_0 ?_
  obtain ⟨r_, m_, hq2, h⟩ := bq2_some h
  refine s_callV (As := []) X cw_X5_53 SHC_114 rfl dX5_readFirst_1 (L_C_Row_readNumber G m (r_, m_) hq2) rfl ⟨Nat.le_of_ble_eq_true rfl, Nat.le_of_ble_eq_true rfl⟩ ⟨Nat.le_of_ble_eq_true rfl, Nat.le_of_ble_eq_true rfl⟩ (Nat.le_of_ble_eq_true rfl) noT (kkR ?_)
  refine s_ifne_t (tgt := 9) X dX5_readFirst_4 (by omega) (fun c5 => ?_) (fun c6 => ?_)
  · replace h := ite_pos h c5
    refine s_load0 X 0 rfl dX5_readFirst_9 ?_
    refine s_load0 X 0 rfl dX5_readFirst_10 ?_
    refine s_getI X fk_X5_56 SHC_114 rfl dX5_readFirst_11 ?_
    obtain ⟨m_2, e8, h⟩ := ltv_elim h
    refine s_putI X e8 fp_X5_59 SHC_114 rfl trivial dX5_readFirst_14 ?_
    refine s_load0 X 0 rfl dX5_readFirst_17 ?_
    refine s_bipush X (by omega) dX5_readFirst_18 ?_
    obtain ⟨r_2, m_3, hq10, h⟩ := bq2_some h
    refine s_callV (As := [VI 58]) X cw_X5_62 SHC_114 rfl dX5_readFirst_20 (L_C_Row_readSign G 58 m_2 (r_2, m_3) hq10) rfl ⟨Nat.le_of_ble_eq_true rfl, Nat.le_of_ble_eq_true rfl⟩ ⟨Nat.le_of_ble_eq_true rfl, Nat.le_of_ble_eq_true rfl⟩ (Nat.le_of_ble_eq_true rfl) noT (kkR ?_)
    refine s_ifeq_f (tgt := 33) X dX5_readFirst_23 (by omega) (fun c13 => ?_) (fun c14 => ?_)
    · replace h := ite_neg h c13
      refine s_const X (by unfold InR; omega) dX5_readFirst_33 ?_
      exact s_zret X (Or.inl rfl) (Nat.le_of_ble_eq_true rfl) (Nat.le_of_ble_eq_true rfl) (by cases h; exact hO) dX5_readFirst_34
    · replace h := ite_pos h c14
      refine s_load0 X 0 rfl dX5_readFirst_26 ?_
      obtain ⟨r_3, m_4, hq17, h⟩ := bq2_some h
      refine s_callV (As := []) X cw_X5_53 SHC_114 rfl dX5_readFirst_27 (L_C_Row_readNumber G m_3 (r_3, m_4) hq17) rfl ⟨Nat.le_of_ble_eq_true rfl, Nat.le_of_ble_eq_true rfl⟩ ⟨Nat.le_of_ble_eq_true rfl, Nat.le_of_ble_eq_true rfl⟩ (Nat.le_of_ble_eq_true rfl) noT (kkR ?_)
      refine s_ifne_t (tgt := 35) X dX5_readFirst_30 (by omega) (fun c20 => ?_) (fun c21 => ?_)
      · replace h := ite_pos h c20
        refine s_load0 X 0 rfl dX5_readFirst_35 ?_
        refine s_getI X fk_X5_56 SHC_114 rfl dX5_readFirst_36 ?_
        obtain ⟨place_, e23, h⟩ := ltv_elim h
        refine s_istore_n X e23 rfl (by omega) dX5_readFirst_39 ?_
        refine s_load0 X 1 rfl dX5_readFirst_40 ?_
        refine s_bipush X (by omega) dX5_readFirst_41 ?_
        obtain ⟨r_4, m_5, hq25, h⟩ := bq2_some h
        refine s_callV (As := [VI 64]) X cw_X5_62 SHC_114 rfl dX5_readFirst_43 (L_C_Row_readSign G 64 m_4 (r_4, m_5) hq25) rfl ⟨Nat.le_of_ble_eq_true rfl, Nat.le_of_ble_eq_true rfl⟩ ⟨Nat.le_of_ble_eq_true rfl, Nat.le_of_ble_eq_true rfl⟩ (Nat.le_of_ble_eq_true rfl) noT (kkR ?_)
        refine s_ifeq_f (tgt := 56) X dX5_readFirst_46 (by omega) (fun c28 => ?_) (fun c29 => ?_)
        · replace h := ite_neg h c28
          refine s_const X (by unfold InR; omega) dX5_readFirst_56 ?_
          exact s_zret X (Or.inl rfl) (Nat.le_of_ble_eq_true rfl) (Nat.le_of_ble_eq_true rfl) (by cases h; exact hO) dX5_readFirst_57
        · replace h := ite_pos h c29
          refine s_load0 X 1 rfl dX5_readFirst_49 ?_
          obtain ⟨r_5, m_6, hq32, h⟩ := bq2_some h
          refine s_callV (As := []) X cw_X5_53 SHC_114 rfl dX5_readFirst_50 (L_C_Row_readNumber G m_5 (r_5, m_6) hq32) rfl ⟨Nat.le_of_ble_eq_true rfl, Nat.le_of_ble_eq_true rfl⟩ ⟨Nat.le_of_ble_eq_true rfl, Nat.le_of_ble_eq_true rfl⟩ (Nat.le_of_ble_eq_true rfl) noT (kkR ?_)
          refine s_ifne_t (tgt := 58) X dX5_readFirst_53 (by omega) (fun c35 => ?_) (fun c36 => ?_)
          · replace h := ite_pos h c35
            refine s_load0 X 1 rfl dX5_readFirst_58 ?_
            refine s_iload_n X 0 rfl dX5_readFirst_59 ?_
            refine s_load0 X 1 rfl dX5_readFirst_60 ?_
            refine s_getI X fk_X5_56 SHC_114 rfl dX5_readFirst_61 ?_
            refine s_load0 X 1 rfl dX5_readFirst_64 ?_
            refine s_getI X fk_X5_56 SHC_114 rfl dX5_readFirst_65 ?_
            obtain ⟨m_7, hq38, h⟩ := bnd_some h
            refine s_callV (As := [VI place_, VI (m_6 114 9), VI (m_6 114 9)]) X cw_X5_66 SHC_114 rfl dX5_readFirst_68 (L_C_Row_keep G place_ (m_6 114 9) (m_6 114 9) m_6 m_7 hq38) rfl ⟨Nat.le_of_ble_eq_true rfl, Nat.le_of_ble_eq_true rfl⟩ ⟨Nat.le_of_ble_eq_true rfl, Nat.le_of_ble_eq_true rfl⟩ (Nat.le_of_ble_eq_true rfl) noT (kkU ?_)
            refine s_const X (by unfold InR; omega) dX5_readFirst_71 ?_
            exact s_zret X (Or.inr rfl) (Nat.le_of_ble_eq_true rfl) (Nat.le_of_ble_eq_true rfl) (by cases h; exact hO) dX5_readFirst_72
          · replace h := ite_neg h c36
            refine s_const X (by unfold InR; omega) dX5_readFirst_56 ?_
            exact s_zret X (Or.inl rfl) (Nat.le_of_ble_eq_true rfl) (Nat.le_of_ble_eq_true rfl) (by cases h; exact hO) dX5_readFirst_57
      · replace h := ite_neg h c21
        refine s_const X (by unfold InR; omega) dX5_readFirst_33 ?_
        exact s_zret X (Or.inl rfl) (Nat.le_of_ble_eq_true rfl) (Nat.le_of_ble_eq_true rfl) (by cases h; exact hO) dX5_readFirst_34
  · replace h := ite_neg h c6
    refine s_const X (by unfold InR; omega) dX5_readFirst_7 ?_
    exact s_zret X (Or.inl rfl) (Nat.le_of_ble_eq_true rfl) (Nat.le_of_ble_eq_true rfl) (by cases h; exact hO) dX5_readFirst_8
set_option maxRecDepth 20000 in
set_option maxHeartbeats 4000000 in
theorem L_C_Row_readNext (G : Gl)  (m : Mem) (r : (Int × Mem))  (h : C_Row_readNext  m = some r) : Con SHC G yX5_readNext cX5_readNext 3 (some .boolean) rm_X5_readNext [VR 114] m (((.inl (some (VI r.1)), r.2) : Res × Mem)) := by
  refine con_of (own := "Lastbus$Row") (by decide) rfl (Nat.le_of_ble_eq_true rfl) (fun C X => ?_)
  obtain ⟨O, hO⟩ : ∃ O : Res × Mem, O = (((.inl (some (VI r.1)), r.2) : Res × Mem)) := ⟨_, rfl⟩
  rw [← hO]
  show J SHC G rm_X5_readNext (.inl O) C 0 0 0 [(0, VR 114)] [] m
  unfold C_Row_readNext at h
  refine s_load0 X 0 rfl dX5_readNext_0 ?_
  refine s_bipush X (by omega) dX5_readNext_1 ?_
  obtain ⟨r_, m_, hq2, h⟩ := bq2_some h
  refine s_callV (As := [VI 44]) X cw_X5_62 SHC_114 rfl dX5_readNext_3 (L_C_Row_readSign G 44 m (r_, m_) hq2) rfl ⟨Nat.le_of_ble_eq_true rfl, Nat.le_of_ble_eq_true rfl⟩ ⟨Nat.le_of_ble_eq_true rfl, Nat.le_of_ble_eq_true rfl⟩ (Nat.le_of_ble_eq_true rfl) noT (kkR ?_)
  refine s_ifeq_f (tgt := 16) X dX5_readNext_6 (by omega) (fun c5 => ?_) (fun c6 => ?_)
  · replace h := ite_neg h c5
    refine s_const X (by unfold InR; omega) dX5_readNext_16 ?_
    exact s_zret X (Or.inl rfl) (Nat.le_of_ble_eq_true rfl) (Nat.le_of_ble_eq_true rfl) (by cases h; exact hO) dX5_readNext_17
  · replace h := ite_pos h c6
    refine s_load0 X 0 rfl dX5_readNext_9 ?_
    obtain ⟨r_2, m_2, hq9, h⟩ := bq2_some h
    refine s_callV (As := []) X cw_X5_53 SHC_114 rfl dX5_readNext_10 (L_C_Row_readNumber G m_ (r_2, m_2) hq9) rfl ⟨Nat.le_of_ble_eq_true rfl, Nat.le_of_ble_eq_true rfl⟩ ⟨Nat.le_of_ble_eq_true rfl, Nat.le_of_ble_eq_true rfl⟩ (Nat.le_of_ble_eq_true rfl) noT (kkR ?_)
    refine s_ifne_t (tgt := 18) X dX5_readNext_13 (by omega) (fun c12 => ?_) (fun c13 => ?_)
    · replace h := ite_pos h c12
      refine s_load0 X 0 rfl dX5_readNext_18 ?_
      refine s_getI X fk_X5_56 SHC_114 rfl dX5_readNext_19 ?_
      obtain ⟨place_, e15, h⟩ := ltv_elim h
      refine s_istore_n X e15 rfl (by omega) dX5_readNext_22 ?_
      refine s_load0 X 1 rfl dX5_readNext_23 ?_
      refine s_bipush X (by omega) dX5_readNext_24 ?_
      obtain ⟨r_3, m_3, hq17, h⟩ := bq2_some h
      refine s_callV (As := [VI 64]) X cw_X5_62 SHC_114 rfl dX5_readNext_26 (L_C_Row_readSign G 64 m_2 (r_3, m_3) hq17) rfl ⟨Nat.le_of_ble_eq_true rfl, Nat.le_of_ble_eq_true rfl⟩ ⟨Nat.le_of_ble_eq_true rfl, Nat.le_of_ble_eq_true rfl⟩ (Nat.le_of_ble_eq_true rfl) noT (kkR ?_)
      refine s_ifeq_f (tgt := 39) X dX5_readNext_29 (by omega) (fun c20 => ?_) (fun c21 => ?_)
      · replace h := ite_neg h c20
        refine s_const X (by unfold InR; omega) dX5_readNext_39 ?_
        exact s_zret X (Or.inl rfl) (Nat.le_of_ble_eq_true rfl) (Nat.le_of_ble_eq_true rfl) (by cases h; exact hO) dX5_readNext_40
      · replace h := ite_pos h c21
        refine s_load0 X 1 rfl dX5_readNext_32 ?_
        obtain ⟨r_4, m_4, hq24, h⟩ := bq2_some h
        refine s_callV (As := []) X cw_X5_53 SHC_114 rfl dX5_readNext_33 (L_C_Row_readNumber G m_3 (r_4, m_4) hq24) rfl ⟨Nat.le_of_ble_eq_true rfl, Nat.le_of_ble_eq_true rfl⟩ ⟨Nat.le_of_ble_eq_true rfl, Nat.le_of_ble_eq_true rfl⟩ (Nat.le_of_ble_eq_true rfl) noT (kkR ?_)
        refine s_ifne_t (tgt := 41) X dX5_readNext_36 (by omega) (fun c27 => ?_) (fun c28 => ?_)
        · replace h := ite_pos h c27
          refine s_load0 X 1 rfl dX5_readNext_41 ?_
          refine s_getI X fk_X5_56 SHC_114 rfl dX5_readNext_42 ?_
          obtain ⟨arrival_, e30, h⟩ := ltv_elim h
          refine s_istore_n X e30 rfl (by omega) dX5_readNext_45 ?_
          refine s_load0 X 2 rfl dX5_readNext_46 ?_
          refine s_bipush X (by omega) dX5_readNext_47 ?_
          obtain ⟨r_5, m_5, hq32, h⟩ := bq2_some h
          refine s_callV (As := [VI 45]) X cw_X5_62 SHC_114 rfl dX5_readNext_49 (L_C_Row_readSign G 45 m_4 (r_5, m_5) hq32) rfl ⟨Nat.le_of_ble_eq_true rfl, Nat.le_of_ble_eq_true rfl⟩ ⟨Nat.le_of_ble_eq_true rfl, Nat.le_of_ble_eq_true rfl⟩ (Nat.le_of_ble_eq_true rfl) noT (kkR ?_)
          refine s_ifeq_f (tgt := 64) X dX5_readNext_52 (by omega) (fun c35 => ?_) (fun c36 => ?_)
          · replace h := ite_neg h c35
            refine s_load0 X 2 rfl dX5_readNext_64 ?_
            refine s_iload_n X 1 rfl dX5_readNext_65 ?_
            refine s_iload_n X 0 rfl dX5_readNext_66 ?_
            refine s_load0 X 2 rfl dX5_readNext_67 ?_
            refine s_getI X fk_X5_56 SHC_114 rfl dX5_readNext_68 ?_
            obtain ⟨m_6, hq38, h⟩ := bnd_some h
            refine s_callV (As := [VI place_, VI arrival_, VI (m_5 114 9)]) X cw_X5_66 SHC_114 rfl dX5_readNext_71 (L_C_Row_keep G place_ arrival_ (m_5 114 9) m_5 m_6 hq38) rfl ⟨Nat.le_of_ble_eq_true rfl, Nat.le_of_ble_eq_true rfl⟩ ⟨Nat.le_of_ble_eq_true rfl, Nat.le_of_ble_eq_true rfl⟩ (Nat.le_of_ble_eq_true rfl) noT (kkU ?_)
            refine s_const X (by unfold InR; omega) dX5_readNext_74 ?_
            exact s_zret X (Or.inr rfl) (Nat.le_of_ble_eq_true rfl) (Nat.le_of_ble_eq_true rfl) (by cases h; exact hO) dX5_readNext_75
          · replace h := ite_pos h c36
            refine s_load0 X 2 rfl dX5_readNext_55 ?_
            obtain ⟨r_6, m_7, hq43, h⟩ := bq2_some h
            refine s_callV (As := []) X cw_X5_53 SHC_114 rfl dX5_readNext_56 (L_C_Row_readNumber G m_5 (r_6, m_7) hq43) rfl ⟨Nat.le_of_ble_eq_true rfl, Nat.le_of_ble_eq_true rfl⟩ ⟨Nat.le_of_ble_eq_true rfl, Nat.le_of_ble_eq_true rfl⟩ (Nat.le_of_ble_eq_true rfl) noT (kkR ?_)
            refine s_ifne_t (tgt := 64) X dX5_readNext_59 (by omega) (fun c46 => ?_) (fun c47 => ?_)
            · replace h := ite_pos h c46
              refine s_load0 X 2 rfl dX5_readNext_64 ?_
              refine s_iload_n X 1 rfl dX5_readNext_65 ?_
              refine s_iload_n X 0 rfl dX5_readNext_66 ?_
              refine s_load0 X 2 rfl dX5_readNext_67 ?_
              refine s_getI X fk_X5_56 SHC_114 rfl dX5_readNext_68 ?_
              obtain ⟨m_8, hq49, h⟩ := bnd_some h
              refine s_callV (As := [VI place_, VI arrival_, VI (m_7 114 9)]) X cw_X5_66 SHC_114 rfl dX5_readNext_71 (L_C_Row_keep G place_ arrival_ (m_7 114 9) m_7 m_8 hq49) rfl ⟨Nat.le_of_ble_eq_true rfl, Nat.le_of_ble_eq_true rfl⟩ ⟨Nat.le_of_ble_eq_true rfl, Nat.le_of_ble_eq_true rfl⟩ (Nat.le_of_ble_eq_true rfl) noT (kkU ?_)
              refine s_const X (by unfold InR; omega) dX5_readNext_74 ?_
              exact s_zret X (Or.inr rfl) (Nat.le_of_ble_eq_true rfl) (Nat.le_of_ble_eq_true rfl) (by cases h; exact hO) dX5_readNext_75
            · replace h := ite_neg h c47
              refine s_const X (by unfold InR; omega) dX5_readNext_62 ?_
              exact s_zret X (Or.inl rfl) (Nat.le_of_ble_eq_true rfl) (Nat.le_of_ble_eq_true rfl) (by cases h; exact hO) dX5_readNext_63
        · replace h := ite_neg h c28
          refine s_const X (by unfold InR; omega) dX5_readNext_39 ?_
          exact s_zret X (Or.inl rfl) (Nat.le_of_ble_eq_true rfl) (Nat.le_of_ble_eq_true rfl) (by cases h; exact hO) dX5_readNext_40
    · replace h := ite_neg h c13
      refine s_const X (by unfold InR; omega) dX5_readNext_16 ?_
      exact s_zret X (Or.inl rfl) (Nat.le_of_ble_eq_true rfl) (Nat.le_of_ble_eq_true rfl) (by cases h; exact hO) dX5_readNext_17
set_option maxRecDepth 20000 in
set_option maxHeartbeats 4000000 in
theorem L_C_Row_read (G : Gl)  (m : Mem) (r : (Int × Mem))  (h : C_Row_read  m = some r) : Con SHC G yX5_read cX5_read 3 (some .boolean) rm_X5_read [VR 114] m (((.inl (some (VI r.1)), r.2) : Res × Mem)) := by
  refine con_of (own := "Lastbus$Row") (by decide) rfl (Nat.le_of_ble_eq_true rfl) (fun C X => ?_)
  obtain ⟨O, hO⟩ : ∃ O : Res × Mem, O = (((.inl (some (VI r.1)), r.2) : Res × Mem)) := ⟨_, rfl⟩
  rw [← hO]
  show J SHC G rm_X5_read (.inl O) C 0 0 0 [(0, VR 114)] [] m
  unfold C_Row_read at h
  refine s_load0 X 0 rfl dX5_read_0 ?_
  refine s_const X (by unfold InR; omega) dX5_read_1 ?_
  obtain ⟨m_, e2, h⟩ := ltv_elim h
  refine s_putI X e2 fp_X5_40 SHC_114 rfl trivial dX5_read_2 ?_
  refine s_load0 X 0 rfl dX5_read_5 ?_
  refine s_const X (by unfold InR; omega) dX5_read_6 ?_
  obtain ⟨m_2, e4, h⟩ := ltv_elim h
  refine s_putI X e4 fp_X5_43 SHC_114 rfl trivial dX5_read_7 ?_
  refine s_load0 X 0 rfl dX5_read_10 ?_
  obtain ⟨r_, m_3, hq6, h⟩ := bq2_some h
  refine s_callV (As := []) X cw_X5_46 SHC_114 rfl dX5_read_11 (L_C_Row_readFirst G m_2 (r_, m_3) hq6) rfl ⟨Nat.le_of_ble_eq_true rfl, Nat.le_of_ble_eq_true rfl⟩ ⟨Nat.le_of_ble_eq_true rfl, Nat.le_of_ble_eq_true rfl⟩ (Nat.le_of_ble_eq_true rfl) noT (kkR ?_)
  obtain ⟨isRow_, e9, h⟩ := ltv_elim h
  refine s_istore_n X e9 rfl (by omega) dX5_read_14 ?_
  refine s_const X (by unfold InR; omega) dX5_read_15 ?_
  obtain ⟨turn_, e11, h⟩ := ltv_elim h
  refine s_istore_n X e11 rfl (by omega) dX5_read_16 ?_
  obtain ⟨isRow_4, turn_4, m_6, hl21, h⟩ := bq3_some h
  obtain ⟨fu120, hl22⟩ := loop_iter hl21
  have KX18 : ∀ q9 : Int × Int × Mem, q9 = (isRow_4, turn_4, m_6) → J SHC G rm_X5_read (.inl O) C 0 0 49 [(2, VI q9.2.1), (1, VI q9.1), (0, VR 114)] [] (q9.2.2) := by
    intro q9 e9
    subst e9
    show J SHC G rm_X5_read (.inl O) C 0 0 49 [(2, VI turn_4), (1, VI isRow_4), (0, VR 114)] [] m_6
    obtain ⟨kj_, hk42, h⟩ := ltv_elim h
    have K43 : ∀ (m_7 : Mem), kj_ m_7 = some r → J SHC G rm_X5_read (.inl O) C 0 0 61 [(1, VI isRow_4), (0, VR 114)] [] m_7 := by
      intro m_7 h
      subst hk42
      dsimp only at h
      obtain ⟨g51, h⟩ := grd_some h
      refine s_iload_n X 0 rfl dX5_read_61 ?_
      exact s_zret X g51 (Nat.le_of_ble_eq_true rfl) (Nat.le_of_ble_eq_true rfl) (by cases h; exact hO) dX5_read_62
    refine s_iload_n X 1 rfl dX5_read_49 ?_
    refine s_ifne_f (tgt := 61) X dX5_read_50 (by omega) (fun c47 => ?_) (fun c48 => ?_)
    · replace h := ite_neg h c47
      refine s_loc [1, 2] rfl ?_
      exact s_kn rfl rfl (K43 _ h)
    · replace h := ite_pos h c48
      refine s_load0 X 2 rfl dX5_read_53 ?_
      refine s_load0 X 2 rfl dX5_read_54 ?_
      refine s_getI X fk_X5_40 SHC_114 rfl dX5_read_55 ?_
      obtain ⟨m_8, e50, h⟩ := ltv_elim h
      refine s_putI X e50 fp_X5_15 SHC_114 rfl trivial dX5_read_58 ?_
      refine s_loc [1, 2] rfl ?_
      exact s_kn rfl rfl (K43 _ h)
  have LP17 : ∀ (fu12 : Nat) (isRow_2 : Int) (turn_2 : Int) (m_4 : Mem), iter (fun s => C_Row_read_b1 s.1 s.2.1 s.2.2) fu12 (isRow_2, turn_2, m_4) = some (isRow_4, turn_4, m_6) → J SHC G rm_X5_read (.inl O) C 0 0 17 [(2, VI turn_2), (1, VI isRow_2), (0, VR 114)] [] m_4 := by
    intro fu12
    induction fu12 with
    | zero => intro isRow_2 turn_2 m_4 hn13; exact absurd hn13 (by simp [iter])
    | succ fu12 ih16 =>
      intro isRow_2 turn_2 m_4 hn13
      obtain ⟨x14, h, hc15⟩ := iter_succ hn13
      replace h : C_Row_read_b1 isRow_2 turn_2 m_4 = some x14 := h
      unfold C_Row_read_b1 at h
      have kF25 : ¬ (((turn_2 < 80) ∧ (¬ isRow_2 = 0)) ∧ (m_4 114 8 < m_4 114 1)) → J SHC G rm_X5_read (.inl O) C 0 0 49 [(2, VI turn_2), (1, VI isRow_2), (0, VR 114)] [] m_4 := by
        intro c28
        replace h := ite_neg h c28
        exact KX18 _ (iter_exit h hc15)
      refine s_iload_n X 0 rfl dX5_read_17 ?_
      refine s_bipush X (by omega) dX5_read_18 ?_
      refine s_icmpge_f (tgt := 49) X dX5_read_20 (by omega) (fun c26 => ?_) (fun c27 => ?_)
      · exact kF25 (fun q => (fun q => c26 q.1) q.1)
      · have a29 : turn_2 < 80 := c27
        refine s_iload_n X 1 rfl dX5_read_23 ?_
        refine s_ifeq_f (tgt := 49) X dX5_read_24 (by omega) (fun c30 => ?_) (fun c31 => ?_)
        · exact kF25 (fun q => (fun q => c30 q.2) q.1)
        · have a32 : (turn_2 < 80) ∧ (¬ isRow_2 = 0) := ⟨a29, c31⟩
          refine s_load0 X 2 rfl dX5_read_27 ?_
          refine s_getI X fk_X5_40 SHC_114 rfl dX5_read_28 ?_
          refine s_load0 X 2 rfl dX5_read_31 ?_
          refine s_getI X fk_X5_29 SHC_114 rfl dX5_read_32 ?_
          refine s_icmpge_f (tgt := 49) X dX5_read_35 (by omega) (fun c33 => ?_) (fun c34 => ?_)
          · exact kF25 (fun q => c33 q.2)
          · replace h := ite_pos h ⟨a32, c34⟩
            refine s_load0 X 2 rfl dX5_read_38 ?_
            obtain ⟨r_2, m_5, hq36, h⟩ := bq2_some h
            refine s_callV (As := []) X cw_X5_50 SHC_114 rfl dX5_read_39 (L_C_Row_readNext G m_4 (r_2, m_5) hq36) rfl ⟨Nat.le_of_ble_eq_true rfl, Nat.le_of_ble_eq_true rfl⟩ ⟨Nat.le_of_ble_eq_true rfl, Nat.le_of_ble_eq_true rfl⟩ (Nat.le_of_ble_eq_true rfl) noT (kkR ?_)
            obtain ⟨isRow_3, e39, h⟩ := ltv_elim h
            refine s_istore_n X e39 rfl (by omega) dX5_read_42 ?_
            obtain ⟨g40, h⟩ := grd_some h
            obtain ⟨turn_3, e41, h⟩ := ltv_elim h
            refine s_iinc X 1 rfl g40 e41 rfl (by omega) dX5_read_43 ?_
            refine s_goto (tgt := 17) X dX5_read_46 (by omega) ?_
            exact ih16 _ _ _ (iter_next h hc15)
  exact LP17 _ _ _ _ hl22
set_option maxRecDepth 20000 in
set_option maxHeartbeats 4000000 in
theorem L_C_rowFits (G : Gl)  (m : Mem) (r : Int)  (h : C_rowFits  m = some r) : Con SHC G yX11_rowFits cX11_rowFits 3 (some .boolean) rm_X11_rowFits [VR 0] m (((.inl (some (VI r)), m) : Res × Mem)) := by
  refine con_of (own := "Lastbus") (by decide) rfl (Nat.le_of_ble_eq_true rfl) (fun C X => ?_)
  obtain ⟨O, hO⟩ : ∃ O : Res × Mem, O = (((.inl (some (VI r)), m) : Res × Mem)) := ⟨_, rfl⟩
  rw [← hO]
  show J SHC G rm_X11_rowFits (.inl O) C 0 0 0 [(0, VR 0)] [] m
  unfold C_rowFits at h
  refine s_load0 X 0 rfl dX11_rowFits_0 ?_
  refine s_getR (id := 29) X fk_X11_19 SHC_0 rfl dX11_rowFits_1 ?_
  refine s_load0 X 0 rfl dX11_rowFits_4 ?_
  refine s_getR (id := 114) X fk_X11_40 SHC_0 rfl dX11_rowFits_5 ?_
  refine s_getI X fk_X11_242 SHC_114 rfl dX11_rowFits_8 ?_
  obtain ⟨r_, hq2, h⟩ := bnd_some h
  refine s_callV (As := [VI (m 114 3)]) X cw_X11_456 SHC_29 rfl dX11_rowFits_11 (L_C_Services_has G (m 114 3) m r_ hq2) rfl ⟨Nat.le_of_ble_eq_true rfl, Nat.le_of_ble_eq_true rfl⟩ ⟨Nat.le_of_ble_eq_true rfl, Nat.le_of_ble_eq_true rfl⟩ (Nat.le_of_ble_eq_true rfl) noT (kkR ?_)
  refine s_ifeq_f (tgt := 29) X dX11_rowFits_14 (by omega) (fun c5 => ?_) (fun c6 => ?_)
  · replace h := ite_neg h c5
    refine s_const X (by unfold InR; omega) dX11_rowFits_29 ?_
    exact s_zret X (Or.inl rfl) (Nat.le_of_ble_eq_true rfl) (Nat.le_of_ble_eq_true rfl) (by cases h; exact hO) dX11_rowFits_30
  · replace h := ite_pos h c6
    refine s_load0 X 0 rfl dX11_rowFits_17 ?_
    refine s_getR (id := 114) X fk_X11_40 SHC_0 rfl dX11_rowFits_18 ?_
    refine s_getI X fk_X11_249 SHC_114 rfl dX11_rowFits_21 ?_
    refine s_bipush X (by omega) dX11_rowFits_24 ?_
    refine s_icmple_f (tgt := 31) X dX11_rowFits_26 (by omega) (fun c11 => ?_) (fun c12 => ?_)
    · replace h := ite_neg h c11
      refine s_const X (by unfold InR; omega) dX11_rowFits_31 ?_
      obtain ⟨call_, e14, h⟩ := ltv_elim h
      refine s_istore_n X e14 rfl (by omega) dX11_rowFits_32 ?_
      obtain ⟨s22, hl24, h⟩ := br1_some h
      obtain ⟨fu150, hl25⟩ := loop_iter hl24
      have KR23 : ∀ q9 : Int, .inr q9 = s22 → O = ((.inl (some (VI q9)), m) : Res × Mem) := by
        intro q9 e9
        subst e9
        replace h := brm1_inr h
        exact (by cases h; exact hO)
      have KX21 : ∀ q9 : Int, .inl q9 = s22 → J SHC G rm_X11_rowFits (.inl O) C 0 0 147 [(1, VI q9), (0, VR 0)] [] m := by
        intro q9 e9
        subst e9
        replace h := brm1_inl h
        obtain ⟨call_4, e8⟩ : ∃ z, z = q9 := ⟨_, rfl⟩
        subst e8
        show J SHC G rm_X11_rowFits (.inl O) C 0 0 147 [(1, VI call_4), (0, VR 0)] [] m
        refine s_const X (by unfold InR; omega) dX11_rowFits_147 ?_
        exact s_zret X (Or.inr rfl) (Nat.le_of_ble_eq_true rfl) (Nat.le_of_ble_eq_true rfl) (by cases h; exact hO) dX11_rowFits_148
      have LP20 : ∀ (fu15 : Nat) (call_2 : Int), iter (fun s => C_rowFits_b1 m s) fu15 call_2 = some s22 → J SHC G rm_X11_rowFits (.inl O) C 0 0 33 [(1, VI call_2), (0, VR 0)] [] m := by
        intro fu15
        induction fu15 with
        | zero => intro call_2 hn16; exact absurd hn16 (by simp [iter])
        | succ fu15 ih19 =>
          intro call_2 hn16
          obtain ⟨x17, h, hc18⟩ := iter_succ hn16
          replace h : C_rowFits_b1 m call_2 = some x17 := h
          unfold C_rowFits_b1 at h
          refine s_iload_n X 0 rfl dX11_rowFits_33 ?_
          refine s_load0 X 1 rfl dX11_rowFits_34 ?_
          refine s_getR (id := 114) X fk_X11_40 SHC_0 rfl dX11_rowFits_35 ?_
          refine s_getI X fk_X11_249 SHC_114 rfl dX11_rowFits_38 ?_
          refine s_icmpge_f (tgt := 147) X dX11_rowFits_41 (by omega) (fun c29 => ?_) (fun c30 => ?_)
          · replace h := ite_neg h c29
            exact KX21 _ (iter_exit h hc18)
          · replace h := ite_pos h c30
            obtain ⟨g31, h⟩ := grd_some h
            refine s_load0 X 1 rfl dX11_rowFits_44 ?_
            refine s_getR (id := 1) X fk_X11_12 SHC_0 rfl dX11_rowFits_45 ?_
            refine s_load0 X 1 rfl dX11_rowFits_48 ?_
            refine s_getR (id := 114) X fk_X11_40 SHC_0 rfl dX11_rowFits_49 ?_
            refine s_getR (id := 116) X fk_X11_245 SHC_114 rfl dX11_rowFits_52 ?_
            refine s_iload_n X 0 rfl dX11_rowFits_55 ?_
            refine s_iald X SHC_116 g31.1 g31.2 dX11_rowFits_56 ?_
            obtain ⟨r_2, hq32, h⟩ := bnd_some h
            refine s_callV (As := [VI (m 116 call_2.toNat)]) X cw_X11_448 SHC_1 rfl dX11_rowFits_57 (L_C_Stops_has G (m 116 call_2.toNat) m r_2 hq32) rfl ⟨Nat.le_of_ble_eq_true rfl, Nat.le_of_ble_eq_true rfl⟩ ⟨Nat.le_of_ble_eq_true rfl, Nat.le_of_ble_eq_true rfl⟩ (Nat.le_of_ble_eq_true rfl) noT (kkR ?_)
            refine s_ifne_t (tgt := 65) X dX11_rowFits_60 (by omega) (fun c35 => ?_) (fun c36 => ?_)
            · replace h := ite_pos h c35
              obtain ⟨g37, h⟩ := grd_some h
              have kF39 : ¬ ((0 < call_2) ∧ (m 116 call_2.toNat = m 116 (call_2 - 1).toNat)) → J SHC G rm_X11_rowFits (.inl O) C 0 0 94 [(1, VI call_2), (0, VR 0)] [] m := by
                intro c55
                replace h := ite_neg h c55
                obtain ⟨g42, h⟩ := grd_some h
                have kM43 : J SHC G rm_X11_rowFits (.inl O) C 0 0 113 [(1, VI call_2), (0, VR 0)] [VI (if call_2 = 0 then (-1) else m 118 (call_2 - 1).toNat)] m := by
                  obtain ⟨ahead_, e46, h⟩ := ltv_elim h
                  refine s_istore_n X e46 rfl (by omega) dX11_rowFits_113 ?_
                  refine s_iload_n X 0 rfl dX11_rowFits_114 ?_
                  refine s_load0 X 2 rfl dX11_rowFits_115 ?_
                  refine s_getR (id := 114) X fk_X11_40 SHC_0 rfl dX11_rowFits_116 ?_
                  refine s_getR (id := 117) X fk_X11_252 SHC_114 rfl dX11_rowFits_119 ?_
                  refine s_iload_n X 1 rfl dX11_rowFits_122 ?_
                  refine s_iald X SHC_117 g31.1 g31.2 dX11_rowFits_123 ?_
                  refine s_load0 X 2 rfl dX11_rowFits_124 ?_
                  refine s_getR (id := 114) X fk_X11_40 SHC_0 rfl dX11_rowFits_125 ?_
                  refine s_getR (id := 118) X fk_X11_247 SHC_114 rfl dX11_rowFits_128 ?_
                  refine s_iload_n X 1 rfl dX11_rowFits_131 ?_
                  refine s_iald X SHC_118 g31.1 g31.2 dX11_rowFits_132 ?_
                  refine s_callS (As := [VI ahead_, VI (m 117 call_2.toNat), VI (m 118 call_2.toNat)]) X cw_X11_189 dX11_rowFits_133 (L_C_goesOn G ahead_ (m 117 call_2.toNat) (m 118 call_2.toNat) m) rfl ⟨Nat.le_of_ble_eq_true rfl, Nat.le_of_ble_eq_true rfl⟩ ⟨Nat.le_of_ble_eq_true rfl, Nat.le_of_ble_eq_true rfl⟩ (Nat.le_of_ble_eq_true rfl) noT (kkR ?_)
                  refine s_ifne_f (tgt := 141) X dX11_rowFits_136 (by omega) (fun c50 => ?_) (fun c51 => ?_)
                  · replace h := ite_neg h c50
                    obtain ⟨g52, h⟩ := grd_some h
                    obtain ⟨call_3, e53, h⟩ := ltv_elim h
                    refine s_iinc X 1 rfl g52 e53 rfl (by omega) dX11_rowFits_141 ?_
                    refine s_goto (tgt := 33) X dX11_rowFits_144 (by omega) ?_
                    refine s_loc [0, 2] rfl ?_
                    exact ih19 _ (iter_next h hc18)
                  · replace h := ite_pos h c51
                    refine s_const X (by unfold InR; omega) dX11_rowFits_139 ?_
                    exact s_zret X (Or.inl rfl) (Nat.le_of_ble_eq_true rfl) (Nat.le_of_ble_eq_true rfl) (KR23 _ (iter_exit h hc18)) dX11_rowFits_140
                refine s_iload_n X 0 rfl dX11_rowFits_94 ?_
                refine s_ifne_f (tgt := 102) X dX11_rowFits_95 (by omega) (fun c44 => ?_) (fun c45 => ?_)
                · refine s_load0 X 1 rfl dX11_rowFits_102 ?_
                  refine s_getR (id := 114) X fk_X11_40 SHC_0 rfl dX11_rowFits_103 ?_
                  refine s_getR (id := 118) X fk_X11_247 SHC_114 rfl dX11_rowFits_106 ?_
                  refine s_iload_n X 0 rfl dX11_rowFits_109 ?_
                  refine s_const X (by unfold InR; omega) dX11_rowFits_110 ?_
                  refine s_isub X (g42.1 c44) dX11_rowFits_111 ?_
                  refine s_iald X SHC_118 (g42.2.1 c44) (g42.2.2 c44) dX11_rowFits_112 ?_
                  exact s_eqt (if_neg c44) kM43
                · refine s_const X (by unfold InR; omega) dX11_rowFits_98 ?_
                  refine s_goto (tgt := 113) X dX11_rowFits_99 (by omega) ?_
                  exact s_eqt (if_pos c45) kM43
              refine s_iload_n X 0 rfl dX11_rowFits_65 ?_
              refine s_ifle_f (tgt := 94) X dX11_rowFits_66 (by omega) (fun c40 => ?_) (fun c41 => ?_)
              · exact kF39 (fun q => c40 q.1)
              · have a56 : 0 < call_2 := c41
                refine s_load0 X 1 rfl dX11_rowFits_69 ?_
                refine s_getR (id := 114) X fk_X11_40 SHC_0 rfl dX11_rowFits_70 ?_
                refine s_getR (id := 116) X fk_X11_245 SHC_114 rfl dX11_rowFits_73 ?_
                refine s_iload_n X 0 rfl dX11_rowFits_76 ?_
                refine s_iald X SHC_116 g31.1 g31.2 dX11_rowFits_77 ?_
                refine s_load0 X 1 rfl dX11_rowFits_78 ?_
                refine s_getR (id := 114) X fk_X11_40 SHC_0 rfl dX11_rowFits_79 ?_
                refine s_getR (id := 116) X fk_X11_245 SHC_114 rfl dX11_rowFits_82 ?_
                refine s_iload_n X 0 rfl dX11_rowFits_85 ?_
                refine s_const X (by unfold InR; omega) dX11_rowFits_86 ?_
                refine s_isub X (g37.1 a56) dX11_rowFits_87 ?_
                refine s_iald X SHC_116 (g37.2.1 a56) (g37.2.2 a56) dX11_rowFits_88 ?_
                refine s_icmpne_f (tgt := 94) X dX11_rowFits_89 (by omega) (fun c57 => ?_) (fun c58 => ?_)
                · exact kF39 (fun q => c57 q.2)
                · replace h := ite_pos h ⟨a56, c58⟩
                  refine s_const X (by unfold InR; omega) dX11_rowFits_92 ?_
                  exact s_zret X (Or.inl rfl) (Nat.le_of_ble_eq_true rfl) (Nat.le_of_ble_eq_true rfl) (KR23 _ (iter_exit h hc18)) dX11_rowFits_93
            · replace h := ite_neg h c36
              refine s_const X (by unfold InR; omega) dX11_rowFits_63 ?_
              exact s_zret X (Or.inl rfl) (Nat.le_of_ble_eq_true rfl) (Nat.le_of_ble_eq_true rfl) (KR23 _ (iter_exit h hc18)) dX11_rowFits_64
      exact LP20 _ _ hl25
    · replace h := ite_pos h c12
      refine s_const X (by unfold InR; omega) dX11_rowFits_29 ?_
      exact s_zret X (Or.inl rfl) (Nat.le_of_ble_eq_true rfl) (Nat.le_of_ble_eq_true rfl) (by cases h; exact hO) dX11_rowFits_30
set_option maxRecDepth 20000 in
set_option maxHeartbeats 4000000 in
theorem L_C_readRow (G : Gl)  (m : Mem) (r : ((Int ⊕ Nat) × Mem))  (h : C_readRow  m = some r) : Con SHC G yX11_readRow cX11_readRow 3 (some .int) rm_X11_readRow [VR 0] m (oT wI r) := by
  refine con_of (own := "Lastbus") (by decide) rfl (Nat.le_of_ble_eq_true rfl) (fun C X => ?_)
  obtain ⟨O, hO⟩ : ∃ O : Res × Mem, O = (oT wI r) := ⟨_, rfl⟩
  rw [← hO]
  show J SHC G rm_X11_readRow (.inl O) C 0 0 0 [(0, VR 0)] [] m
  unfold C_readRow at h
  refine s_load0 X 0 rfl dX11_readRow_0 ?_
  refine s_getR (id := 114) X fk_X11_40 SHC_0 rfl dX11_readRow_1 ?_
  obtain ⟨r_, m_, hq2, h⟩ := bq2_some h
  refine s_callV (As := []) X cw_X11_228 SHC_114 rfl dX11_readRow_4 (L_C_Row_read G m (r_, m_) hq2) rfl ⟨Nat.le_of_ble_eq_true rfl, Nat.le_of_ble_eq_true rfl⟩ ⟨Nat.le_of_ble_eq_true rfl, Nat.le_of_ble_eq_true rfl⟩ (Nat.le_of_ble_eq_true rfl) noT (kkR ?_)
  refine s_ifne_t (tgt := 20) X dX11_readRow_7 (by omega) (fun c5 => ?_) (fun c6 => ?_)
  · replace h := ite_pos h c5
    refine s_load0 X 0 rfl dX11_readRow_20 ?_
    obtain ⟨r_2, hq8, h⟩ := bnd_some h
    refine s_callV (As := []) X cw_X11_234 SHC_0 rfl dX11_readRow_21 (L_C_rowFits G m_ r_2 hq8) rfl ⟨Nat.le_of_ble_eq_true rfl, Nat.le_of_ble_eq_true rfl⟩ ⟨Nat.le_of_ble_eq_true rfl, Nat.le_of_ble_eq_true rfl⟩ (Nat.le_of_ble_eq_true rfl) noT (kkR ?_)
    refine s_ifne_t (tgt := 37) X dX11_readRow_24 (by omega) (fun c11 => ?_) (fun c12 => ?_)
    · replace h := ite_pos h c11
      refine s_load0 X 0 rfl dX11_readRow_37 ?_
      obtain ⟨q15, hq14, h⟩ := bnd_some h
      refine s_callV (As := []) X cw_X11_173 SHC_0 rfl dX11_readRow_38 (L_C_needRoomForTrip G m_ q15 hq14) rfl ⟨Nat.le_of_ble_eq_true rfl, Nat.le_of_ble_eq_true rfl⟩ ⟨Nat.le_of_ble_eq_true rfl, Nat.le_of_ble_eq_true rfl⟩ (Nat.le_of_ble_eq_true rfl) (thr_up hO h) (kkT fun u_ m_2 e9 => ?_)
      subst e9
      replace h := tbd_inl h
      refine s_load0 X 0 rfl dX11_readRow_41 ?_
      refine s_getR (id := 31) X fk_X11_26 SHC_0 rfl dX11_readRow_42 ?_
      refine s_load0 X 0 rfl dX11_readRow_45 ?_
      refine s_getR (id := 114) X fk_X11_40 SHC_0 rfl dX11_readRow_46 ?_
      refine s_getI X fk_X11_242 SHC_114 rfl dX11_readRow_49 ?_
      refine s_load0 X 0 rfl dX11_readRow_52 ?_
      refine s_getR (id := 114) X fk_X11_40 SHC_0 rfl dX11_readRow_53 ?_
      refine s_getR (id := 116) X fk_X11_245 SHC_114 rfl dX11_readRow_56 ?_
      refine s_const X (by unfold InR; omega) dX11_readRow_59 ?_
      refine s_iald X SHC_116 (by omega) (by omega) dX11_readRow_60 ?_
      refine s_load0 X 0 rfl dX11_readRow_61 ?_
      refine s_getR (id := 114) X fk_X11_40 SHC_0 rfl dX11_readRow_62 ?_
      refine s_getR (id := 118) X fk_X11_247 SHC_114 rfl dX11_readRow_65 ?_
      refine s_const X (by unfold InR; omega) dX11_readRow_68 ?_
      refine s_iald X SHC_118 (by omega) (by omega) dX11_readRow_69 ?_
      obtain ⟨r_3, m_3, hq18, h⟩ := bq2_some h
      refine s_callV (As := [VI (m_2 114 3), VI (m_2 116 0), VI (m_2 118 0)]) X cw_X11_176 SHC_31 rfl dX11_readRow_70 (L_C_Trips_begin G (m_2 114 3) (m_2 116 0) (m_2 118 0) m_2 (r_3, m_3) hq18) rfl ⟨Nat.le_of_ble_eq_true rfl, Nat.le_of_ble_eq_true rfl⟩ ⟨Nat.le_of_ble_eq_true rfl, Nat.le_of_ble_eq_true rfl⟩ (Nat.le_of_ble_eq_true rfl) noT (kkR ?_)
      obtain ⟨trip_, e21, h⟩ := ltv_elim h
      refine s_istore_n X e21 rfl (by omega) dX11_readRow_73 ?_
      refine s_const X (by unfold InR; omega) dX11_readRow_74 ?_
      obtain ⟨call_, e23, h⟩ := ltv_elim h
      refine s_istore_n X e23 rfl (by omega) dX11_readRow_75 ?_
      obtain ⟨call_4, m_6, hl33, h⟩ := bq2_some h
      obtain ⟨fu240, hl34⟩ := loop_iter hl33
      have KX30 : ∀ q9 : Int × Mem, q9 = (call_4, m_6) → J SHC G rm_X11_readRow (.inl O) C 1 6 128 [(2, VI q9.1), (1, VI trip_), (0, VR 0)] [] (q9.2) := by
        intro q9 e9
        subst e9
        show J SHC G rm_X11_readRow (.inl O) C 1 6 128 [(2, VI call_4), (1, VI trip_), (0, VR 0)] [] m_6
        refine s_load0 X 2 rfl dX11_readRow_128 ?_
        refine s_getR (id := 114) X fk_X11_40 SHC_0 rfl dX11_readRow_129 ?_
        obtain ⟨r_4, m_7, hq47, h⟩ := bq2_some h
        refine s_callV (As := []) X cw_X11_225 SHC_114 rfl dX11_readRow_132 (L_C_Row_empty G m_6 (r_4, m_7) hq47) rfl ⟨Nat.le_of_ble_eq_true rfl, Nat.le_of_ble_eq_true rfl⟩ ⟨Nat.le_of_ble_eq_true rfl, Nat.le_of_ble_eq_true rfl⟩ (Nat.le_of_ble_eq_true rfl) noT (kkR ?_)
        refine s_pop X rfl dX11_readRow_135 ?_
        refine s_iload_n X 1 rfl dX11_readRow_136 ?_
        exact s_iret X (Nat.le_of_ble_eq_true rfl) (Nat.le_of_ble_eq_true rfl) (by cases h; exact hO) dX11_readRow_137
      have LP29 : ∀ (fu24 : Nat) (call_2 : Int) (m_4 : Mem), iter (fun s => C_readRow_b1 trip_ s.1 s.2) fu24 (call_2, m_4) = some (call_4, m_6) → J SHC G rm_X11_readRow (.inl O) C 1 6 76 [(2, VI call_2), (1, VI trip_), (0, VR 0)] [] m_4 := by
        intro fu24
        induction fu24 with
        | zero => intro call_2 m_4 hn25; exact absurd hn25 (by simp [iter])
        | succ fu24 ih28 =>
          intro call_2 m_4 hn25
          obtain ⟨x26, h, hc27⟩ := iter_succ hn25
          replace h : C_readRow_b1 trip_ call_2 m_4 = some x26 := h
          unfold C_readRow_b1 at h
          refine s_iload_n X 0 rfl dX11_readRow_76 ?_
          refine s_load0 X 2 rfl dX11_readRow_77 ?_
          refine s_getR (id := 114) X fk_X11_40 SHC_0 rfl dX11_readRow_78 ?_
          refine s_getI X fk_X11_249 SHC_114 rfl dX11_readRow_81 ?_
          refine s_icmpge_f (tgt := 128) X dX11_readRow_84 (by omega) (fun c38 => ?_) (fun c39 => ?_)
          · replace h := ite_neg h c38
            exact KX30 _ (iter_exit h hc27)
          · replace h := ite_pos h c39
            obtain ⟨g40, h⟩ := grd_some h
            refine s_load0 X 2 rfl dX11_readRow_87 ?_
            refine s_getR (id := 31) X fk_X11_26 SHC_0 rfl dX11_readRow_88 ?_
            refine s_iload_n X 1 rfl dX11_readRow_91 ?_
            refine s_load0 X 2 rfl dX11_readRow_92 ?_
            refine s_getR (id := 114) X fk_X11_40 SHC_0 rfl dX11_readRow_93 ?_
            refine s_getR (id := 116) X fk_X11_245 SHC_114 rfl dX11_readRow_96 ?_
            refine s_iload_n X 0 rfl dX11_readRow_99 ?_
            refine s_iald X SHC_116 g40.1 g40.2 dX11_readRow_100 ?_
            refine s_load0 X 2 rfl dX11_readRow_101 ?_
            refine s_getR (id := 114) X fk_X11_40 SHC_0 rfl dX11_readRow_102 ?_
            refine s_getR (id := 117) X fk_X11_252 SHC_114 rfl dX11_readRow_105 ?_
            refine s_iload_n X 0 rfl dX11_readRow_108 ?_
            refine s_iald X SHC_117 g40.1 g40.2 dX11_readRow_109 ?_
            refine s_load0 X 2 rfl dX11_readRow_110 ?_
            refine s_getR (id := 114) X fk_X11_40 SHC_0 rfl dX11_readRow_111 ?_
            refine s_getR (id := 118) X fk_X11_247 SHC_114 rfl dX11_readRow_114 ?_
            refine s_iload_n X 0 rfl dX11_readRow_117 ?_
            refine s_iald X SHC_118 g40.1 g40.2 dX11_readRow_118 ?_
            obtain ⟨m_5, hq41, h⟩ := bnd_some h
            refine s_callV (As := [VI trip_, VI (m_4 116 call_2.toNat), VI (m_4 117 call_2.toNat), VI (m_4 118 call_2.toNat)]) X cw_X11_200 SHC_31 rfl dX11_readRow_119 (L_C_Trips_add G trip_ (m_4 116 call_2.toNat) (m_4 117 call_2.toNat) (m_4 118 call_2.toNat) m_4 m_5 hq41) rfl ⟨Nat.le_of_ble_eq_true rfl, Nat.le_of_ble_eq_true rfl⟩ ⟨Nat.le_of_ble_eq_true rfl, Nat.le_of_ble_eq_true rfl⟩ (Nat.le_of_ble_eq_true rfl) noT (kkU ?_)
            obtain ⟨g44, h⟩ := grd_some h
            obtain ⟨call_3, e45, h⟩ := ltv_elim h
            refine s_iinc X 0 rfl g44 e45 rfl (by omega) dX11_readRow_122 ?_
            refine s_goto (tgt := 76) X dX11_readRow_125 (by omega) ?_
            exact ih28 _ _ (iter_next h hc27)
      exact LP29 _ _ _ hl34
    · replace h := ite_neg h c12
      exact s_throw X th_X11_237_239_241 (by cases h; exact hO) (Nat.le_of_ble_eq_true rfl) (Nat.le_of_ble_eq_true rfl) (Nat.le_of_ble_eq_true rfl) (Nat.le_of_ble_eq_true rfl) dX11_readRow_27 dX11_readRow_30 dX11_readRow_31 dX11_readRow_33 dX11_readRow_36
  · replace h := ite_neg h c6
    exact s_throw X th_X11_143_232_147 (by cases h; exact hO) (Nat.le_of_ble_eq_true rfl) (Nat.le_of_ble_eq_true rfl) (Nat.le_of_ble_eq_true rfl) (Nat.le_of_ble_eq_true rfl) dX11_readRow_10 dX11_readRow_13 dX11_readRow_14 dX11_readRow_16 dX11_readRow_19
set_option maxRecDepth 20000 in
set_option maxHeartbeats 4000000 in
theorem L_C_faultAt (G : Gl)  (m : Mem) (r : ((Int ⊕ Nat) × Mem))  (h : C_faultAt  m = some r) : Con SHC G yX11_faultAt cX11_faultAt 1 (some .int) rm_X11_faultAt [VR 0] m (oT wI r) := by
  refine con_of (own := "Lastbus") (by decide) rfl (Nat.le_of_ble_eq_true rfl) (fun C X => ?_)
  obtain ⟨O, hO⟩ : ∃ O : Res × Mem, O = (oT wI r) := ⟨_, rfl⟩
  rw [← hO]
  show J SHC G rm_X11_faultAt (.inl O) C 0 0 0 [(0, VR 0)] [] m
  unfold C_faultAt at h
  refine s_load0 X 0 rfl dX11_faultAt_0 ?_
  refine s_getR (id := 114) X fk_X11_40 SHC_0 rfl dX11_faultAt_1 ?_
  refine s_getI X fk_X11_254 SHC_114 rfl dX11_faultAt_4 ?_
  refine s_const X (by unfold InR; omega) dX11_faultAt_7 ?_
  refine s_icmpne_f (tgt := 22) X dX11_faultAt_8 (by omega) (fun c4 => ?_) (fun c5 => ?_)
  · replace h := ite_neg h c4
    refine s_load0 X 0 rfl dX11_faultAt_22 ?_
    refine s_getR (id := 114) X fk_X11_40 SHC_0 rfl dX11_faultAt_23 ?_
    refine s_getI X fk_X11_254 SHC_114 rfl dX11_faultAt_26 ?_
    exact s_iret X (Nat.le_of_ble_eq_true rfl) (Nat.le_of_ble_eq_true rfl) (by cases h; exact hO) dX11_faultAt_29
  · replace h := ite_pos h c5
    exact s_throwNW X th_X11_168_257_172 (by cases h; exact hO) (Nat.le_of_ble_eq_true rfl) (Nat.le_of_ble_eq_true rfl) (Nat.le_of_ble_eq_true rfl) (Nat.le_of_ble_eq_true rfl) dX11_faultAt_11 dX11_faultAt_14 dX11_faultAt_15 dX11_faultAt_18 dX11_faultAt_21
set_option maxRecDepth 20000 in
set_option maxHeartbeats 4000000 in
theorem L_C_Delays_find (G : Gl) (onDay_ : Int) (ofTrip_ : Int) (m : Mem) (r : Int)  (h : C_Delays_find onDay_ ofTrip_ m = some r) : Con SHC G yX0_find cX0_find 4 (some .int) rm_X0_find [VR 109, VI onDay_, VI ofTrip_] m (((.inl (some (VI r)), m) : Res × Mem)) := by
  refine con_of (own := "Lastbus$Delays") (by decide) rfl (Nat.le_of_ble_eq_true rfl) (fun C X => ?_)
  obtain ⟨O, hO⟩ : ∃ O : Res × Mem, O = (((.inl (some (VI r)), m) : Res × Mem)) := ⟨_, rfl⟩
  rw [← hO]
  show J SHC G rm_X0_find (.inl O) C 0 0 0 [(0, VR 109), (1, VI onDay_), (2, VI ofTrip_)] [] m
  unfold C_Delays_find at h
  refine s_const X (by unfold InR; omega) dX0_find_0 ?_
  obtain ⟨entry_, e2, h⟩ := ltv_elim h
  refine s_istore_n X e2 rfl (by omega) dX0_find_1 ?_
  obtain ⟨s10, hl12, h⟩ := br1_some h
  obtain ⟨fu30, hl13⟩ := loop_iter hl12
  have KR11 : ∀ q9 : Int, .inr q9 = s10 → O = ((.inl (some (VI q9)), m) : Res × Mem) := by
    intro q9 e9
    subst e9
    replace h := brm1_inr h
    exact (by cases h; exact hO)
  have KX9 : ∀ q9 : Int, .inl q9 = s10 → J SHC G rm_X0_find (.inl O) C 0 0 38 [(3, VI q9), (0, VR 109), (1, VI onDay_), (2, VI ofTrip_)] [] m := by
    intro q9 e9
    subst e9
    replace h := brm1_inl h
    obtain ⟨entry_4, e8⟩ : ∃ z, z = q9 := ⟨_, rfl⟩
    subst e8
    show J SHC G rm_X0_find (.inl O) C 0 0 38 [(3, VI entry_4), (0, VR 109), (1, VI onDay_), (2, VI ofTrip_)] [] m
    refine s_const X (by unfold InR; omega) dX0_find_38 ?_
    exact s_iret X (Nat.le_of_ble_eq_true rfl) (Nat.le_of_ble_eq_true rfl) (by cases h; exact hO) dX0_find_39
  have LP8 : ∀ (fu3 : Nat) (entry_2 : Int), iter (fun s => C_Delays_find_b1 onDay_ ofTrip_ m s) fu3 entry_2 = some s10 → J SHC G rm_X0_find (.inl O) C 0 0 2 [(3, VI entry_2), (0, VR 109), (1, VI onDay_), (2, VI ofTrip_)] [] m := by
    intro fu3
    induction fu3 with
    | zero => intro entry_2 hn4; exact absurd hn4 (by simp [iter])
    | succ fu3 ih7 =>
      intro entry_2 hn4
      obtain ⟨x5, h, hc6⟩ := iter_succ hn4
      replace h : C_Delays_find_b1 onDay_ ofTrip_ m entry_2 = some x5 := h
      unfold C_Delays_find_b1 at h
      refine s_iload_n X 0 rfl dX0_find_2 ?_
      refine s_load0 X 1 rfl dX0_find_3 ?_
      refine s_getI X fk_X0_24 SHC_109 rfl dX0_find_4 ?_
      refine s_icmpge_f (tgt := 38) X dX0_find_7 (by omega) (fun c17 => ?_) (fun c18 => ?_)
      · replace h := ite_neg h c17
        exact KX9 _ (iter_exit h hc6)
      · replace h := ite_pos h c18
        obtain ⟨g19, h⟩ := grd_some h
        have kF21 : ¬ ((m 110 entry_2.toNat = onDay_) ∧ (m 111 entry_2.toNat = ofTrip_)) → J SHC G rm_X0_find (.inl O) C 0 0 32 [(3, VI entry_2), (0, VR 109), (1, VI onDay_), (2, VI ofTrip_)] [] m := by
          intro c26
          replace h := ite_neg h c26
          obtain ⟨g24, h⟩ := grd_some h
          obtain ⟨entry_3, e25, h⟩ := ltv_elim h
          refine s_iinc X 0 rfl g24 e25 rfl (by omega) dX0_find_32 ?_
          refine s_goto (tgt := 2) X dX0_find_35 (by omega) ?_
          exact ih7 _ (iter_next h hc6)
        refine s_load0 X 1 rfl dX0_find_10 ?_
        refine s_getR (id := 110) X fk_X0_9 SHC_109 rfl dX0_find_11 ?_
        refine s_iload_n X 0 rfl dX0_find_14 ?_
        refine s_iald X SHC_110 g19.1 g19.2 dX0_find_15 ?_
        refine s_iload_n X 2 rfl dX0_find_16 ?_
        refine s_icmpne_f (tgt := 32) X dX0_find_17 (by omega) (fun c22 => ?_) (fun c23 => ?_)
        · exact kF21 (fun q => c22 q.1)
        · have a27 : m 110 entry_2.toNat = onDay_ := c23
          refine s_load0 X 1 rfl dX0_find_20 ?_
          refine s_getR (id := 111) X fk_X0_15 SHC_109 rfl dX0_find_21 ?_
          refine s_iload_n X 0 rfl dX0_find_24 ?_
          refine s_iald X SHC_111 g19.1 g19.2 dX0_find_25 ?_
          refine s_iload_n X 3 rfl dX0_find_26 ?_
          refine s_icmpne_f (tgt := 32) X dX0_find_27 (by omega) (fun c28 => ?_) (fun c29 => ?_)
          · exact kF21 (fun q => c28 q.2)
          · replace h := ite_pos h ⟨a27, c29⟩
            refine s_iload_n X 0 rfl dX0_find_30 ?_
            exact s_iret X (Nat.le_of_ble_eq_true rfl) (Nat.le_of_ble_eq_true rfl) (KR11 _ (iter_exit h hc6)) dX0_find_31
  exact LP8 _ _ hl13
set_option maxRecDepth 20000 in
set_option maxHeartbeats 4000000 in
theorem L_C_Delays_remove (G : Gl) (entry_ : Int) (m : Mem) (r : Mem)  (h : C_Delays_remove entry_ m = some r) : Con SHC G yX0_remove cX0_remove 2 none rm_X0_remove [VR 109, VI entry_] m (((.inl none, r) : Res × Mem)) := by
  refine con_of (own := "Lastbus$Delays") (by decide) rfl (Nat.le_of_ble_eq_true rfl) (fun C X => ?_)
  obtain ⟨O, hO⟩ : ∃ O : Res × Mem, O = (((.inl none, r) : Res × Mem)) := ⟨_, rfl⟩
  rw [← hO]
  show J SHC G rm_X0_remove (.inl O) C 0 0 0 [(0, VR 109), (1, VI entry_)] [] m
  unfold C_Delays_remove at h
  refine s_iload_n X 1 rfl dX0_remove_0 ?_
  refine s_const X (by unfold InR; omega) dX0_remove_1 ?_
  refine s_icmpne_f (tgt := 6) X dX0_remove_2 (by omega) (fun c4 => ?_) (fun c5 => ?_)
  · replace h := ite_neg h c4
    obtain ⟨g6, h⟩ := grd_some h
    refine s_load0 X 0 rfl dX0_remove_6 ?_
    refine s_dup X rfl dX0_remove_7 ?_
    refine s_getI X fk_X0_24 SHC_109 rfl dX0_remove_8 ?_
    refine s_const X (by unfold InR; omega) dX0_remove_11 ?_
    refine s_isub X g6 dX0_remove_12 ?_
    obtain ⟨m_, e7, h⟩ := ltv_elim h
    refine s_putI X e7 fp_X0_24 SHC_109 rfl trivial dX0_remove_13 ?_
    obtain ⟨g8, h⟩ := grd_some h
    refine s_load0 X 0 rfl dX0_remove_16 ?_
    refine s_getR (id := 110) X fk_X0_9 SHC_109 rfl dX0_remove_17 ?_
    refine s_iload_n X 1 rfl dX0_remove_20 ?_
    refine s_load0 X 0 rfl dX0_remove_21 ?_
    refine s_getR (id := 110) X fk_X0_9 SHC_109 rfl dX0_remove_22 ?_
    refine s_load0 X 0 rfl dX0_remove_25 ?_
    refine s_getI X fk_X0_24 SHC_109 rfl dX0_remove_26 ?_
    refine s_iald X SHC_110 g8.2.2.1 g8.2.2.2 dX0_remove_29 ?_
    obtain ⟨m_2, e9, h⟩ := ltv_elim h
    refine s_iast X e9 SHC_110 g8.1 g8.2.1 dX0_remove_30 ?_
    obtain ⟨g10, h⟩ := grd_some h
    refine s_load0 X 0 rfl dX0_remove_31 ?_
    refine s_getR (id := 111) X fk_X0_15 SHC_109 rfl dX0_remove_32 ?_
    refine s_iload_n X 1 rfl dX0_remove_35 ?_
    refine s_load0 X 0 rfl dX0_remove_36 ?_
    refine s_getR (id := 111) X fk_X0_15 SHC_109 rfl dX0_remove_37 ?_
    refine s_load0 X 0 rfl dX0_remove_40 ?_
    refine s_getI X fk_X0_24 SHC_109 rfl dX0_remove_41 ?_
    refine s_iald X SHC_111 g10.1 g10.2 dX0_remove_44 ?_
    obtain ⟨m_3, e11, h⟩ := ltv_elim h
    refine s_iast X e11 SHC_111 g8.1 g8.2.1 dX0_remove_45 ?_
    obtain ⟨g12, h⟩ := grd_some h
    refine s_load0 X 0 rfl dX0_remove_46 ?_
    refine s_getR (id := 112) X fk_X0_18 SHC_109 rfl dX0_remove_47 ?_
    refine s_iload_n X 1 rfl dX0_remove_50 ?_
    refine s_load0 X 0 rfl dX0_remove_51 ?_
    refine s_getR (id := 112) X fk_X0_18 SHC_109 rfl dX0_remove_52 ?_
    refine s_load0 X 0 rfl dX0_remove_55 ?_
    refine s_getI X fk_X0_24 SHC_109 rfl dX0_remove_56 ?_
    refine s_iald X SHC_112 g12.1 g12.2 dX0_remove_59 ?_
    obtain ⟨m_4, e13, h⟩ := ltv_elim h
    refine s_iast X e13 SHC_112 g8.1 g8.2.1 dX0_remove_60 ?_
    obtain ⟨g14, h⟩ := grd_some h
    refine s_load0 X 0 rfl dX0_remove_61 ?_
    refine s_getR (id := 113) X fk_X0_21 SHC_109 rfl dX0_remove_62 ?_
    refine s_iload_n X 1 rfl dX0_remove_65 ?_
    refine s_load0 X 0 rfl dX0_remove_66 ?_
    refine s_getR (id := 113) X fk_X0_21 SHC_109 rfl dX0_remove_67 ?_
    refine s_load0 X 0 rfl dX0_remove_70 ?_
    refine s_getI X fk_X0_24 SHC_109 rfl dX0_remove_71 ?_
    refine s_iald X SHC_113 g14.1 g14.2 dX0_remove_74 ?_
    obtain ⟨m_5, e15, h⟩ := ltv_elim h
    refine s_iast X e15 SHC_113 g8.1 g8.2.1 dX0_remove_75 ?_
    exact s_vret X (Nat.le_of_ble_eq_true rfl) (Nat.le_of_ble_eq_true rfl) (by cases h; exact hO) dX0_remove_76
  · replace h := ite_pos h c5
    exact s_vret X (Nat.le_of_ble_eq_true rfl) (Nat.le_of_ble_eq_true rfl) (by cases h; exact hO) dX0_remove_5
set_option maxRecDepth 20000 in
set_option maxHeartbeats 4000000 in
theorem L_C_Delays_put (G : Gl) (entry_ : Int) (onDay_ : Int) (ofTrip_ : Int) (ofCall_ : Int) (told_ : Int) (m : Mem) (r : Mem)  (h : C_Delays_put entry_ onDay_ ofTrip_ ofCall_ told_ m = some r) : Con SHC G yX0_put cX0_put 7 none rm_X0_put [VR 109, VI entry_, VI onDay_, VI ofTrip_, VI ofCall_, VI told_] m (((.inl none, r) : Res × Mem)) := by
  refine con_of (own := "Lastbus$Delays") (by decide) rfl (Nat.le_of_ble_eq_true rfl) (fun C X => ?_)
  obtain ⟨O, hO⟩ : ∃ O : Res × Mem, O = (((.inl none, r) : Res × Mem)) := ⟨_, rfl⟩
  rw [← hO]
  show J SHC G rm_X0_put (.inl O) C 0 0 0 [(0, VR 109), (1, VI entry_), (2, VI onDay_), (3, VI ofTrip_), (4, VI ofCall_), (5, VI told_)] [] m
  unfold C_Delays_put at h
  have kM2 : J SHC G rm_X0_put (.inl O) C 0 0 13 [(0, VR 109), (1, VI entry_), (2, VI onDay_), (3, VI ofTrip_), (4, VI ofCall_), (5, VI told_)] [VI (if entry_ = (-1) then m 109 0 else entry_)] m := by
    obtain ⟨place_, e5, h⟩ := ltv_elim h
    refine s_istore X e5 rfl (by omega) dX0_put_13 ?_
    obtain ⟨g6, h⟩ := grd_some h
    refine s_load0 X 1 rfl dX0_put_15 ?_
    refine s_getR (id := 110) X fk_X0_9 SHC_109 rfl dX0_put_16 ?_
    refine s_iload X 0 rfl dX0_put_19 ?_
    refine s_iload_n X 3 rfl dX0_put_21 ?_
    obtain ⟨m_, e7, h⟩ := ltv_elim h
    refine s_iast X e7 SHC_110 g6.1 g6.2 dX0_put_22 ?_
    refine s_load0 X 1 rfl dX0_put_23 ?_
    refine s_getR (id := 111) X fk_X0_15 SHC_109 rfl dX0_put_24 ?_
    refine s_iload X 0 rfl dX0_put_27 ?_
    refine s_iload_n X 4 rfl dX0_put_29 ?_
    obtain ⟨m_2, e9, h⟩ := ltv_elim h
    refine s_iast X e9 SHC_111 g6.1 g6.2 dX0_put_30 ?_
    refine s_load0 X 1 rfl dX0_put_31 ?_
    refine s_getR (id := 112) X fk_X0_18 SHC_109 rfl dX0_put_32 ?_
    refine s_iload X 0 rfl dX0_put_35 ?_
    refine s_iload X 5 rfl dX0_put_37 ?_
    obtain ⟨m_3, e11, h⟩ := ltv_elim h
    refine s_iast X e11 SHC_112 g6.1 g6.2 dX0_put_39 ?_
    refine s_load0 X 1 rfl dX0_put_40 ?_
    refine s_getR (id := 113) X fk_X0_21 SHC_109 rfl dX0_put_41 ?_
    refine s_iload X 0 rfl dX0_put_44 ?_
    refine s_iload X 6 rfl dX0_put_46 ?_
    obtain ⟨m_4, e13, h⟩ := ltv_elim h
    refine s_iast X e13 SHC_113 g6.1 g6.2 dX0_put_48 ?_
    refine s_iload X 0 rfl dX0_put_49 ?_
    refine s_load0 X 1 rfl dX0_put_51 ?_
    refine s_getI X fk_X0_24 SHC_109 rfl dX0_put_52 ?_
    refine s_icmpne_f (tgt := 68) X dX0_put_55 (by omega) (fun c17 => ?_) (fun c18 => ?_)
    · replace h := ite_neg h c17
      exact s_vret X (Nat.le_of_ble_eq_true rfl) (Nat.le_of_ble_eq_true rfl) (by cases h; exact hO) dX0_put_68
    · replace h := ite_pos h c18
      obtain ⟨g19, h⟩ := grd_some h
      refine s_load0 X 1 rfl dX0_put_58 ?_
      refine s_dup X rfl dX0_put_59 ?_
      refine s_getI X fk_X0_24 SHC_109 rfl dX0_put_60 ?_
      refine s_const X (by unfold InR; omega) dX0_put_63 ?_
      refine s_iadd X g19 dX0_put_64 ?_
      obtain ⟨m_5, e20, h⟩ := ltv_elim h
      refine s_putI X e20 fp_X0_24 SHC_109 rfl trivial dX0_put_65 ?_
      exact s_vret X (Nat.le_of_ble_eq_true rfl) (Nat.le_of_ble_eq_true rfl) (by cases h; exact hO) dX0_put_68
  refine s_iload_n X 1 rfl dX0_put_0 ?_
  refine s_const X (by unfold InR; omega) dX0_put_1 ?_
  refine s_icmpne_f (tgt := 12) X dX0_put_2 (by omega) (fun c3 => ?_) (fun c4 => ?_)
  · refine s_iload_n X 1 rfl dX0_put_12 ?_
    exact s_eqt (if_neg c3) kM2
  · refine s_load0 X 0 rfl dX0_put_5 ?_
    refine s_getI X fk_X0_24 SHC_109 rfl dX0_put_6 ?_
    refine s_goto (tgt := 13) X dX0_put_9 (by omega) ?_
    exact s_eqt (if_pos c4) kM2
set_option maxRecDepth 20000 in
set_option maxHeartbeats 4000000 in
theorem L_C_late (G : Gl) (day_ : Int) (trip_ : Int) (call_ : Int) (minutes_ : Int) (m : Mem) (r : ((Int ⊕ Nat) × Mem))  (h : C_late day_ trip_ call_ minutes_ m = some r) : Con SHC G yX11_late cX11_late 7 (some .int) rm_X11_late [VR 0, VI day_, VI trip_, VI call_, VI minutes_] m (oT wI r) := by
  refine con_of (own := "Lastbus") (by decide) rfl (Nat.le_of_ble_eq_true rfl) (fun C X => ?_)
  obtain ⟨O, hO⟩ : ∃ O : Res × Mem, O = (oT wI r) := ⟨_, rfl⟩
  rw [← hO]
  show J SHC G rm_X11_late (.inl O) C 0 0 0 [(0, VR 0), (1, VI day_), (2, VI trip_), (3, VI call_), (4, VI minutes_)] [] m
  unfold C_late at h
  refine s_load0 X 0 rfl dX11_late_0 ?_
  refine s_iload_n X 2 rfl dX11_late_1 ?_
  refine s_iload_n X 3 rfl dX11_late_2 ?_
  obtain ⟨q3, hq2, h⟩ := bnd_some h
  refine s_callV (As := [VI trip_, VI call_]) X cw_X11_204 SHC_0 rfl dX11_late_3 (L_C_needCall G trip_ call_ m q3 hq2) rfl ⟨Nat.le_of_ble_eq_true rfl, Nat.le_of_ble_eq_true rfl⟩ ⟨Nat.le_of_ble_eq_true rfl, Nat.le_of_ble_eq_true rfl⟩ (Nat.le_of_ble_eq_true rfl) (thr_up hO h) (kkT fun u_ m_ e9 => ?_)
  subst e9
  replace h := tbd_inl h
  refine s_iload_n X 1 rfl dX11_late_6 ?_
  obtain ⟨q7, hq6, h⟩ := bnd_some h
  refine s_callS (As := [VI day_]) X cw_X11_140 dX11_late_7 (L_C_needDay G day_ m_ q7 hq6) rfl ⟨Nat.le_of_ble_eq_true rfl, Nat.le_of_ble_eq_true rfl⟩ ⟨Nat.le_of_ble_eq_true rfl, Nat.le_of_ble_eq_true rfl⟩ (Nat.le_of_ble_eq_true rfl) (thr_up hO h) (kkT fun u_2 m_2 e9 => ?_)
  subst e9
  replace h := tbd_inl h
  refine s_iload X 4 rfl dX11_late_10 ?_
  refine s_const X (by unfold InR; omega) dX11_late_12 ?_
  refine s_bipush X (by omega) dX11_late_13 ?_
  obtain ⟨q11, hq10, h⟩ := bnd_some h
  refine s_callS (As := [VI minutes_, VI 0, VI 120]) X cw_X11_88 dX11_late_15 (L_C_needNumber G minutes_ 0 120 m_2 q11 hq10) rfl ⟨Nat.le_of_ble_eq_true rfl, Nat.le_of_ble_eq_true rfl⟩ ⟨Nat.le_of_ble_eq_true rfl, Nat.le_of_ble_eq_true rfl⟩ (Nat.le_of_ble_eq_true rfl) (thr_up hO h) (kkT fun u_3 m_3 e9 => ?_)
  subst e9
  replace h := tbd_inl h
  refine s_load0 X 0 rfl dX11_late_18 ?_
  refine s_getR (id := 109) X fk_X11_33 SHC_0 rfl dX11_late_19 ?_
  refine s_iload_n X 1 rfl dX11_late_22 ?_
  refine s_iload_n X 2 rfl dX11_late_23 ?_
  obtain ⟨r_, hq14, h⟩ := bnd_some h
  refine s_callV (As := [VI day_, VI trip_]) X cw_X11_259 SHC_109 rfl dX11_late_24 (L_C_Delays_find G day_ trip_ m_3 r_ hq14) rfl ⟨Nat.le_of_ble_eq_true rfl, Nat.le_of_ble_eq_true rfl⟩ ⟨Nat.le_of_ble_eq_true rfl, Nat.le_of_ble_eq_true rfl⟩ (Nat.le_of_ble_eq_true rfl) noT (kkR ?_)
  obtain ⟨entry_, e17, h⟩ := ltv_elim h
  refine s_istore X e17 rfl (by omega) dX11_late_27 ?_
  obtain ⟨g18, h⟩ := grd_some h
  have kM19 : J SHC G rm_X11_late (.inl O) C 4 24 49 [(5, VI entry_), (0, VR 0), (1, VI day_), (2, VI trip_), (3, VI call_), (4, VI minutes_)] [VI (if entry_ = (-1) then 0 else m_3 113 entry_.toNat)] m_3 := by
    obtain ⟨ahead_, e22, h⟩ := ltv_elim h
    refine s_istore X e22 rfl (by omega) dX11_late_49 ?_
    refine s_iload X 6 rfl dX11_late_51 ?_
    refine s_ifne_f (tgt := 68) X dX11_late_53 (by omega) (fun c26 => ?_) (fun c27 => ?_)
    · replace h := ite_neg h c26
      have kF30 : ¬ ((entry_ = (-1)) ∧ (12 ≤ m_3 109 0)) → J SHC G rm_X11_late (.inl O) C 4 24 97 [(6, VI ahead_), (5, VI entry_), (0, VR 0), (1, VI day_), (2, VI trip_), (3, VI call_), (4, VI minutes_)] [] m_3 := by
        intro c38
        replace h := ite_neg h c38
        refine s_load0 X 2 rfl dX11_late_97 ?_
        refine s_getR (id := 109) X fk_X11_33 SHC_0 rfl dX11_late_98 ?_
        refine s_iload X 1 rfl dX11_late_101 ?_
        refine s_iload_n X 3 rfl dX11_late_103 ?_
        refine s_iload_n X 4 rfl dX11_late_104 ?_
        refine s_iload_n X 5 rfl dX11_late_105 ?_
        refine s_iload X 6 rfl dX11_late_106 ?_
        obtain ⟨m_4, hq34, h⟩ := bnd_some h
        refine s_callV (As := [VI entry_, VI day_, VI trip_, VI call_, VI minutes_]) X cw_X11_271 SHC_109 rfl dX11_late_108 (L_C_Delays_put G entry_ day_ trip_ call_ minutes_ m_3 m_4 hq34) rfl ⟨Nat.le_of_ble_eq_true rfl, Nat.le_of_ble_eq_true rfl⟩ ⟨Nat.le_of_ble_eq_true rfl, Nat.le_of_ble_eq_true rfl⟩ (Nat.le_of_ble_eq_true rfl) noT (kkU ?_)
        refine s_iload X 0 rfl dX11_late_111 ?_
        exact s_iret X (Nat.le_of_ble_eq_true rfl) (Nat.le_of_ble_eq_true rfl) (by cases h; exact hO) dX11_late_113
      refine s_iload X 1 rfl dX11_late_68 ?_
      refine s_const X (by unfold InR; omega) dX11_late_70 ?_
      refine s_icmpne_f (tgt := 97) X dX11_late_71 (by omega) (fun c31 => ?_) (fun c32 => ?_)
      · exact kF30 (fun q => c31 q.1)
      · have a39 : entry_ = (-1) := c32
        refine s_load0 X 2 rfl dX11_late_74 ?_
        refine s_getR (id := 109) X fk_X11_33 SHC_0 rfl dX11_late_75 ?_
        refine s_getI X fk_X11_268 SHC_109 rfl dX11_late_78 ?_
        refine s_bipush X (by omega) dX11_late_81 ?_
        refine s_icmplt_f (tgt := 97) X dX11_late_83 (by omega) (fun c40 => ?_) (fun c41 => ?_)
        · exact kF30 (fun q => c40 q.2)
        · replace h := ite_pos h ⟨a39, c41⟩
          exact s_throwW X th_X11_96_269_100 (by cases h; exact hO) (Nat.le_of_ble_eq_true rfl) (Nat.le_of_ble_eq_true rfl) (Nat.le_of_ble_eq_true rfl) (Nat.le_of_ble_eq_true rfl) dX11_late_86 dX11_late_89 dX11_late_90 dX11_late_93 dX11_late_96
    · replace h := ite_pos h c27
      refine s_load0 X 2 rfl dX11_late_56 ?_
      refine s_getR (id := 109) X fk_X11_33 SHC_0 rfl dX11_late_57 ?_
      refine s_iload X 1 rfl dX11_late_60 ?_
      obtain ⟨m_5, hq43, h⟩ := bnd_some h
      refine s_callV (As := [VI entry_]) X cw_X11_265 SHC_109 rfl dX11_late_62 (L_C_Delays_remove G entry_ m_3 m_5 hq43) rfl ⟨Nat.le_of_ble_eq_true rfl, Nat.le_of_ble_eq_true rfl⟩ ⟨Nat.le_of_ble_eq_true rfl, Nat.le_of_ble_eq_true rfl⟩ (Nat.le_of_ble_eq_true rfl) noT (kkU ?_)
      refine s_iload X 0 rfl dX11_late_65 ?_
      exact s_iret X (Nat.le_of_ble_eq_true rfl) (Nat.le_of_ble_eq_true rfl) (by cases h; exact hO) dX11_late_67
  refine s_iload X 0 rfl dX11_late_29 ?_
  refine s_const X (by unfold InR; omega) dX11_late_31 ?_
  refine s_icmpne_f (tgt := 39) X dX11_late_32 (by omega) (fun c20 => ?_) (fun c21 => ?_)
  · refine s_load0 X 1 rfl dX11_late_39 ?_
    refine s_getR (id := 109) X fk_X11_33 SHC_0 rfl dX11_late_40 ?_
    refine s_getR (id := 113) X fk_X11_262 SHC_109 rfl dX11_late_43 ?_
    refine s_iload X 0 rfl dX11_late_46 ?_
    refine s_iald X SHC_113 (g18.1 c20) (g18.2 c20) dX11_late_48 ?_
    exact s_eqt (if_neg c20) kM19
  · refine s_const X (by unfold InR; omega) dX11_late_35 ?_
    refine s_goto (tgt := 49) X dX11_late_36 (by omega) ?_
    exact s_eqt (if_pos c21) kM19
set_option maxRecDepth 20000 in
set_option maxHeartbeats 4000000 in
theorem L_C_Delays_at (G : Gl) (entry_ : Int) (ofCall_ : Int) (m : Mem) (r : Int)  (h : C_Delays_at entry_ ofCall_ m = some r) : Con SHC G yX0_at cX0_at 3 (some .int) rm_X0_at [VR 109, VI entry_, VI ofCall_] m (((.inl (some (VI r)), m) : Res × Mem)) := by
  refine con_of (own := "Lastbus$Delays") (by decide) rfl (Nat.le_of_ble_eq_true rfl) (fun C X => ?_)
  obtain ⟨O, hO⟩ : ∃ O : Res × Mem, O = (((.inl (some (VI r)), m) : Res × Mem)) := ⟨_, rfl⟩
  rw [← hO]
  show J SHC G rm_X0_at (.inl O) C 0 0 0 [(0, VR 109), (1, VI entry_), (2, VI ofCall_)] [] m
  unfold C_Delays_at at h
  obtain ⟨g1, h⟩ := grd_some h
  have kM2 : J SHC G rm_X0_at (.inl O) C 0 0 25 [(0, VR 109), (1, VI entry_), (2, VI ofCall_)] [VI (if (entry_ = (-1)) ∨ (ofCall_ < m 112 entry_.toNat) then 0 else m 113 entry_.toNat)] m := by
    exact s_iret X (Nat.le_of_ble_eq_true rfl) (Nat.le_of_ble_eq_true rfl) (by cases h; exact hO) dX0_at_25
  refine s_iload_n X 1 rfl dX0_at_0 ?_
  refine s_const X (by unfold InR; omega) dX0_at_1 ?_
  refine s_icmpeq_t (tgt := 15) X dX0_at_2 (by omega) (fun c3 => ?_) (fun c4 => ?_)
  · refine s_const X (by unfold InR; omega) dX0_at_15 ?_
    refine s_goto (tgt := 25) X dX0_at_16 (by omega) ?_
    exact s_eqt (if_pos (Or.inl c3)) kM2
  · have a5 : ¬ (entry_ = (-1)) := c4
    refine s_iload_n X 2 rfl dX0_at_5 ?_
    refine s_load0 X 0 rfl dX0_at_6 ?_
    refine s_getR (id := 112) X fk_X0_18 SHC_109 rfl dX0_at_7 ?_
    refine s_iload_n X 1 rfl dX0_at_10 ?_
    refine s_iald X SHC_112 (g1.1 a5) (g1.2.1 a5) dX0_at_11 ?_
    refine s_icmpge_f (tgt := 19) X dX0_at_12 (by omega) (fun c6 => ?_) (fun c7 => ?_)
    · refine s_load0 X 0 rfl dX0_at_19 ?_
      refine s_getR (id := 113) X fk_X0_21 SHC_109 rfl dX0_at_20 ?_
      refine s_iload_n X 1 rfl dX0_at_23 ?_
      refine s_iald X SHC_113 (g1.2.2.1 (fun q => q.elim a5 c6)) (g1.2.2.2 (fun q => q.elim a5 c6)) dX0_at_24 ?_
      exact s_eqt (if_neg (fun q => q.elim a5 c6)) kM2
    · refine s_const X (by unfold InR; omega) dX0_at_15 ?_
      refine s_goto (tgt := 25) X dX0_at_16 (by omega) ?_
      exact s_eqt (if_pos (Or.inr c7)) kM2
set_option maxRecDepth 20000 in
set_option maxHeartbeats 4000000 in
theorem L_C_lateness (G : Gl) (day_ : Int) (trip_ : Int) (call_ : Int) (m : Mem) (r : ((Int ⊕ Nat) × Mem))  (h : C_lateness day_ trip_ call_ m = some r) : Con SHC G yX11_lateness cX11_lateness 4 (some .int) rm_X11_lateness [VR 0, VI day_, VI trip_, VI call_] m (oT wI r) := by
  refine con_of (own := "Lastbus") (by decide) rfl (Nat.le_of_ble_eq_true rfl) (fun C X => ?_)
  obtain ⟨O, hO⟩ : ∃ O : Res × Mem, O = (oT wI r) := ⟨_, rfl⟩
  rw [← hO]
  show J SHC G rm_X11_lateness (.inl O) C 0 0 0 [(0, VR 0), (1, VI day_), (2, VI trip_), (3, VI call_)] [] m
  unfold C_lateness at h
  refine s_load0 X 0 rfl dX11_lateness_0 ?_
  refine s_iload_n X 2 rfl dX11_lateness_1 ?_
  refine s_iload_n X 3 rfl dX11_lateness_2 ?_
  obtain ⟨q3, hq2, h⟩ := bnd_some h
  refine s_callV (As := [VI trip_, VI call_]) X cw_X11_204 SHC_0 rfl dX11_lateness_3 (L_C_needCall G trip_ call_ m q3 hq2) rfl ⟨Nat.le_of_ble_eq_true rfl, Nat.le_of_ble_eq_true rfl⟩ ⟨Nat.le_of_ble_eq_true rfl, Nat.le_of_ble_eq_true rfl⟩ (Nat.le_of_ble_eq_true rfl) (thr_up hO h) (kkT fun u_ m_ e9 => ?_)
  subst e9
  replace h := tbd_inl h
  refine s_iload_n X 1 rfl dX11_lateness_6 ?_
  obtain ⟨q7, hq6, h⟩ := bnd_some h
  refine s_callS (As := [VI day_]) X cw_X11_140 dX11_lateness_7 (L_C_needDay G day_ m_ q7 hq6) rfl ⟨Nat.le_of_ble_eq_true rfl, Nat.le_of_ble_eq_true rfl⟩ ⟨Nat.le_of_ble_eq_true rfl, Nat.le_of_ble_eq_true rfl⟩ (Nat.le_of_ble_eq_true rfl) (thr_up hO h) (kkT fun u_2 m_2 e9 => ?_)
  subst e9
  replace h := tbd_inl h
  refine s_load0 X 0 rfl dX11_lateness_10 ?_
  refine s_getR (id := 109) X fk_X11_33 SHC_0 rfl dX11_lateness_11 ?_
  refine s_load0 X 0 rfl dX11_lateness_14 ?_
  refine s_getR (id := 109) X fk_X11_33 SHC_0 rfl dX11_lateness_15 ?_
  refine s_iload_n X 1 rfl dX11_lateness_18 ?_
  refine s_iload_n X 2 rfl dX11_lateness_19 ?_
  obtain ⟨r_, hq10, h⟩ := bnd_some h
  refine s_callV (As := [VI day_, VI trip_]) X cw_X11_259 SHC_109 rfl dX11_lateness_20 (L_C_Delays_find G day_ trip_ m_2 r_ hq10) rfl ⟨Nat.le_of_ble_eq_true rfl, Nat.le_of_ble_eq_true rfl⟩ ⟨Nat.le_of_ble_eq_true rfl, Nat.le_of_ble_eq_true rfl⟩ (Nat.le_of_ble_eq_true rfl) noT (kkR ?_)
  refine s_iload_n X 3 rfl dX11_lateness_23 ?_
  obtain ⟨r_2, hq13, h⟩ := bnd_some h
  refine s_callV (As := [VI r_, VI call_]) X cw_X11_274 SHC_109 rfl dX11_lateness_24 (L_C_Delays_at G r_ call_ m_2 r_2 hq13) rfl ⟨Nat.le_of_ble_eq_true rfl, Nat.le_of_ble_eq_true rfl⟩ ⟨Nat.le_of_ble_eq_true rfl, Nat.le_of_ble_eq_true rfl⟩ (Nat.le_of_ble_eq_true rfl) noT (kkR ?_)
  exact s_iret X (Nat.le_of_ble_eq_true rfl) (Nat.le_of_ble_eq_true rfl) (by cases h; exact hO) dX11_lateness_27
set_option maxRecDepth 20000 in
set_option maxHeartbeats 4000000 in
theorem L_C_onTime (G : Gl)  (m : Mem) (r : (Int × Mem))  (h : C_onTime  m = some r) : Con SHC G yX11_onTime cX11_onTime 2 (some .int) rm_X11_onTime [VR 0] m (((.inl (some (VI r.1)), r.2) : Res × Mem)) := by
  refine con_of (own := "Lastbus") (by decide) rfl (Nat.le_of_ble_eq_true rfl) (fun C X => ?_)
  obtain ⟨O, hO⟩ : ∃ O : Res × Mem, O = (((.inl (some (VI r.1)), r.2) : Res × Mem)) := ⟨_, rfl⟩
  rw [← hO]
  show J SHC G rm_X11_onTime (.inl O) C 0 0 0 [(0, VR 0)] [] m
  unfold C_onTime at h
  refine s_load0 X 0 rfl dX11_onTime_0 ?_
  refine s_getR (id := 109) X fk_X11_33 SHC_0 rfl dX11_onTime_1 ?_
  refine s_getI X fk_X11_268 SHC_109 rfl dX11_onTime_4 ?_
  obtain ⟨told_, e2, h⟩ := ltv_elim h
  refine s_istore_n X e2 rfl (by omega) dX11_onTime_7 ?_
  refine s_load0 X 1 rfl dX11_onTime_8 ?_
  refine s_getR (id := 109) X fk_X11_33 SHC_0 rfl dX11_onTime_9 ?_
  refine s_const X (by unfold InR; omega) dX11_onTime_12 ?_
  obtain ⟨m_, e4, h⟩ := ltv_elim h
  refine s_putI X e4 fp_X11_268 SHC_109 rfl trivial dX11_onTime_13 ?_
  refine s_iload_n X 0 rfl dX11_onTime_16 ?_
  exact s_iret X (Nat.le_of_ble_eq_true rfl) (Nat.le_of_ble_eq_true rfl) (by cases h; exact hO) dX11_onTime_17
set_option maxRecDepth 20000 in
set_option maxHeartbeats 4000000 in
theorem L_C_needWay (G : Gl) (from_ : Int) (to_ : Int) (day_ : Int) (minute_ : Int) (m : Mem) (r : ((Unit ⊕ Nat) × Mem))  (h : C_needWay from_ to_ day_ minute_ m = some r) : Con SHC G yX11_needWay cX11_needWay 5 none rm_X11_needWay [VR 0, VI from_, VI to_, VI day_, VI minute_] m (oT wU r) := by
  refine con_of (own := "Lastbus") (by decide) rfl (Nat.le_of_ble_eq_true rfl) (fun C X => ?_)
  obtain ⟨O, hO⟩ : ∃ O : Res × Mem, O = (oT wU r) := ⟨_, rfl⟩
  rw [← hO]
  show J SHC G rm_X11_needWay (.inl O) C 0 0 0 [(0, VR 0), (1, VI from_), (2, VI to_), (3, VI day_), (4, VI minute_)] [] m
  unfold C_needWay at h
  refine s_load0 X 0 rfl dX11_needWay_0 ?_
  refine s_iload_n X 1 rfl dX11_needWay_1 ?_
  obtain ⟨q3, hq2, h⟩ := bnd_some h
  refine s_callV (As := [VI from_]) X cw_X11_107 SHC_0 rfl dX11_needWay_2 (L_C_needStop G from_ m q3 hq2) rfl ⟨Nat.le_of_ble_eq_true rfl, Nat.le_of_ble_eq_true rfl⟩ ⟨Nat.le_of_ble_eq_true rfl, Nat.le_of_ble_eq_true rfl⟩ (Nat.le_of_ble_eq_true rfl) (thr_up hO h) (kkT fun u_ m_ e9 => ?_)
  subst e9
  replace h := tbd_inl h
  refine s_load0 X 0 rfl dX11_needWay_5 ?_
  refine s_iload_n X 2 rfl dX11_needWay_6 ?_
  obtain ⟨q7, hq6, h⟩ := bnd_some h
  refine s_callV (As := [VI to_]) X cw_X11_107 SHC_0 rfl dX11_needWay_7 (L_C_needStop G to_ m_ q7 hq6) rfl ⟨Nat.le_of_ble_eq_true rfl, Nat.le_of_ble_eq_true rfl⟩ ⟨Nat.le_of_ble_eq_true rfl, Nat.le_of_ble_eq_true rfl⟩ (Nat.le_of_ble_eq_true rfl) (thr_up hO h) (kkT fun u_2 m_2 e9 => ?_)
  subst e9
  replace h := tbd_inl h
  refine s_iload_n X 3 rfl dX11_needWay_10 ?_
  obtain ⟨q11, hq10, h⟩ := bnd_some h
  refine s_callS (As := [VI day_]) X cw_X11_140 dX11_needWay_11 (L_C_needDay G day_ m_2 q11 hq10) rfl ⟨Nat.le_of_ble_eq_true rfl, Nat.le_of_ble_eq_true rfl⟩ ⟨Nat.le_of_ble_eq_true rfl, Nat.le_of_ble_eq_true rfl⟩ (Nat.le_of_ble_eq_true rfl) (thr_up hO h) (kkT fun u_3 m_3 e9 => ?_)
  subst e9
  replace h := tbd_inl h
  refine s_iload X 4 rfl dX11_needWay_14 ?_
  refine s_const X (by unfold InR; omega) dX11_needWay_16 ?_
  refine s_sipush X (by omega) dX11_needWay_17 ?_
  obtain ⟨q15, hq14, h⟩ := bnd_some h
  refine s_callS (As := [VI minute_, VI 0, VI 1439]) X cw_X11_88 dX11_needWay_20 (L_C_needNumber G minute_ 0 1439 m_3 q15 hq14) rfl ⟨Nat.le_of_ble_eq_true rfl, Nat.le_of_ble_eq_true rfl⟩ ⟨Nat.le_of_ble_eq_true rfl, Nat.le_of_ble_eq_true rfl⟩ (Nat.le_of_ble_eq_true rfl) (thr_up hO h) (kkT fun u_4 m_4 e9 => ?_)
  subst e9
  replace h := tbd_inl h
  exact s_vret X (Nat.le_of_ble_eq_true rfl) (Nat.le_of_ble_eq_true rfl) (by cases h; exact hO) dX11_needWay_23
set_option maxRecDepth 20000 in
set_option maxHeartbeats 4000000 in
theorem L_C_Net_addHop (G : Gl) (run_ : Int) (call_ : Int) (m : Mem) (r : Mem)  (h : C_Net_addHop run_ call_ m = some r) : Con SHC G yX3_addHop cX3_addHop 4 none rm_X3_addHop [VR 119, VI run_, VI call_] m (((.inl none, r) : Res × Mem)) := by
  refine con_of (own := "Lastbus$Net") (by decide) rfl (Nat.le_of_ble_eq_true rfl) (fun C X => ?_)
  obtain ⟨O, hO⟩ : ∃ O : Res × Mem, O = (((.inl none, r) : Res × Mem)) := ⟨_, rfl⟩
  rw [← hO]
  show J SHC G rm_X3_addHop (.inl O) C 0 0 0 [(0, VR 119), (1, VI run_), (2, VI call_)] [] m
  unfold C_Net_addHop at h
  obtain ⟨g1, h⟩ := grd_some h
  refine s_load0 X 0 rfl dX3_addHop_0 ?_
  refine s_getR (id := 269) X fk_X3_29 SHC_119 rfl dX3_addHop_1 ?_
  refine s_iload_n X 1 rfl dX3_addHop_4 ?_
  refine s_aaldI (id := (270 + run_.toNat)) X (by omega) (Or.inl rfl) SHC_269 g1.1 g1.2.1 dX3_addHop_5 ?_
  refine s_iload_n X 2 rfl dX3_addHop_6 ?_
  refine s_iald X (SHC_r270 g1.1 g1.2.1) g1.2.2.1 g1.2.2.2 dX3_addHop_7 ?_
  refine s_ifge_f (tgt := 12) X dX3_addHop_8 (by omega) (fun c4 => ?_) (fun c5 => ?_)
  · replace h := ite_neg h c4
    obtain ⟨g6, h⟩ := grd_some h
    refine s_iload_n X 1 rfl dX3_addHop_12 ?_
    refine s_bipush X (by omega) dX3_addHop_13 ?_
    refine s_imul X g6.1 dX3_addHop_15 ?_
    refine s_iload_n X 2 rfl dX3_addHop_16 ?_
    refine s_iadd X g6.2 dX3_addHop_17 ?_
    obtain ⟨hop_, e7, h⟩ := ltv_elim h
    refine s_istore_n X e7 rfl (by omega) dX3_addHop_18 ?_
    obtain ⟨g8, h⟩ := grd_some h
    refine s_load0 X 1 rfl dX3_addHop_19 ?_
    refine s_getR (id := 342) X fk_X3_32 SHC_119 rfl dX3_addHop_20 ?_
    refine s_load0 X 1 rfl dX3_addHop_23 ?_
    refine s_getI X fk_X3_67 SHC_119 rfl dX3_addHop_24 ?_
    refine s_load0 X 1 rfl dX3_addHop_27 ?_
    refine s_getR (id := 269) X fk_X3_29 SHC_119 rfl dX3_addHop_28 ?_
    refine s_iload_n X 2 rfl dX3_addHop_31 ?_
    refine s_aaldI (id := (270 + run_.toNat)) X (by omega) (Or.inl rfl) SHC_269 g1.1 g1.2.1 dX3_addHop_32 ?_
    refine s_iload_n X 3 rfl dX3_addHop_33 ?_
    refine s_iald X (SHC_r270 g1.1 g1.2.1) g1.2.2.1 g1.2.2.2 dX3_addHop_34 ?_
    refine s_sipush X (by omega) dX3_addHop_35 ?_
    refine s_imul X g8.2.2.1 dX3_addHop_38 ?_
    refine s_iload_n X 0 rfl dX3_addHop_39 ?_
    refine s_iadd X g8.2.2.2 dX3_addHop_40 ?_
    obtain ⟨m_, e9, h⟩ := ltv_elim h
    refine s_iast X e9 SHC_342 g8.1 g8.2.1 dX3_addHop_41 ?_
    obtain ⟨g10, h⟩ := grd_some h
    refine s_load0 X 1 rfl dX3_addHop_42 ?_
    refine s_getR (id := 343) X fk_X3_35 SHC_119 rfl dX3_addHop_43 ?_
    refine s_load0 X 1 rfl dX3_addHop_46 ?_
    refine s_getI X fk_X3_67 SHC_119 rfl dX3_addHop_47 ?_
    refine s_load0 X 1 rfl dX3_addHop_50 ?_
    refine s_getR (id := 196) X fk_X3_26 SHC_119 rfl dX3_addHop_51 ?_
    refine s_iload_n X 2 rfl dX3_addHop_54 ?_
    refine s_aaldI (id := (197 + run_.toNat)) X (by omega) (Or.inl rfl) SHC_196 g1.1 g1.2.1 dX3_addHop_55 ?_
    refine s_iload_n X 3 rfl dX3_addHop_56 ?_
    refine s_const X (by unfold InR; omega) dX3_addHop_57 ?_
    refine s_iadd X g10.2.2.1 dX3_addHop_58 ?_
    refine s_iald X (SHC_r197 g1.1 g1.2.1) g10.2.2.2.1 g10.2.2.2.2.1 dX3_addHop_59 ?_
    refine s_sipush X (by omega) dX3_addHop_60 ?_
    refine s_imul X g10.2.2.2.2.2.1 dX3_addHop_63 ?_
    refine s_iload_n X 0 rfl dX3_addHop_64 ?_
    refine s_iadd X g10.2.2.2.2.2.2 dX3_addHop_65 ?_
    obtain ⟨m_2, e11, h⟩ := ltv_elim h
    refine s_iast X e11 SHC_343 g10.1 g10.2.1 dX3_addHop_66 ?_
    obtain ⟨g12, h⟩ := grd_some h
    refine s_load0 X 1 rfl dX3_addHop_67 ?_
    refine s_dup X rfl dX3_addHop_68 ?_
    refine s_getI X fk_X3_67 SHC_119 rfl dX3_addHop_69 ?_
    refine s_const X (by unfold InR; omega) dX3_addHop_72 ?_
    refine s_iadd X g12 dX3_addHop_73 ?_
    obtain ⟨m_3, e13, h⟩ := ltv_elim h
    refine s_putI X e13 fp_X3_67 SHC_119 rfl trivial dX3_addHop_74 ?_
    exact s_vret X (Nat.le_of_ble_eq_true rfl) (Nat.le_of_ble_eq_true rfl) (by cases h; exact hO) dX3_addHop_77
  · replace h := ite_pos h c5
    exact s_vret X (Nat.le_of_ble_eq_true rfl) (Nat.le_of_ble_eq_true rfl) (by cases h; exact hO) dX3_addHop_11
set_option maxRecDepth 20000 in
set_option maxHeartbeats 4000000 in
theorem L_C_Net_addRun (G : Gl) (trip_ : Int) (ahead_ : Int) (delay_ : Int) (moved_ : Int) (m : Mem) (r : Mem)  (h : C_Net_addRun trip_ ahead_ delay_ moved_ m = some r) : Con SHC G yX3_addRun cX3_addRun 7 none rm_X3_addRun [VR 119, VI trip_, VI ahead_, VI delay_, VI moved_] m (((.inl none, r) : Res × Mem)) := by
  refine con_of (own := "Lastbus$Net") (by decide) rfl (Nat.le_of_ble_eq_true rfl) (fun C X => ?_)
  obtain ⟨O, hO⟩ : ∃ O : Res × Mem, O = (((.inl none, r) : Res × Mem)) := ⟨_, rfl⟩
  rw [← hO]
  show J SHC G rm_X3_addRun (.inl O) C 0 0 0 [(0, VR 119), (1, VI trip_), (2, VI ahead_), (3, VI delay_), (4, VI moved_)] [] m
  unfold C_Net_addRun at h
  refine s_load0 X 0 rfl dX3_addRun_0 ?_
  refine s_getI X fk_X3_63 SHC_119 rfl dX3_addRun_1 ?_
  obtain ⟨run_, e2, h⟩ := ltv_elim h
  refine s_istore X e2 rfl (by omega) dX3_addRun_4 ?_
  obtain ⟨g3, h⟩ := grd_some h
  refine s_load0 X 1 rfl dX3_addRun_6 ?_
  refine s_dup X rfl dX3_addRun_7 ?_
  refine s_getI X fk_X3_63 SHC_119 rfl dX3_addRun_8 ?_
  refine s_const X (by unfold InR; omega) dX3_addRun_11 ?_
  refine s_iadd X g3 dX3_addRun_12 ?_
  obtain ⟨m_, e4, h⟩ := ltv_elim h
  refine s_putI X e4 fp_X3_63 SHC_119 rfl trivial dX3_addRun_13 ?_
  obtain ⟨g5, h⟩ := grd_some h
  refine s_load0 X 1 rfl dX3_addRun_16 ?_
  refine s_getR (id := 120) X fk_X3_9 SHC_119 rfl dX3_addRun_17 ?_
  refine s_iload X 0 rfl dX3_addRun_20 ?_
  refine s_iload_n X 2 rfl dX3_addRun_22 ?_
  obtain ⟨m_2, e6, h⟩ := ltv_elim h
  refine s_iast X e6 SHC_120 g5.1 g5.2 dX3_addRun_23 ?_
  refine s_load0 X 1 rfl dX3_addRun_24 ?_
  refine s_getR (id := 121) X fk_X3_15 SHC_119 rfl dX3_addRun_25 ?_
  refine s_iload X 0 rfl dX3_addRun_28 ?_
  refine s_iload_n X 3 rfl dX3_addRun_30 ?_
  obtain ⟨m_3, e8, h⟩ := ltv_elim h
  refine s_iast X e8 SHC_121 g5.1 g5.2 dX3_addRun_31 ?_
  obtain ⟨g9, h⟩ := grd_some h
  refine s_load0 X 1 rfl dX3_addRun_32 ?_
  refine s_getR (id := 122) X fk_X3_18 SHC_119 rfl dX3_addRun_33 ?_
  refine s_iload X 0 rfl dX3_addRun_36 ?_
  refine s_load0 X 1 rfl dX3_addRun_38 ?_
  refine s_getR (id := 31) X fk_X3_49 SHC_119 rfl dX3_addRun_39 ?_
  refine s_getR (id := 33) X fk_X3_98 SHC_31 rfl dX3_addRun_42 ?_
  refine s_iload_n X 2 rfl dX3_addRun_45 ?_
  refine s_iald X SHC_33 g9.1 g9.2 dX3_addRun_46 ?_
  obtain ⟨m_4, e10, h⟩ := ltv_elim h
  refine s_iast X e10 SHC_122 g5.1 g5.2 dX3_addRun_47 ?_
  refine s_const X (by unfold InR; omega) dX3_addRun_48 ?_
  obtain ⟨call_, e12, h⟩ := ltv_elim h
  refine s_istore X e12 rfl (by omega) dX3_addRun_49 ?_
  obtain ⟨call_5, m_10, hl22, h⟩ := bq2_some h
  obtain ⟨fu130, hl23⟩ := loop_iter hl22
  have KX19 : ∀ q9 : Int × Mem, q9 = (call_5, m_10) → J SHC G rm_X3_addRun (.inl O) C 0 0 180 [(6, VI q9.1), (5, VI run_), (0, VR 119), (1, VI trip_), (2, VI ahead_), (3, VI delay_), (4, VI moved_)] [] (q9.2) := by
    intro q9 e9
    subst e9
    show J SHC G rm_X3_addRun (.inl O) C 0 0 180 [(6, VI call_5), (5, VI run_), (0, VR 119), (1, VI trip_), (2, VI ahead_), (3, VI delay_), (4, VI moved_)] [] m_10
    exact s_vret X (Nat.le_of_ble_eq_true rfl) (Nat.le_of_ble_eq_true rfl) (by cases h; exact hO) dX3_addRun_180
  have LP18 : ∀ (fu13 : Nat) (call_2 : Int) (m_5 : Mem), iter (fun s => C_Net_addRun_b1 trip_ delay_ moved_ run_ s.1 s.2) fu13 (call_2, m_5) = some (call_5, m_10) → J SHC G rm_X3_addRun (.inl O) C 0 0 51 [(6, VI call_2), (5, VI run_), (0, VR 119), (1, VI trip_), (2, VI ahead_), (3, VI delay_), (4, VI moved_)] [] m_5 := by
    intro fu13
    induction fu13 with
    | zero => intro call_2 m_5 hn14; exact absurd hn14 (by simp [iter])
    | succ fu13 ih17 =>
      intro call_2 m_5 hn14
      obtain ⟨x15, h, hc16⟩ := iter_succ hn14
      replace h : C_Net_addRun_b1 trip_ delay_ moved_ run_ call_2 m_5 = some x15 := h
      unfold C_Net_addRun_b1 at h
      obtain ⟨g24, h⟩ := grd_some h
      refine s_iload X 0 rfl dX3_addRun_51 ?_
      refine s_load0 X 2 rfl dX3_addRun_53 ?_
      refine s_getR (id := 122) X fk_X3_18 SHC_119 rfl dX3_addRun_54 ?_
      refine s_iload X 1 rfl dX3_addRun_57 ?_
      refine s_iald X SHC_122 g24.1 g24.2 dX3_addRun_59 ?_
      refine s_icmpge_f (tgt := 180) X dX3_addRun_60 (by omega) (fun c27 => ?_) (fun c28 => ?_)
      · replace h := ite_neg h c27
        exact KX19 _ (iter_exit h hc16)
      · replace h := ite_pos h c28
        obtain ⟨g29, h⟩ := grd_some h
        refine s_load0 X 2 rfl dX3_addRun_63 ?_
        refine s_getR (id := 123) X fk_X3_23 SHC_119 rfl dX3_addRun_64 ?_
        refine s_iload X 1 rfl dX3_addRun_67 ?_
        refine s_aaldI (id := (124 + run_.toNat)) X (by omega) (Or.inl rfl) SHC_123 g24.1 g24.2 dX3_addRun_69 ?_
        refine s_iload X 0 rfl dX3_addRun_70 ?_
        refine s_load0 X 2 rfl dX3_addRun_72 ?_
        refine s_getR (id := 31) X fk_X3_49 SHC_119 rfl dX3_addRun_73 ?_
        refine s_getR (id := 34) X fk_X3_99 SHC_31 rfl dX3_addRun_76 ?_
        refine s_iload_n X 3 rfl dX3_addRun_79 ?_
        refine s_aaldI (id := (35 + trip_.toNat)) X (by omega) (Or.inl rfl) SHC_34 g29.2.2.1 g29.2.2.2 dX3_addRun_80 ?_
        refine s_iload X 0 rfl dX3_addRun_81 ?_
        refine s_iald X (SHC_r35 g29.2.2.1 g29.2.2.2) g29.1 g29.2.1 dX3_addRun_83 ?_
        obtain ⟨m_6, e30, h⟩ := ltv_elim h
        refine s_iast X e30 (SHC_r124 g24.1 g24.2) g29.1 g29.2.1 dX3_addRun_84 ?_
        obtain ⟨g31, h⟩ := grd_some h
        refine s_load0 X 2 rfl dX3_addRun_85 ?_
        refine s_getR (id := 196) X fk_X3_26 SHC_119 rfl dX3_addRun_86 ?_
        refine s_iload X 1 rfl dX3_addRun_89 ?_
        refine s_aaldI (id := (197 + run_.toNat)) X (by omega) (Or.inl rfl) SHC_196 g24.1 g24.2 dX3_addRun_91 ?_
        refine s_iload X 0 rfl dX3_addRun_92 ?_
        refine s_load0 X 2 rfl dX3_addRun_94 ?_
        refine s_getR (id := 31) X fk_X3_49 SHC_119 rfl dX3_addRun_95 ?_
        refine s_getR (id := 59) X fk_X3_100 SHC_31 rfl dX3_addRun_98 ?_
        refine s_iload_n X 3 rfl dX3_addRun_101 ?_
        refine s_aaldI (id := (60 + trip_.toNat)) X (by omega) (Or.inl rfl) SHC_59 g29.2.2.1 g29.2.2.2 dX3_addRun_102 ?_
        refine s_iload X 0 rfl dX3_addRun_103 ?_
        refine s_iald X (SHC_r60 g29.2.2.1 g29.2.2.2) g29.1 g29.2.1 dX3_addRun_105 ?_
        refine s_iload X 6 rfl dX3_addRun_106 ?_
        refine s_iadd X g31.1 dX3_addRun_108 ?_
        refine s_load0 X 2 rfl dX3_addRun_109 ?_
        refine s_getR (id := 109) X fk_X3_53 SHC_119 rfl dX3_addRun_110 ?_
        refine s_iload_n X 5 rfl dX3_addRun_113 ?_
        refine s_iload X 0 rfl dX3_addRun_114 ?_
        refine s_const X (by unfold InR; omega) dX3_addRun_116 ?_
        refine s_isub X g31.2 dX3_addRun_117 ?_
        obtain ⟨r_, hq32, h⟩ := bnd_some h
        refine s_callV (As := [VI delay_, VI (call_2 - 1)]) X cw_X3_101 SHC_109 rfl dX3_addRun_118 (L_C_Delays_at G delay_ (call_2 - 1) m_6 r_ hq32) rfl ⟨Nat.le_of_ble_eq_true rfl, Nat.le_of_ble_eq_true rfl⟩ ⟨Nat.le_of_ble_eq_true rfl, Nat.le_of_ble_eq_true rfl⟩ (Nat.le_of_ble_eq_true rfl) noT (kkR ?_)
        obtain ⟨g34, h⟩ := grd_some h
        refine s_iadd X g34 dX3_addRun_121 ?_
        obtain ⟨m_7, e35, h⟩ := ltv_elim h
        refine s_iast X e35 (SHC_r197 g24.1 g24.2) g29.1 g29.2.1 dX3_addRun_122 ?_
        obtain ⟨g36, h⟩ := grd_some h
        refine s_load0 X 2 rfl dX3_addRun_123 ?_
        refine s_getR (id := 269) X fk_X3_29 SHC_119 rfl dX3_addRun_124 ?_
        refine s_iload X 1 rfl dX3_addRun_127 ?_
        refine s_aaldI (id := (270 + run_.toNat)) X (by omega) (Or.inl rfl) SHC_269 g24.1 g24.2 dX3_addRun_129 ?_
        refine s_iload X 0 rfl dX3_addRun_130 ?_
        refine s_load0 X 2 rfl dX3_addRun_132 ?_
        refine s_getR (id := 31) X fk_X3_49 SHC_119 rfl dX3_addRun_133 ?_
        refine s_getR (id := 84) X fk_X3_104 SHC_31 rfl dX3_addRun_136 ?_
        refine s_iload_n X 3 rfl dX3_addRun_139 ?_
        refine s_aaldI (id := (85 + trip_.toNat)) X (by omega) (Or.inl rfl) SHC_84 g29.2.2.1 g29.2.2.2 dX3_addRun_140 ?_
        refine s_iload X 0 rfl dX3_addRun_141 ?_
        refine s_iald X (SHC_r85 g29.2.2.1 g29.2.2.2) g29.1 g29.2.1 dX3_addRun_143 ?_
        refine s_iload X 6 rfl dX3_addRun_144 ?_
        refine s_iadd X g36 dX3_addRun_146 ?_
        refine s_load0 X 2 rfl dX3_addRun_147 ?_
        refine s_getR (id := 109) X fk_X3_53 SHC_119 rfl dX3_addRun_148 ?_
        refine s_iload_n X 5 rfl dX3_addRun_151 ?_
        refine s_iload X 0 rfl dX3_addRun_152 ?_
        obtain ⟨r_2, hq37, h⟩ := bnd_some h
        refine s_callV (As := [VI delay_, VI call_2]) X cw_X3_101 SHC_109 rfl dX3_addRun_154 (L_C_Delays_at G delay_ call_2 m_7 r_2 hq37) rfl ⟨Nat.le_of_ble_eq_true rfl, Nat.le_of_ble_eq_true rfl⟩ ⟨Nat.le_of_ble_eq_true rfl, Nat.le_of_ble_eq_true rfl⟩ (Nat.le_of_ble_eq_true rfl) noT (kkR ?_)
        obtain ⟨g39, h⟩ := grd_some h
        refine s_iadd X g39 dX3_addRun_157 ?_
        obtain ⟨m_8, e40, h⟩ := ltv_elim h
        refine s_iast X e40 (SHC_r270 g24.1 g24.2) g29.1 g29.2.1 dX3_addRun_158 ?_
        refine s_iload X 0 rfl dX3_addRun_159 ?_
        refine s_ifle_f (tgt := 174) X dX3_addRun_161 (by omega) (fun c44 => ?_) (fun c45 => ?_)
        · replace h := ite_neg h c44
          obtain ⟨g46, h⟩ := grd_some h
          obtain ⟨call_3, e47, h⟩ := ltv_elim h
          refine s_iinc X 0 rfl g46 e47 rfl (by omega) dX3_addRun_174 ?_
          refine s_goto (tgt := 51) X dX3_addRun_177 (by omega) ?_
          exact ih17 _ _ (iter_next h hc16)
        · replace h := ite_pos h c45
          refine s_load0 X 2 rfl dX3_addRun_164 ?_
          refine s_iload X 1 rfl dX3_addRun_165 ?_
          refine s_iload X 0 rfl dX3_addRun_167 ?_
          refine s_const X (by unfold InR; omega) dX3_addRun_169 ?_
          refine s_isub X g31.2 dX3_addRun_170 ?_
          obtain ⟨m_9, hq49, h⟩ := bnd_some h
          refine s_callV (As := [VI run_, VI (call_2 - 1)]) X cw_X3_105 SHC_119 rfl dX3_addRun_171 (L_C_Net_addHop G run_ (call_2 - 1) m_8 m_9 hq49) rfl ⟨Nat.le_of_ble_eq_true rfl, Nat.le_of_ble_eq_true rfl⟩ ⟨Nat.le_of_ble_eq_true rfl, Nat.le_of_ble_eq_true rfl⟩ (Nat.le_of_ble_eq_true rfl) noT (kkU ?_)
          obtain ⟨g52, h⟩ := grd_some h
          obtain ⟨call_4, e53, h⟩ := ltv_elim h
          refine s_iinc X 0 rfl g52 e53 rfl (by omega) dX3_addRun_174 ?_
          refine s_goto (tgt := 51) X dX3_addRun_177 (by omega) ?_
          exact ih17 _ _ (iter_next h hc16)
  exact LP18 _ _ _ hl23
