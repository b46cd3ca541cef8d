/-! ===== printed by a program out of the Java source and the decode rows: 34c.LM ===== -/
set_option maxRecDepth 20000 in
set_option maxHeartbeats 4000000 in
theorem L_M_lateOf (G : Gl) (day_ : Int) (trip_ : Int) (call_ : Int) (m : Mem) (r : Int)  (h : M_lateOf day_ trip_ call_ m = some r) : Con SHM G yX12_lateOf cX12_lateOf 5 (some .int) rm_X12_lateOf [VR 0, VI day_, VI trip_, VI call_] m (((.inl (some (VI r)), m) : Res × Mem)) := by
  refine con_of (own := "LastbusModel") (by decide) rfl (Nat.le_of_ble_eq_true rfl) (fun C X => ?_)
  obtain ⟨O, hO⟩ : ∃ O : Res × Mem, O = (((.inl (some (VI r)), m) : Res × Mem)) := ⟨_, rfl⟩
  rw [← hO]
  show J SHM G rm_X12_lateOf (.inl O) C 0 0 0 [(0, VR 0), (1, VI day_), (2, VI trip_), (3, VI call_)] [] m
  unfold M_lateOf at h
  refine s_load0 X 0 rfl dX12_lateOf_0 ?_
  refine s_iload_n X 1 rfl dX12_lateOf_1 ?_
  refine s_iload_n X 2 rfl dX12_lateOf_2 ?_
  obtain ⟨r_, hq2, h⟩ := bnd_some h
  refine s_callV (As := [VI day_, VI trip_]) X cw_X12_191 SHM_0 rfl dX12_lateOf_3 (L_M_lateAt G day_ trip_ m r_ hq2) rfl ⟨Nat.le_of_ble_eq_true rfl, Nat.le_of_ble_eq_true rfl⟩ ⟨Nat.le_of_ble_eq_true rfl, Nat.le_of_ble_eq_true rfl⟩ (Nat.le_of_ble_eq_true rfl) noT (kkR ?_)
  obtain ⟨at_, e5, h⟩ := ltv_elim h
  refine s_istore X e5 rfl (by omega) dX12_lateOf_6 ?_
  obtain ⟨g6, h⟩ := grd_some h
  have kM7 : J SHM G rm_X12_lateOf (.inl O) C 0 0 36 [(4, VI at_), (0, VR 0), (1, VI day_), (2, VI trip_), (3, VI call_)] [VI (if (at_ = (-1)) ∨ (call_ < m 12 at_.toNat) then 0 else m 13 at_.toNat)] m := by
    exact s_iret X (Nat.le_of_ble_eq_true rfl) (Nat.le_of_ble_eq_true rfl) (by cases h; exact hO) dX12_lateOf_36
  refine s_iload X 0 rfl dX12_lateOf_8 ?_
  refine s_const X (by unfold InR; omega) dX12_lateOf_10 ?_
  refine s_icmpeq_t (tgt := 25) X dX12_lateOf_11 (by omega) (fun c8 => ?_) (fun c9 => ?_)
  · refine s_const X (by unfold InR; omega) dX12_lateOf_25 ?_
    refine s_goto (tgt := 36) X dX12_lateOf_26 (by omega) ?_
    exact s_eqt (if_pos (Or.inl c8)) kM7
  · have a10 : ¬ (at_ = (-1)) := c9
    refine s_iload_n X 4 rfl dX12_lateOf_14 ?_
    refine s_load0 X 1 rfl dX12_lateOf_15 ?_
    refine s_getR (id := 12) X fk_X12_48 SHM_0 rfl dX12_lateOf_16 ?_
    refine s_iload X 0 rfl dX12_lateOf_19 ?_
    refine s_iald X SHM_12 (g6.1 a10) (g6.2.1 a10) dX12_lateOf_21 ?_
    refine s_icmpge_f (tgt := 29) X dX12_lateOf_22 (by omega) (fun c11 => ?_) (fun c12 => ?_)
    · refine s_load0 X 1 rfl dX12_lateOf_29 ?_
      refine s_getR (id := 13) X fk_X12_51 SHM_0 rfl dX12_lateOf_30 ?_
      refine s_iload X 0 rfl dX12_lateOf_33 ?_
      refine s_iald X SHM_13 (g6.2.2.1 (fun q => q.elim a10 c11)) (g6.2.2.2 (fun q => q.elim a10 c11)) dX12_lateOf_35 ?_
      exact s_eqt (if_neg (fun q => q.elim a10 c11)) kM7
    · refine s_const X (by unfold InR; omega) dX12_lateOf_25 ?_
      refine s_goto (tgt := 36) X dX12_lateOf_26 (by omega) ?_
      exact s_eqt (if_pos (Or.inr c12)) kM7
set_option maxRecDepth 20000 in
set_option maxHeartbeats 4000000 in
theorem L_M_lateness (G : Gl) (day_ : Int) (trip_ : Int) (call_ : Int) (m : Mem) (r : (Int × Mem))  (h : M_lateness day_ trip_ call_ m = some r) : Con SHM G yX12_lateness cX12_lateness 4 (some .int) rm_X12_lateness [VR 0, VI day_, VI trip_, VI call_] m (((.inl (some (VI r.1)), r.2) : Res × Mem)) := by
  refine con_of (own := "LastbusModel") (by decide) rfl (Nat.le_of_ble_eq_true rfl) (fun C X => ?_)
  obtain ⟨O, hO⟩ : ∃ O : Res × Mem, O = (((.inl (some (VI r.1)), r.2) : Res × Mem)) := ⟨_, rfl⟩
  rw [← hO]
  show J SHM G rm_X12_lateness (.inl O) C 0 0 0 [(0, VR 0), (1, VI day_), (2, VI trip_), (3, VI call_)] [] m
  unfold M_lateness at h
  refine s_load0 X 0 rfl dX12_lateness_0 ?_
  refine s_iload_n X 2 rfl dX12_lateness_1 ?_
  refine s_iload_n X 3 rfl dX12_lateness_2 ?_
  obtain ⟨r_, m_, hq2, h⟩ := bq2_some h
  refine s_callV (As := [VI trip_, VI call_]) X cw_X12_162 SHM_0 rfl dX12_lateness_3 (L_M_isNoCall G trip_ call_ m (r_, m_) hq2) rfl ⟨Nat.le_of_ble_eq_true rfl, Nat.le_of_ble_eq_true rfl⟩ ⟨Nat.le_of_ble_eq_true rfl, Nat.le_of_ble_eq_true rfl⟩ (Nat.le_of_ble_eq_true rfl) noT (kkR ?_)
  refine s_ifne_t (tgt := 18) X dX12_lateness_6 (by omega) (fun c5 => ?_) (fun c6 => ?_)
  · replace h := ite_pos h c5
    refine s_const X (by unfold InR; omega) dX12_lateness_18 ?_
    refine s_goto (tgt := 29) X dX12_lateness_19 (by omega) ?_
    exact s_iret X (Nat.le_of_ble_eq_true rfl) (Nat.le_of_ble_eq_true rfl) (by cases h; exact hO) dX12_lateness_29
  · replace h := ite_neg h c6
    refine s_load0 X 0 rfl dX12_lateness_9 ?_
    refine s_iload_n X 1 rfl dX12_lateness_10 ?_
    refine s_const X (by unfold InR; omega) dX12_lateness_11 ?_
    obtain ⟨r_2, m_2, hq9, h⟩ := bq2_some h
    refine s_callV (As := [VI day_, VI 2]) X cw_X12_154 SHM_0 rfl dX12_lateness_12 (L_M_isNoDay G day_ 2 m_ (r_2, m_2) hq9) rfl ⟨Nat.le_of_ble_eq_true rfl, Nat.le_of_ble_eq_true rfl⟩ ⟨Nat.le_of_ble_eq_true rfl, Nat.le_of_ble_eq_true rfl⟩ (Nat.le_of_ble_eq_true rfl) noT (kkR ?_)
    refine s_ifeq_f (tgt := 22) X dX12_lateness_15 (by omega) (fun c12 => ?_) (fun c13 => ?_)
    · replace h := ite_neg h c12
      refine s_load0 X 0 rfl dX12_lateness_22 ?_
      refine s_iload_n X 1 rfl dX12_lateness_23 ?_
      refine s_iload_n X 2 rfl dX12_lateness_24 ?_
      refine s_iload_n X 3 rfl dX12_lateness_25 ?_
      obtain ⟨r_3, hq15, h⟩ := bnd_some h
      refine s_callV (As := [VI day_, VI trip_, VI call_]) X cw_X12_195 SHM_0 rfl dX12_lateness_26 (L_M_lateOf G day_ trip_ call_ m_2 r_3 hq15) rfl ⟨Nat.le_of_ble_eq_true rfl, Nat.le_of_ble_eq_true rfl⟩ ⟨Nat.le_of_ble_eq_true rfl, Nat.le_of_ble_eq_true rfl⟩ (Nat.le_of_ble_eq_true rfl) noT (kkR ?_)
      exact s_iret X (Nat.le_of_ble_eq_true rfl) (Nat.le_of_ble_eq_true rfl) (by cases h; exact hO) dX12_lateness_29
    · replace h := ite_pos h c13
      refine s_const X (by unfold InR; omega) dX12_lateness_18 ?_
      refine s_goto (tgt := 29) X dX12_lateness_19 (by omega) ?_
      exact s_iret X (Nat.le_of_ble_eq_true rfl) (Nat.le_of_ble_eq_true rfl) (by cases h; exact hO) dX12_lateness_29
set_option maxRecDepth 20000 in
set_option maxHeartbeats 4000000 in
theorem L_M_onTime (G : Gl)  (m : Mem) (r : (Int × Mem))  (h : M_onTime  m = some r) : Con SHM G yX12_onTime cX12_onTime 2 (some .int) rm_X12_onTime [VR 0] m (((.inl (some (VI r.1)), r.2) : Res × Mem)) := by
  refine con_of (own := "LastbusModel") (by decide) rfl (Nat.le_of_ble_eq_true rfl) (fun C X => ?_)
  obtain ⟨O, hO⟩ : ∃ O : Res × Mem, O = (((.inl (some (VI r.1)), r.2) : Res × Mem)) := ⟨_, rfl⟩
  rw [← hO]
  show J SHM G rm_X12_onTime (.inl O) C 0 0 0 [(0, VR 0)] [] m
  unfold M_onTime at h
  refine s_load0 X 0 rfl dX12_onTime_0 ?_
  refine s_const X (by unfold InR; omega) dX12_onTime_1 ?_
  obtain ⟨m_, e2, h⟩ := ltv_elim h
  refine s_putI X e2 fp_X12_120 SHM_0 rfl trivial dX12_onTime_2 ?_
  refine s_load0 X 0 rfl dX12_onTime_5 ?_
  refine s_getI X fk_X12_188 SHM_0 rfl dX12_onTime_6 ?_
  obtain ⟨had_, e4, h⟩ := ltv_elim h
  refine s_istore_n X e4 rfl (by omega) dX12_onTime_9 ?_
  refine s_load0 X 1 rfl dX12_onTime_10 ?_
  refine s_const X (by unfold InR; omega) dX12_onTime_11 ?_
  obtain ⟨m_2, e6, h⟩ := ltv_elim h
  refine s_putI X e6 fp_X12_188 SHM_0 rfl trivial dX12_onTime_12 ?_
  refine s_iload_n X 0 rfl dX12_onTime_15 ?_
  exact s_iret X (Nat.le_of_ble_eq_true rfl) (Nat.le_of_ble_eq_true rfl) (by cases h; exact hO) dX12_onTime_16
set_option maxRecDepth 20000 in
set_option maxHeartbeats 4000000 in
theorem L_M_isRun (G : Gl) (run_ : Int) (m : Mem) (r : Int)  (h : M_isRun run_ m = some r) : Con SHM G yX12_isRun cX12_isRun 4 (some .boolean) rm_X12_isRun [VR 0, VI run_] m (((.inl (some (VI r)), m) : Res × Mem)) := by
  refine con_of (own := "LastbusModel") (by decide) rfl (Nat.le_of_ble_eq_true rfl) (fun C X => ?_)
  obtain ⟨O, hO⟩ : ∃ O : Res × Mem, O = (((.inl (some (VI r)), m) : Res × Mem)) := ⟨_, rfl⟩
  rw [← hO]
  show J SHM G rm_X12_isRun (.inl O) C 0 0 0 [(0, VR 0), (1, VI run_)] [] m
  unfold M_isRun at h
  obtain ⟨g1, h⟩ := grd_some h
  refine s_load0 X 0 rfl dX12_isRun_0 ?_
  refine s_getI X fk_X12_198 SHM_0 rfl dX12_isRun_1 ?_
  refine s_iload_n X 1 rfl dX12_isRun_4 ?_
  refine s_bipush X (by omega) dX12_isRun_5 ?_
  refine s_idiv X (by omega) dX12_isRun_7 ?_
  refine s_iadd X g1.1 dX12_isRun_8 ?_
  refine s_const X (by unfold InR; omega) dX12_isRun_9 ?_
  refine s_isub X g1.2 dX12_isRun_10 ?_
  obtain ⟨day_, e2, h⟩ := ltv_elim h
  refine s_istore_n X e2 rfl (by omega) dX12_isRun_11 ?_
  refine s_iload_n X 2 rfl dX12_isRun_12 ?_
  refine s_bipush X (by omega) dX12_isRun_13 ?_
  refine s_irem X (by omega) dX12_isRun_15 ?_
  obtain ⟨trip_, e4, h⟩ := ltv_elim h
  refine s_istore_n X e4 rfl (by omega) dX12_isRun_16 ?_
  obtain ⟨g5, h⟩ := grd_some h
  have kM6 : J SHM G rm_X12_isRun (.inl O) C 0 0 59 [(3, VI trip_), (2, VI day_), (0, VR 0), (1, VI run_)] [VI (if ((trip_ < m 0 8) ∧ (¬ M_isIn day_ 0 27 = 0)) ∧ (¬ m 4 (28 * (m 5 trip_.toNat) + day_).toNat = 0) then 1 else 0)] m := by
    exact s_zret X okT_ite (Nat.le_of_ble_eq_true rfl) (Nat.le_of_ble_eq_true rfl) (by cases h; exact hO) dX12_isRun_59
  refine s_iload_n X 0 rfl dX12_isRun_17 ?_
  refine s_load0 X 2 rfl dX12_isRun_18 ?_
  refine s_getI X fk_X12_137 SHM_0 rfl dX12_isRun_19 ?_
  refine s_icmpge_f (tgt := 58) X dX12_isRun_22 (by omega) (fun c7 => ?_) (fun c8 => ?_)
  · refine s_const X (by unfold InR; omega) dX12_isRun_58 ?_
    exact s_eqt (if_neg (fun q => (fun q => c7 q.1) q.1)) kM6
  · have a9 : trip_ < m 0 8 := c8
    refine s_iload_n X 1 rfl dX12_isRun_25 ?_
    refine s_const X (by unfold InR; omega) dX12_isRun_26 ?_
    refine s_bipush X (by omega) dX12_isRun_27 ?_
    refine s_callS (As := [VI day_, VI 0, VI 27]) X cw_X12_126 dX12_isRun_29 (L_M_isIn G day_ 0 27 m) rfl ⟨Nat.le_of_ble_eq_true rfl, Nat.le_of_ble_eq_true rfl⟩ ⟨Nat.le_of_ble_eq_true rfl, Nat.le_of_ble_eq_true rfl⟩ (Nat.le_of_ble_eq_true rfl) noT (kkR ?_)
    refine s_ifeq_f (tgt := 58) X dX12_isRun_32 (by omega) (fun c10 => ?_) (fun c11 => ?_)
    · refine s_const X (by unfold InR; omega) dX12_isRun_58 ?_
      exact s_eqt (if_neg (fun q => (fun q => c10 q.2) q.1)) kM6
    · have a12 : (trip_ < m 0 8) ∧ (¬ M_isIn day_ 0 27 = 0) := ⟨a9, c11⟩
      refine s_load0 X 2 rfl dX12_isRun_35 ?_
      refine s_getR (id := 4) X fk_X12_23 SHM_0 rfl dX12_isRun_36 ?_
      refine s_bipush X (by omega) dX12_isRun_39 ?_
      refine s_load0 X 2 rfl dX12_isRun_41 ?_
      refine s_getR (id := 5) X fk_X12_27 SHM_0 rfl dX12_isRun_42 ?_
      refine s_iload_n X 0 rfl dX12_isRun_45 ?_
      refine s_iald X SHM_5 (g5.1 a12) (g5.2.1 a12) dX12_isRun_46 ?_
      refine s_imul X (g5.2.2.1 a12) dX12_isRun_47 ?_
      refine s_iload_n X 1 rfl dX12_isRun_48 ?_
      refine s_iadd X (g5.2.2.2.1 a12) dX12_isRun_49 ?_
      refine s_bald X SHM_4 (g5.2.2.2.2.1 a12) (g5.2.2.2.2.2 a12) dX12_isRun_50 ?_
      refine s_ifeq_f (tgt := 58) X dX12_isRun_51 (by omega) (fun c13 => ?_) (fun c14 => ?_)
      · refine s_const X (by unfold InR; omega) dX12_isRun_58 ?_
        exact s_eqt (if_neg (fun q => c13 q.2)) kM6
      · refine s_const X (by unfold InR; omega) dX12_isRun_54 ?_
        refine s_goto (tgt := 59) X dX12_isRun_55 (by omega) ?_
        exact s_eqt (if_pos ⟨a12, c14⟩) kM6
set_option maxRecDepth 20000 in
set_option maxHeartbeats 4000000 in
theorem L_M_leavesAt (G : Gl) (run_ : Int) (call_ : Int) (m : Mem) (r : Int)  (h : M_leavesAt run_ call_ m = some r) : Con SHM G yX12_leavesAt cX12_leavesAt 5 (some .int) rm_X12_leavesAt [VR 0, VI run_, VI call_] m (((.inl (some (VI r)), m) : Res × Mem)) := by
  refine con_of (own := "LastbusModel") (by decide) rfl (Nat.le_of_ble_eq_true rfl) (fun C X => ?_)
  obtain ⟨O, hO⟩ : ∃ O : Res × Mem, O = (((.inl (some (VI r)), m) : Res × Mem)) := ⟨_, rfl⟩
  rw [← hO]
  show J SHM G rm_X12_leavesAt (.inl O) C 0 0 0 [(0, VR 0), (1, VI run_), (2, VI call_)] [] m
  unfold M_leavesAt at h
  refine s_iload_n X 1 rfl dX12_leavesAt_0 ?_
  refine s_bipush X (by omega) dX12_leavesAt_1 ?_
  refine s_irem X (by omega) dX12_leavesAt_3 ?_
  obtain ⟨trip_, e2, h⟩ := ltv_elim h
  refine s_istore_n X e2 rfl (by omega) dX12_leavesAt_4 ?_
  obtain ⟨g3, h⟩ := grd_some h
  refine s_iload_n X 2 rfl dX12_leavesAt_5 ?_
  refine s_bipush X (by omega) dX12_leavesAt_6 ?_
  refine s_idiv X (by omega) dX12_leavesAt_8 ?_
  refine s_const X (by unfold InR; omega) dX12_leavesAt_9 ?_
  refine s_isub X g3 dX12_leavesAt_10 ?_
  obtain ⟨behind_, e4, h⟩ := ltv_elim h
  refine s_istore X e4 rfl (by omega) dX12_leavesAt_11 ?_
  obtain ⟨g5, h⟩ := grd_some h
  refine s_load0 X 2 rfl dX12_leavesAt_13 ?_
  refine s_getR (id := 9) X fk_X12_39 SHM_0 rfl dX12_leavesAt_14 ?_
  refine s_bipush X (by omega) dX12_leavesAt_17 ?_
  refine s_iload_n X 1 rfl dX12_leavesAt_19 ?_
  refine s_imul X g5.1 dX12_leavesAt_20 ?_
  refine s_iload_n X 4 rfl dX12_leavesAt_21 ?_
  refine s_iadd X g5.2.1 dX12_leavesAt_22 ?_
  refine s_iald X SHM_9 g5.2.2.1 g5.2.2.2.1 dX12_leavesAt_23 ?_
  refine s_sipush X (by omega) dX12_leavesAt_24 ?_
  refine s_iload X 0 rfl dX12_leavesAt_27 ?_
  refine s_imul X g5.2.2.2.2.1 dX12_leavesAt_29 ?_
  refine s_iadd X g5.2.2.2.2.2.1 dX12_leavesAt_30 ?_
  refine s_load0 X 2 rfl dX12_leavesAt_31 ?_
  refine s_load0 X 2 rfl dX12_leavesAt_32 ?_
  refine s_getI X fk_X12_198 SHM_0 rfl dX12_leavesAt_33 ?_
  refine s_iload X 0 rfl dX12_leavesAt_36 ?_
  refine s_iadd X g5.2.2.2.2.2.2 dX12_leavesAt_38 ?_
  refine s_iload_n X 1 rfl dX12_leavesAt_39 ?_
  refine s_iload_n X 4 rfl dX12_leavesAt_40 ?_
  obtain ⟨r_, hq6, h⟩ := bnd_some h
  refine s_callV (As := [VI (m 0 22 + behind_), VI trip_, VI call_]) X cw_X12_195 SHM_0 rfl dX12_leavesAt_41 (L_M_lateOf G (m 0 22 + behind_) trip_ call_ m r_ hq6) rfl ⟨Nat.le_of_ble_eq_true rfl, Nat.le_of_ble_eq_true rfl⟩ ⟨Nat.le_of_ble_eq_true rfl, Nat.le_of_ble_eq_true rfl⟩ (Nat.le_of_ble_eq_true rfl) noT (kkR ?_)
  obtain ⟨g8, h⟩ := grd_some h
  refine s_iadd X g8 dX12_leavesAt_44 ?_
  exact s_iret X (Nat.le_of_ble_eq_true rfl) (Nat.le_of_ble_eq_true rfl) (by cases h; exact hO) dX12_leavesAt_45
set_option maxRecDepth 20000 in
set_option maxHeartbeats 4000000 in
theorem L_M_comesAt (G : Gl) (run_ : Int) (call_ : Int) (m : Mem) (r : Int)  (h : M_comesAt run_ call_ m = some r) : Con SHM G yX12_comesAt cX12_comesAt 5 (some .int) rm_X12_comesAt [VR 0, VI run_, VI call_] m (((.inl (some (VI r)), m) : Res × Mem)) := by
  refine con_of (own := "LastbusModel") (by decide) rfl (Nat.le_of_ble_eq_true rfl) (fun C X => ?_)
  obtain ⟨O, hO⟩ : ∃ O : Res × Mem, O = (((.inl (some (VI r)), m) : Res × Mem)) := ⟨_, rfl⟩
  rw [← hO]
  show J SHM G rm_X12_comesAt (.inl O) C 0 0 0 [(0, VR 0), (1, VI run_), (2, VI call_)] [] m
  unfold M_comesAt at h
  refine s_iload_n X 1 rfl dX12_comesAt_0 ?_
  refine s_bipush X (by omega) dX12_comesAt_1 ?_
  refine s_irem X (by omega) dX12_comesAt_3 ?_
  obtain ⟨trip_, e2, h⟩ := ltv_elim h
  refine s_istore_n X e2 rfl (by omega) dX12_comesAt_4 ?_
  obtain ⟨g3, h⟩ := grd_some h
  refine s_iload_n X 2 rfl dX12_comesAt_5 ?_
  refine s_bipush X (by omega) dX12_comesAt_6 ?_
  refine s_idiv X (by omega) dX12_comesAt_8 ?_
  refine s_const X (by unfold InR; omega) dX12_comesAt_9 ?_
  refine s_isub X g3 dX12_comesAt_10 ?_
  obtain ⟨behind_, e4, h⟩ := ltv_elim h
  refine s_istore X e4 rfl (by omega) dX12_comesAt_11 ?_
  obtain ⟨g5, h⟩ := grd_some h
  refine s_load0 X 2 rfl dX12_comesAt_13 ?_
  refine s_getR (id := 8) X fk_X12_36 SHM_0 rfl dX12_comesAt_14 ?_
  refine s_bipush X (by omega) dX12_comesAt_17 ?_
  refine s_iload_n X 1 rfl dX12_comesAt_19 ?_
  refine s_imul X g5.1 dX12_comesAt_20 ?_
  refine s_iload_n X 4 rfl dX12_comesAt_21 ?_
  refine s_iadd X g5.2.1 dX12_comesAt_22 ?_
  refine s_iald X SHM_8 g5.2.2.1 g5.2.2.2.1 dX12_comesAt_23 ?_
  refine s_sipush X (by omega) dX12_comesAt_24 ?_
  refine s_iload X 0 rfl dX12_comesAt_27 ?_
  refine s_imul X g5.2.2.2.2.1 dX12_comesAt_29 ?_
  refine s_iadd X g5.2.2.2.2.2 dX12_comesAt_30 ?_
  obtain ⟨kj_, hk6, h⟩ := ltv_elim h
  have K7 : ∀ (v_ : Int), kj_ v_ = some r → J SHM G rm_X12_comesAt (.inl O) C 0 0 54 [(4, VI behind_), (3, VI trip_), (0, VR 0), (1, VI run_), (2, VI call_)] [VI v_, VI (m 8 (8 * trip_ + call_).toNat + 1440 * behind_)] m := by
    intro v_ h
    subst hk6
    dsimp only at h
    obtain ⟨g17, h⟩ := grd_some h
    refine s_iadd X g17 dX12_comesAt_54 ?_
    exact s_iret X (Nat.le_of_ble_eq_true rfl) (Nat.le_of_ble_eq_true rfl) (by cases h; exact hO) dX12_comesAt_55
  refine s_iload_n X 4 rfl dX12_comesAt_31 ?_
  refine s_ifne_f (tgt := 39) X dX12_comesAt_32 (by omega) (fun c10 => ?_) (fun c11 => ?_)
  · replace h := ite_neg h c10
    obtain ⟨g12, h⟩ := grd_some h
    refine s_load0 X 2 rfl dX12_comesAt_39 ?_
    refine s_load0 X 2 rfl dX12_comesAt_40 ?_
    refine s_getI X fk_X12_198 SHM_0 rfl dX12_comesAt_41 ?_
    refine s_iload X 0 rfl dX12_comesAt_44 ?_
    refine s_iadd X g12.1 dX12_comesAt_46 ?_
    refine s_iload_n X 1 rfl dX12_comesAt_47 ?_
    refine s_iload_n X 4 rfl dX12_comesAt_48 ?_
    refine s_const X (by unfold InR; omega) dX12_comesAt_49 ?_
    refine s_isub X g12.2 dX12_comesAt_50 ?_
    obtain ⟨r_, hq13, h⟩ := bnd_some h
    refine s_callV (As := [VI (m 0 22 + behind_), VI trip_, VI (call_ - 1)]) X cw_X12_195 SHM_0 rfl dX12_comesAt_51 (L_M_lateOf G (m 0 22 + behind_) trip_ (call_ - 1) m r_ hq13) rfl ⟨Nat.le_of_ble_eq_true rfl, Nat.le_of_ble_eq_true rfl⟩ ⟨Nat.le_of_ble_eq_true rfl, Nat.le_of_ble_eq_true rfl⟩ (Nat.le_of_ble_eq_true rfl) noT (kkR ?_)
    exact s_kn rfl rfl (K7 _ h)
  · replace h := ite_pos h c11
    refine s_const X (by unfold InR; omega) dX12_comesAt_35 ?_
    refine s_goto (tgt := 54) X dX12_comesAt_36 (by omega) ?_
    exact s_kn rfl rfl (K7 _ h)
set_option maxRecDepth 20000 in
set_option maxHeartbeats 4000000 in
theorem L_M_stopIn (G : Gl) (run_ : Int) (call_ : Int) (m : Mem) (r : Int)  (h : M_stopIn run_ call_ m = some r) : Con SHM G yX12_stopIn cX12_stopIn 3 (some .int) rm_X12_stopIn [VR 0, VI run_, VI call_] m (((.inl (some (VI r)), m) : Res × Mem)) := by
  refine con_of (own := "LastbusModel") (by decide) rfl (Nat.le_of_ble_eq_true rfl) (fun C X => ?_)
  obtain ⟨O, hO⟩ : ∃ O : Res × Mem, O = (((.inl (some (VI r)), m) : Res × Mem)) := ⟨_, rfl⟩
  rw [← hO]
  show J SHM G rm_X12_stopIn (.inl O) C 0 0 0 [(0, VR 0), (1, VI run_), (2, VI call_)] [] m
  unfold M_stopIn at h
  obtain ⟨g1, h⟩ := grd_some h
  refine s_load0 X 0 rfl dX12_stopIn_0 ?_
  refine s_getR (id := 7) X fk_X12_33 SHM_0 rfl dX12_stopIn_1 ?_
  refine s_bipush X (by omega) dX12_stopIn_4 ?_
  refine s_iload_n X 1 rfl dX12_stopIn_6 ?_
  refine s_bipush X (by omega) dX12_stopIn_7 ?_
  refine s_irem X (by omega) dX12_stopIn_9 ?_
  refine s_imul X g1.1 dX12_stopIn_10 ?_
  refine s_iload_n X 2 rfl dX12_stopIn_11 ?_
  refine s_iadd X g1.2.1 dX12_stopIn_12 ?_
  refine s_iald X SHM_7 g1.2.2.1 g1.2.2.2 dX12_stopIn_13 ?_
  exact s_iret X (Nat.le_of_ble_eq_true rfl) (Nat.le_of_ble_eq_true rfl) (by cases h; exact hO) dX12_stopIn_14
set_option maxRecDepth 20000 in
set_option maxHeartbeats 4000000 in
theorem L_M_nowhere (G : Gl)  (m : Mem) (r : Mem)  (h : M_nowhere  m = some r) : Con SHM G yX12_nowhere cX12_nowhere 2 none rm_X12_nowhere [VR 0] m (((.inl none, r) : Res × Mem)) := by
  refine con_of (own := "LastbusModel") (by decide) rfl (Nat.le_of_ble_eq_true rfl) (fun C X => ?_)
  obtain ⟨O, hO⟩ : ∃ O : Res × Mem, O = (((.inl none, r) : Res × Mem)) := ⟨_, rfl⟩
  rw [← hO]
  show J SHM G rm_X12_nowhere (.inl O) C 0 0 0 [(0, VR 0)] [] m
  unfold M_nowhere at h
  refine s_const X (by unfold InR; omega) dX12_nowhere_0 ?_
  obtain ⟨v_, e2, h⟩ := ltv_elim h
  refine s_istore_n X e2 rfl (by omega) dX12_nowhere_1 ?_
  obtain ⟨v_4, m_4, hl12, h⟩ := bq2_some h
  obtain ⟨fu30, hl13⟩ := loop_iter hl12
  have KX9 : ∀ q9 : Int × Mem, q9 = (v_4, m_4) → J SHM G rm_X12_nowhere (.inl O) C 0 0 30 [(1, VI q9.1), (0, VR 0)] [] (q9.2) := by
    intro q9 e9
    subst e9
    show J SHM G rm_X12_nowhere (.inl O) C 0 0 30 [(1, VI v_4), (0, VR 0)] [] m_4
    exact s_vret X (Nat.le_of_ble_eq_true rfl) (Nat.le_of_ble_eq_true rfl) (by cases h; exact hO) dX12_nowhere_30
  have LP8 : ∀ (fu3 : Nat) (v_2 : Int) (m_ : Mem), iter (fun s => M_nowhere_b1 s.1 s.2) fu3 (v_2, m_) = some (v_4, m_4) → J SHM G rm_X12_nowhere (.inl O) C 0 0 2 [(1, VI v_2), (0, VR 0)] [] m_ := by
    intro fu3
    induction fu3 with
    | zero => intro v_2 m_ hn4; exact absurd hn4 (by simp [iter])
    | succ fu3 ih7 =>
      intro v_2 m_ hn4
      obtain ⟨x5, h, hc6⟩ := iter_succ hn4
      replace h : M_nowhere_b1 v_2 m_ = some x5 := h
      unfold M_nowhere_b1 at h
      refine s_iload_n X 0 rfl dX12_nowhere_2 ?_
      refine s_bipush X (by omega) dX12_nowhere_3 ?_
      refine s_icmpge_f (tgt := 30) X dX12_nowhere_5 (by omega) (fun c17 => ?_) (fun c18 => ?_)
      · replace h := ite_neg h c17
        exact KX9 _ (iter_exit h hc6)
      · replace h := ite_pos h c18
        obtain ⟨g19, h⟩ := grd_some h
        refine s_load0 X 1 rfl dX12_nowhere_8 ?_
        refine s_getR (id := 15) X fk_X12_60 SHM_0 rfl dX12_nowhere_9 ?_
        refine s_iload_n X 0 rfl dX12_nowhere_12 ?_
        refine s_ldc (z := 1000000) X (by unfold InR; omega) kc_X12_150 dX12_nowhere_13 ?_
        obtain ⟨m_2, e20, h⟩ := ltv_elim h
        refine s_iast X e20 SHM_15 g19.1 g19.2 dX12_nowhere_15 ?_
        refine s_load0 X 1 rfl dX12_nowhere_16 ?_
        refine s_getR (id := 16) X fk_X12_63 SHM_0 rfl dX12_nowhere_17 ?_
        refine s_iload_n X 0 rfl dX12_nowhere_20 ?_
        refine s_ldc (z := 1000000) X (by unfold InR; omega) kc_X12_150 dX12_nowhere_21 ?_
        obtain ⟨m_3, e22, h⟩ := ltv_elim h
        refine s_iast X e22 SHM_16 g19.1 g19.2 dX12_nowhere_23 ?_
        obtain ⟨g23, h⟩ := grd_some h
        obtain ⟨v_3, e24, h⟩ := ltv_elim h
        refine s_iinc X 0 rfl g23 e24 rfl (by omega) dX12_nowhere_24 ?_
        refine s_goto (tgt := 2) X dX12_nowhere_27 (by omega) ?_
        exact ih7 _ _ (iter_next h hc6)
  exact LP8 _ _ _ hl13
set_option maxRecDepth 20000 in
set_option maxHeartbeats 4000000 in
theorem L_M_begin (G : Gl) (from_ : Int) (minute_ : Int) (m : Mem) (r : Mem)  (h : M_begin from_ minute_ m = some r) : Con SHM G yX12_begin cX12_begin 5 none rm_X12_begin [VR 0, VI from_, VI minute_] m (((.inl none, r) : Res × Mem)) := by
  refine con_of (own := "LastbusModel") (by decide) rfl (Nat.le_of_ble_eq_true rfl) (fun C X => ?_)
  obtain ⟨O, hO⟩ : ∃ O : Res × Mem, O = (((.inl none, r) : Res × Mem)) := ⟨_, rfl⟩
  rw [← hO]
  show J SHM G rm_X12_begin (.inl O) C 0 0 0 [(0, VR 0), (1, VI from_), (2, VI minute_)] [] m
  unfold M_begin at h
  refine s_load0 X 0 rfl dX12_begin_0 ?_
  obtain ⟨m_, hq2, h⟩ := bnd_some h
  refine s_callV (As := []) X cw_X12_201 SHM_0 rfl dX12_begin_1 (L_M_nowhere G m m_ hq2) rfl ⟨Nat.le_of_ble_eq_true rfl, Nat.le_of_ble_eq_true rfl⟩ ⟨Nat.le_of_ble_eq_true rfl, Nat.le_of_ble_eq_true rfl⟩ (Nat.le_of_ble_eq_true rfl) noT (kkU ?_)
  refine s_const X (by unfold InR; omega) dX12_begin_4 ?_
  obtain ⟨v_, e6, h⟩ := ltv_elim h
  refine s_istore_n X e6 rfl (by omega) dX12_begin_5 ?_
  obtain ⟨v_4, m_4, hl16, h⟩ := bq2_some h
  obtain ⟨fu70, hl17⟩ := loop_iter hl16
  have KX13 : ∀ q9 : Int × Mem, q9 = (v_4, m_4) → J SHM G rm_X12_begin (.inl O) C 0 0 55 [(3, VI q9.1), (0, VR 0), (1, VI from_), (2, VI minute_)] [] (q9.2) := by
    intro q9 e9
    subst e9
    show J SHM G rm_X12_begin (.inl O) C 0 0 55 [(3, VI v_4), (0, VR 0), (1, VI from_), (2, VI minute_)] [] m_4
    exact s_vret X (Nat.le_of_ble_eq_true rfl) (Nat.le_of_ble_eq_true rfl) (by cases h; exact hO) dX12_begin_55
  have LP12 : ∀ (fu7 : Nat) (v_2 : Int) (m_2 : Mem), iter (fun s => M_begin_b1 from_ minute_ s.1 s.2) fu7 (v_2, m_2) = some (v_4, m_4) → J SHM G rm_X12_begin (.inl O) C 0 0 6 [(3, VI v_2), (0, VR 0), (1, VI from_), (2, VI minute_)] [] m_2 := by
    intro fu7
    induction fu7 with
    | zero => intro v_2 m_2 hn8; exact absurd hn8 (by simp [iter])
    | succ fu7 ih11 =>
      intro v_2 m_2 hn8
      obtain ⟨x9, h, hc10⟩ := iter_succ hn8
      replace h : M_begin_b1 from_ minute_ v_2 m_2 = some x9 := h
      unfold M_begin_b1 at h
      refine s_iload_n X 0 rfl dX12_begin_6 ?_
      refine s_load0 X 1 rfl dX12_begin_7 ?_
      refine s_getI X fk_X12_123 SHM_0 rfl dX12_begin_8 ?_
      refine s_icmpge_f (tgt := 55) X dX12_begin_11 (by omega) (fun c21 => ?_) (fun c22 => ?_)
      · replace h := ite_neg h c21
        exact KX13 _ (iter_exit h hc10)
      · replace h := ite_pos h c22
        obtain ⟨g23, h⟩ := grd_some h
        refine s_iload_n X 3 rfl dX12_begin_14 ?_
        refine s_load0 X 1 rfl dX12_begin_15 ?_
        refine s_getR (id := 3) X fk_X12_16 SHM_0 rfl dX12_begin_16 ?_
        refine s_bipush X (by omega) dX12_begin_19 ?_
        refine s_iload_n X 2 rfl dX12_begin_21 ?_
        refine s_imul X g23.1 dX12_begin_22 ?_
        refine s_iload_n X 0 rfl dX12_begin_23 ?_
        refine s_iadd X g23.2.1 dX12_begin_24 ?_
        refine s_iald X SHM_3 g23.2.2.1 g23.2.2.2.1 dX12_begin_25 ?_
        refine s_iadd X g23.2.2.2.2 dX12_begin_26 ?_
        obtain ⟨time_, e24, h⟩ := ltv_elim h
        refine s_istore X e24 rfl (by omega) dX12_begin_27 ?_
        obtain ⟨g25, h⟩ := grd_some h
        refine s_load0 X 2 rfl dX12_begin_29 ?_
        refine s_getR (id := 15) X fk_X12_60 SHM_0 rfl dX12_begin_30 ?_
        refine s_iload_n X 1 rfl dX12_begin_33 ?_
        have kM26 : J SHM G rm_X12_begin (.inl O) C 0 0 48 [(4, VI time_), (3, VI v_2), (0, VR 0), (1, VI from_), (2, VI minute_)] [VI (if time_ < 1000000 then time_ else 1000000), VI v_2, VR 15] m_2 := by
          obtain ⟨m_3, e29, h⟩ := ltv_elim h
          refine s_iast X e29 SHM_15 g25.1 g25.2 dX12_begin_48 ?_
          obtain ⟨g30, h⟩ := grd_some h
          obtain ⟨v_3, e31, h⟩ := ltv_elim h
          refine s_iinc X 1 rfl g30 e31 rfl (by omega) dX12_begin_49 ?_
          refine s_goto (tgt := 6) X dX12_begin_52 (by omega) ?_
          refine s_loc [0, 2, 3, 4] rfl ?_
          exact ih11 _ _ (iter_next h hc10)
        refine s_iload X 0 rfl dX12_begin_34 ?_
        refine s_ldc (z := 1000000) X (by unfold InR; omega) kc_X12_150 dX12_begin_36 ?_
        refine s_icmpge_f (tgt := 46) X dX12_begin_38 (by omega) (fun c27 => ?_) (fun c28 => ?_)
        · refine s_ldc (z := 1000000) X (by unfold InR; omega) kc_X12_150 dX12_begin_46 ?_
          exact s_eqt (if_neg c27) kM26
        · refine s_iload X 0 rfl dX12_begin_41 ?_
          refine s_goto (tgt := 48) X dX12_begin_43 (by omega) ?_
          exact s_eqt (if_pos c28) kM26
  exact LP12 _ _ _ hl17
set_option maxRecDepth 20000 in
set_option maxHeartbeats 4000000 in
theorem L_M_getsOn (G : Gl) (stop_ : Int) (time_ : Int) (m : Mem) (r : Int)  (h : M_getsOn stop_ time_ m = some r) : Con SHM G yX12_getsOn cX12_getsOn 3 (some .boolean) rm_X12_getsOn [VR 0, VI stop_, VI time_] m (((.inl (some (VI r)), m) : Res × Mem)) := by
  refine con_of (own := "LastbusModel") (by decide) rfl (Nat.le_of_ble_eq_true rfl) (fun C X => ?_)
  obtain ⟨O, hO⟩ : ∃ O : Res × Mem, O = (((.inl (some (VI r)), m) : Res × Mem)) := ⟨_, rfl⟩
  rw [← hO]
  show J SHM G rm_X12_getsOn (.inl O) C 0 0 0 [(0, VR 0), (1, VI stop_), (2, VI time_)] [] m
  unfold M_getsOn at h
  obtain ⟨g1, h⟩ := grd_some h
  have kM2 : J SHM G rm_X12_getsOn (.inl O) C 0 0 44 [(0, VR 0), (1, VI stop_), (2, VI time_)] [VI (if ((0 ≤ time_) ∧ (¬ stop_ = m 0 5)) ∧ ((m 15 stop_.toNat ≤ time_) ∨ (m 16 stop_.toNat + m 1 stop_.toNat ≤ time_)) then 1 else 0)] m := by
    exact s_zret X okT_ite (Nat.le_of_ble_eq_true rfl) (Nat.le_of_ble_eq_true rfl) (by cases h; exact hO) dX12_getsOn_44
  refine s_iload_n X 2 rfl dX12_getsOn_0 ?_
  refine s_iflt_f (tgt := 43) X dX12_getsOn_1 (by omega) (fun c3 => ?_) (fun c4 => ?_)
  · refine s_const X (by unfold InR; omega) dX12_getsOn_43 ?_
    exact s_eqt (if_neg (fun q => (fun q => c3 q.1) q.1)) kM2
  · have a5 : 0 ≤ time_ := c4
    refine s_iload_n X 1 rfl dX12_getsOn_4 ?_
    refine s_load0 X 0 rfl dX12_getsOn_5 ?_
    refine s_getI X fk_X12_19 SHM_0 rfl dX12_getsOn_6 ?_
    refine s_icmpeq_f (tgt := 43) X dX12_getsOn_9 (by omega) (fun c6 => ?_) (fun c7 => ?_)
    · refine s_const X (by unfold InR; omega) dX12_getsOn_43 ?_
      exact s_eqt (if_neg (fun q => (fun q => c6 q.2) q.1)) kM2
    · have a8 : (0 ≤ time_) ∧ (¬ stop_ = m 0 5) := ⟨a5, c7⟩
      refine s_load0 X 0 rfl dX12_getsOn_12 ?_
      refine s_getR (id := 15) X fk_X12_60 SHM_0 rfl dX12_getsOn_13 ?_
      refine s_iload_n X 1 rfl dX12_getsOn_16 ?_
      refine s_iald X SHM_15 (g1.1 a8) (g1.2.1 a8) dX12_getsOn_17 ?_
      refine s_iload_n X 2 rfl dX12_getsOn_18 ?_
      refine s_icmple_t (tgt := 39) X dX12_getsOn_19 (by omega) (fun c9 => ?_) (fun c10 => ?_)
      · refine s_const X (by unfold InR; omega) dX12_getsOn_39 ?_
        refine s_goto (tgt := 44) X dX12_getsOn_40 (by omega) ?_
        exact s_eqt (if_pos ⟨a8, (Or.inl c9)⟩) kM2
      · have a11 : ¬ (m 15 stop_.toNat ≤ time_) := c10
        refine s_load0 X 0 rfl dX12_getsOn_22 ?_
        refine s_getR (id := 16) X fk_X12_63 SHM_0 rfl dX12_getsOn_23 ?_
        refine s_iload_n X 1 rfl dX12_getsOn_26 ?_
        refine s_iald X SHM_16 (g1.2.2.1 a8 a11) (g1.2.2.2.1 a8 a11) dX12_getsOn_27 ?_
        refine s_load0 X 0 rfl dX12_getsOn_28 ?_
        refine s_getR (id := 1) X fk_X12_9 SHM_0 rfl dX12_getsOn_29 ?_
        refine s_iload_n X 1 rfl dX12_getsOn_32 ?_
        refine s_iald X SHM_1 (g1.2.2.1 a8 a11) (g1.2.2.2.1 a8 a11) dX12_getsOn_33 ?_
        refine s_iadd X (g1.2.2.2.2 a8 a11) dX12_getsOn_34 ?_
        refine s_iload_n X 2 rfl dX12_getsOn_35 ?_
        refine s_icmpgt_f (tgt := 43) X dX12_getsOn_36 (by omega) (fun c12 => ?_) (fun c13 => ?_)
        · refine s_const X (by unfold InR; omega) dX12_getsOn_43 ?_
          exact s_eqt (if_neg (fun q => (fun q => q.elim a11 c12) q.2)) kM2
        · refine s_const X (by unfold InR; omega) dX12_getsOn_39 ?_
          refine s_goto (tgt := 44) X dX12_getsOn_40 (by omega) ?_
          exact s_eqt (if_pos ⟨a8, (Or.inr c13)⟩) kM2
set_option maxRecDepth 20000 in
set_option maxHeartbeats 4000000 in
theorem L_M_getsOff (G : Gl) (stop_ : Int) (time_ : Int) (m : Mem) (r : Mem)  (h : M_getsOff stop_ time_ m = some r) : Con SHM G yX12_getsOff cX12_getsOff 5 none rm_X12_getsOff [VR 0, VI stop_, VI time_] m (((.inl none, r) : Res × Mem)) := by
  refine con_of (own := "LastbusModel") (by decide) rfl (Nat.le_of_ble_eq_true rfl) (fun C X => ?_)
  obtain ⟨O, hO⟩ : ∃ O : Res × Mem, O = (((.inl none, r) : Res × Mem)) := ⟨_, rfl⟩
  rw [← hO]
  show J SHM G rm_X12_getsOff (.inl O) C 0 0 0 [(0, VR 0), (1, VI stop_), (2, VI time_)] [] m
  unfold M_getsOff at h
  obtain ⟨g1, h⟩ := grd_some h
  have kT2 : (stop_ = m 0 5) ∨ (m 16 stop_.toNat ≤ time_) → J SHM G rm_X12_getsOff (.inl O) C 0 0 18 [(0, VR 0), (1, VI stop_), (2, VI time_)] [] m := by
    intro c6
    replace h := ite_pos h c6
    exact s_vret X (Nat.le_of_ble_eq_true rfl) (Nat.le_of_ble_eq_true rfl) (by cases h; exact hO) dX12_getsOff_18
  refine s_iload_n X 1 rfl dX12_getsOff_0 ?_
  refine s_load0 X 0 rfl dX12_getsOff_1 ?_
  refine s_getI X fk_X12_19 SHM_0 rfl dX12_getsOff_2 ?_
  refine s_icmpeq_t (tgt := 18) X dX12_getsOff_5 (by omega) (fun c4 => ?_) (fun c5 => ?_)
  · exact kT2 (Or.inl c4)
  · have a7 : ¬ (stop_ = m 0 5) := c5
    refine s_iload_n X 2 rfl dX12_getsOff_8 ?_
    refine s_load0 X 0 rfl dX12_getsOff_9 ?_
    refine s_getR (id := 16) X fk_X12_63 SHM_0 rfl dX12_getsOff_10 ?_
    refine s_iload_n X 1 rfl dX12_getsOff_13 ?_
    refine s_iald X SHM_16 (g1.1 a7) (g1.2 a7) dX12_getsOff_14 ?_
    refine s_icmplt_f (tgt := 19) X dX12_getsOff_15 (by omega) (fun c8 => ?_) (fun c9 => ?_)
    · replace h := ite_neg h (fun q => q.elim a7 c8)
      obtain ⟨g10, h⟩ := grd_some h
      refine s_load0 X 0 rfl dX12_getsOff_19 ?_
      refine s_getR (id := 16) X fk_X12_63 SHM_0 rfl dX12_getsOff_20 ?_
      refine s_iload_n X 1 rfl dX12_getsOff_23 ?_
      refine s_iload_n X 2 rfl dX12_getsOff_24 ?_
      obtain ⟨m_, e11, h⟩ := ltv_elim h
      refine s_iast X e11 SHM_16 g10.1 g10.2 dX12_getsOff_25 ?_
      refine s_load0 X 0 rfl dX12_getsOff_26 ?_
      refine s_const X (by unfold InR; omega) dX12_getsOff_27 ?_
      obtain ⟨m_2, e13, h⟩ := ltv_elim h
      refine s_putI X e13 fp_X12_204 SHM_0 rfl (Or.inr rfl) dX12_getsOff_28 ?_
      refine s_const X (by unfold InR; omega) dX12_getsOff_31 ?_
      obtain ⟨v_, e15, h⟩ := ltv_elim h
      refine s_istore_n X e15 rfl (by omega) dX12_getsOff_32 ?_
      obtain ⟨v_5, m_5, hl25, h⟩ := bq2_some h
      obtain ⟨fu160, hl26⟩ := loop_iter hl25
      have KX22 : ∀ q9 : Int × Mem, q9 = (v_5, m_5) → J SHM G rm_X12_getsOff (.inl O) C 0 0 86 [(3, VI q9.1), (0, VR 0), (1, VI stop_), (2, VI time_)] [] (q9.2) := by
        intro q9 e9
        subst e9
        show J SHM G rm_X12_getsOff (.inl O) C 0 0 86 [(3, VI v_5), (0, VR 0), (1, VI stop_), (2, VI time_)] [] m_5
        exact s_vret X (Nat.le_of_ble_eq_true rfl) (Nat.le_of_ble_eq_true rfl) (by cases h; exact hO) dX12_getsOff_86
      have LP21 : ∀ (fu16 : Nat) (v_2 : Int) (m_3 : Mem), iter (fun s => M_getsOff_b1 stop_ time_ s.1 s.2) fu16 (v_2, m_3) = some (v_5, m_5) → J SHM G rm_X12_getsOff (.inl O) C 0 0 33 [(3, VI v_2), (0, VR 0), (1, VI stop_), (2, VI time_)] [] m_3 := by
        intro fu16
        induction fu16 with
        | zero => intro v_2 m_3 hn17; exact absurd hn17 (by simp [iter])
        | succ fu16 ih20 =>
          intro v_2 m_3 hn17
          obtain ⟨x18, h, hc19⟩ := iter_succ hn17
          replace h : M_getsOff_b1 stop_ time_ v_2 m_3 = some x18 := h
          unfold M_getsOff_b1 at h
          refine s_iload_n X 0 rfl dX12_getsOff_33 ?_
          refine s_load0 X 1 rfl dX12_getsOff_34 ?_
          refine s_getI X fk_X12_123 SHM_0 rfl dX12_getsOff_35 ?_
          refine s_icmpge_f (tgt := 86) X dX12_getsOff_38 (by omega) (fun c30 => ?_) (fun c31 => ?_)
          · replace h := ite_neg h c30
            exact KX22 _ (iter_exit h hc19)
          · replace h := ite_pos h c31
            obtain ⟨g32, h⟩ := grd_some h
            refine s_iload_n X 3 rfl dX12_getsOff_41 ?_
            refine s_load0 X 1 rfl dX12_getsOff_42 ?_
            refine s_getR (id := 3) X fk_X12_16 SHM_0 rfl dX12_getsOff_43 ?_
            refine s_bipush X (by omega) dX12_getsOff_46 ?_
            refine s_iload_n X 2 rfl dX12_getsOff_48 ?_
            refine s_imul X g32.1 dX12_getsOff_49 ?_
            refine s_iload_n X 0 rfl dX12_getsOff_50 ?_
            refine s_iadd X g32.2.1 dX12_getsOff_51 ?_
            refine s_iald X SHM_3 g32.2.2.1 g32.2.2.2.1 dX12_getsOff_52 ?_
            refine s_iadd X g32.2.2.2.2 dX12_getsOff_53 ?_
            obtain ⟨walked_, e33, h⟩ := ltv_elim h
            refine s_istore X e33 rfl (by omega) dX12_getsOff_54 ?_
            obtain ⟨g34, h⟩ := grd_some h
            have kF36 : ¬ ((¬ v_2 = stop_) ∧ (walked_ < m_3 15 v_2.toNat)) → J SHM G rm_X12_getsOff (.inl O) C 0 0 80 [(4, VI walked_), (3, VI v_2), (0, VR 0), (1, VI stop_), (2, VI time_)] [] m_3 := by
              intro c41
              replace h := ite_neg h c41
              obtain ⟨g39, h⟩ := grd_some h
              obtain ⟨v_3, e40, h⟩ := ltv_elim h
              refine s_iinc X 1 rfl g39 e40 rfl (by omega) dX12_getsOff_80 ?_
              refine s_goto (tgt := 33) X dX12_getsOff_83 (by omega) ?_
              refine s_loc [0, 2, 3, 4] rfl ?_
              exact ih20 _ _ (iter_next h hc19)
            refine s_iload_n X 1 rfl dX12_getsOff_56 ?_
            refine s_iload_n X 3 rfl dX12_getsOff_57 ?_
            refine s_icmpeq_f (tgt := 80) X dX12_getsOff_58 (by omega) (fun c37 => ?_) (fun c38 => ?_)
            · exact kF36 (fun q => c37 q.1)
            · have a42 : ¬ v_2 = stop_ := c38
              refine s_iload X 0 rfl dX12_getsOff_61 ?_
              refine s_load0 X 2 rfl dX12_getsOff_63 ?_
              refine s_getR (id := 15) X fk_X12_60 SHM_0 rfl dX12_getsOff_64 ?_
              refine s_iload_n X 1 rfl dX12_getsOff_67 ?_
              refine s_iald X SHM_15 (g34.1 a42) (g34.2 a42) dX12_getsOff_68 ?_
              refine s_icmpge_f (tgt := 80) X dX12_getsOff_69 (by omega) (fun c43 => ?_) (fun c44 => ?_)
              · exact kF36 (fun q => c43 q.2)
              · replace h := ite_pos h ⟨a42, c44⟩
                obtain ⟨g45, h⟩ := grd_some h
                refine s_load0 X 2 rfl dX12_getsOff_72 ?_
                refine s_getR (id := 15) X fk_X12_60 SHM_0 rfl dX12_getsOff_73 ?_
                refine s_iload_n X 1 rfl dX12_getsOff_76 ?_
                refine s_iload X 0 rfl dX12_getsOff_77 ?_
                obtain ⟨m_4, e46, h⟩ := ltv_elim h
                refine s_iast X e46 SHM_15 g45.1 g45.2 dX12_getsOff_79 ?_
                obtain ⟨g47, h⟩ := grd_some h
                obtain ⟨v_4, e48, h⟩ := ltv_elim h
                refine s_iinc X 1 rfl g47 e48 rfl (by omega) dX12_getsOff_80 ?_
                refine s_goto (tgt := 33) X dX12_getsOff_83 (by omega) ?_
                refine s_loc [0, 2, 3, 4] rfl ?_
                exact ih20 _ _ (iter_next h hc19)
      exact LP21 _ _ _ hl26
    · exact kT2 (Or.inr c9)
set_option maxRecDepth 20000 in
set_option maxHeartbeats 4000000 in
theorem L_M_rideOn (G : Gl) (run_ : Int) (m : Mem) (r : Mem)  (h : M_rideOn run_ m = some r) : Con SHM G yX12_rideOn cX12_rideOn 4 none rm_X12_rideOn [VR 0, VI run_] m (((.inl none, r) : Res × Mem)) := by
  refine con_of (own := "LastbusModel") (by decide) rfl (Nat.le_of_ble_eq_true rfl) (fun C X => ?_)
  obtain ⟨O, hO⟩ : ∃ O : Res × Mem, O = (((.inl none, r) : Res × Mem)) := ⟨_, rfl⟩
  rw [← hO]
  show J SHM G rm_X12_rideOn (.inl O) C 0 0 0 [(0, VR 0), (1, VI run_)] [] m
  unfold M_rideOn at h
  refine s_const X (by unfold InR; omega) dX12_rideOn_0 ?_
  obtain ⟨isOn_, e2, h⟩ := ltv_elim h
  refine s_istore_n X e2 rfl (by omega) dX12_rideOn_1 ?_
  refine s_const X (by unfold InR; omega) dX12_rideOn_2 ?_
  obtain ⟨c_, e4, h⟩ := ltv_elim h
  refine s_istore_n X e4 rfl (by omega) dX12_rideOn_3 ?_
  obtain ⟨isOn_4, c_4, m_4, hl14, h⟩ := bq3_some h
  obtain ⟨fu50, hl15⟩ := loop_iter hl14
  have KX11 : ∀ q9 : Int × Int × Mem, q9 = (isOn_4, c_4, m_4) → J SHM G rm_X12_rideOn (.inl O) C 0 0 72 [(3, VI q9.2.1), (2, VI q9.1), (0, VR 0), (1, VI run_)] [] (q9.2.2) := by
    intro q9 e9
    subst e9
    show J SHM G rm_X12_rideOn (.inl O) C 0 0 72 [(3, VI c_4), (2, VI isOn_4), (0, VR 0), (1, VI run_)] [] m_4
    exact s_vret X (Nat.le_of_ble_eq_true rfl) (Nat.le_of_ble_eq_true rfl) (by cases h; exact hO) dX12_rideOn_72
  have LP10 : ∀ (fu5 : Nat) (isOn_2 : Int) (c_2 : Int) (m_ : Mem), iter (fun s => M_rideOn_b1 run_ s.1 s.2.1 s.2.2) fu5 (isOn_2, c_2, m_) = some (isOn_4, c_4, m_4) → J SHM G rm_X12_rideOn (.inl O) C 0 0 4 [(3, VI c_2), (2, VI isOn_2), (0, VR 0), (1, VI run_)] [] m_ := by
    intro fu5
    induction fu5 with
    | zero => intro isOn_2 c_2 m_ hn6; exact absurd hn6 (by simp [iter])
    | succ fu5 ih9 =>
      intro isOn_2 c_2 m_ hn6
      obtain ⟨x7, h, hc8⟩ := iter_succ hn6
      replace h : M_rideOn_b1 run_ isOn_2 c_2 m_ = some x7 := h
      unfold M_rideOn_b1 at h
      obtain ⟨g16, h⟩ := grd_some h
      refine s_iload_n X 0 rfl dX12_rideOn_4 ?_
      refine s_load0 X 2 rfl dX12_rideOn_5 ?_
      refine s_getR (id := 6) X fk_X12_30 SHM_0 rfl dX12_rideOn_6 ?_
      refine s_iload_n X 3 rfl dX12_rideOn_9 ?_
      refine s_bipush X (by omega) dX12_rideOn_10 ?_
      refine s_irem X (by omega) dX12_rideOn_12 ?_
      refine s_iald X SHM_6 g16.1 g16.2 dX12_rideOn_13 ?_
      refine s_icmpge_f (tgt := 72) X dX12_rideOn_14 (by omega) (fun c19 => ?_) (fun c20 => ?_)
      · replace h := ite_neg h c19
        exact KX11 _ (iter_exit h hc8)
      · replace h := ite_pos h c20
        obtain ⟨kj_, hk21, h⟩ := ltv_elim h
        have K22 : ∀ (m_2 : Mem), kj_ m_2 = some x7 → J SHM G rm_X12_rideOn (.inl O) C 0 0 37 [(3, VI c_2), (2, VI isOn_2), (0, VR 0), (1, VI run_)] [] m_2 := by
          intro m_2 h
          subst hk21
          dsimp only at h
          obtain ⟨kj_2, hk39, h⟩ := ltv_elim h
          have K40 : ∀ (v_ : Int), kj_2 v_ = some x7 → J SHM G rm_X12_rideOn (.inl O) C 0 0 65 [(3, VI c_2), (2, VI isOn_2), (0, VR 0), (1, VI run_)] [VI v_] m_2 := by
            intro v_ h
            subst hk39
            dsimp only at h
            obtain ⟨isOn_3, e61, h⟩ := ltv_elim h
            refine s_istore_n X e61 rfl (by omega) dX12_rideOn_65 ?_
            obtain ⟨g62, h⟩ := grd_some h
            obtain ⟨c_3, e63, h⟩ := ltv_elim h
            refine s_iinc X 1 rfl g62 e63 rfl (by omega) dX12_rideOn_66 ?_
            refine s_goto (tgt := 4) X dX12_rideOn_69 (by omega) ?_
            exact ih9 _ _ _ (iter_next h hc8)
          refine s_iload_n X 1 rfl dX12_rideOn_37 ?_
          refine s_ifne_t (tgt := 60) X dX12_rideOn_38 (by omega) (fun c43 => ?_) (fun c44 => ?_)
          · replace h := ite_pos h c43
            refine s_const X (by unfold InR; omega) dX12_rideOn_60 ?_
            refine s_goto (tgt := 65) X dX12_rideOn_61 (by omega) ?_
            exact s_kn rfl rfl (K40 _ h)
          · replace h := ite_neg h c44
            refine s_load0 X 2 rfl dX12_rideOn_41 ?_
            refine s_load0 X 2 rfl dX12_rideOn_42 ?_
            refine s_iload_n X 3 rfl dX12_rideOn_43 ?_
            refine s_iload_n X 0 rfl dX12_rideOn_44 ?_
            obtain ⟨r_3, hq47, h⟩ := bnd_some h
            refine s_callV (As := [VI run_, VI c_2]) X cw_X12_214 SHM_0 rfl dX12_rideOn_45 (L_M_stopIn G run_ c_2 m_2 r_3 hq47) rfl ⟨Nat.le_of_ble_eq_true rfl, Nat.le_of_ble_eq_true rfl⟩ ⟨Nat.le_of_ble_eq_true rfl, Nat.le_of_ble_eq_true rfl⟩ (Nat.le_of_ble_eq_true rfl) noT (kkR ?_)
            refine s_load0 X 2 rfl dX12_rideOn_48 ?_
            refine s_iload_n X 3 rfl dX12_rideOn_49 ?_
            refine s_iload_n X 0 rfl dX12_rideOn_50 ?_
            obtain ⟨r_4, hq50, h⟩ := bnd_some h
            refine s_callV (As := [VI run_, VI c_2]) X cw_X12_223 SHM_0 rfl dX12_rideOn_51 (L_M_leavesAt G run_ c_2 m_2 r_4 hq50) rfl ⟨Nat.le_of_ble_eq_true rfl, Nat.le_of_ble_eq_true rfl⟩ ⟨Nat.le_of_ble_eq_true rfl, Nat.le_of_ble_eq_true rfl⟩ (Nat.le_of_ble_eq_true rfl) noT (kkR ?_)
            obtain ⟨r_5, hq53, h⟩ := bnd_some h
            refine s_callV (As := [VI r_3, VI r_4]) X cw_X12_226 SHM_0 rfl dX12_rideOn_54 (L_M_getsOn G r_3 r_4 m_2 r_5 hq53) rfl ⟨Nat.le_of_ble_eq_true rfl, Nat.le_of_ble_eq_true rfl⟩ ⟨Nat.le_of_ble_eq_true rfl, Nat.le_of_ble_eq_true rfl⟩ (Nat.le_of_ble_eq_true rfl) noT (kkR ?_)
            refine s_ifeq_f (tgt := 64) X dX12_rideOn_57 (by omega) (fun c56 => ?_) (fun c57 => ?_)
            · replace h := ite_neg h c56
              refine s_const X (by unfold InR; omega) dX12_rideOn_64 ?_
              exact s_kn rfl rfl (K40 _ h)
            · replace h := ite_pos h c57
              refine s_const X (by unfold InR; omega) dX12_rideOn_60 ?_
              refine s_goto (tgt := 65) X dX12_rideOn_61 (by omega) ?_
              exact s_kn rfl rfl (K40 _ h)
        refine s_iload_n X 1 rfl dX12_rideOn_17 ?_
        refine s_ifeq_f (tgt := 37) X dX12_rideOn_18 (by omega) (fun c26 => ?_) (fun c27 => ?_)
        · replace h := ite_neg h c26
          exact s_kn rfl rfl (K22 _ h)
        · replace h := ite_pos h c27
          refine s_load0 X 2 rfl dX12_rideOn_21 ?_
          refine s_load0 X 2 rfl dX12_rideOn_22 ?_
          refine s_iload_n X 3 rfl dX12_rideOn_23 ?_
          refine s_iload_n X 0 rfl dX12_rideOn_24 ?_
          obtain ⟨r_, hq29, h⟩ := bnd_some h
          refine s_callV (As := [VI run_, VI c_2]) X cw_X12_214 SHM_0 rfl dX12_rideOn_25 (L_M_stopIn G run_ c_2 m_ r_ hq29) rfl ⟨Nat.le_of_ble_eq_true rfl, Nat.le_of_ble_eq_true rfl⟩ ⟨Nat.le_of_ble_eq_true rfl, Nat.le_of_ble_eq_true rfl⟩ (Nat.le_of_ble_eq_true rfl) noT (kkR ?_)
          refine s_load0 X 2 rfl dX12_rideOn_28 ?_
          refine s_iload_n X 3 rfl dX12_rideOn_29 ?_
          refine s_iload_n X 0 rfl dX12_rideOn_30 ?_
          obtain ⟨r_2, hq32, h⟩ := bnd_some h
          refine s_callV (As := [VI run_, VI c_2]) X cw_X12_217 SHM_0 rfl dX12_rideOn_31 (L_M_comesAt G run_ c_2 m_ r_2 hq32) rfl ⟨Nat.le_of_ble_eq_true rfl, Nat.le_of_ble_eq_true rfl⟩ ⟨Nat.le_of_ble_eq_true rfl, Nat.le_of_ble_eq_true rfl⟩ (Nat.le_of_ble_eq_true rfl) noT (kkR ?_)
          obtain ⟨m_3, hq35, h⟩ := bnd_some h
          refine s_callV (As := [VI r_, VI r_2]) X cw_X12_220 SHM_0 rfl dX12_rideOn_34 (L_M_getsOff G r_ r_2 m_ m_3 hq35) rfl ⟨Nat.le_of_ble_eq_true rfl, Nat.le_of_ble_eq_true rfl⟩ ⟨Nat.le_of_ble_eq_true rfl, Nat.le_of_ble_eq_true rfl⟩ (Nat.le_of_ble_eq_true rfl) noT (kkU ?_)
          exact s_kn rfl rfl (K22 _ h)
  exact LP10 _ _ _ _ hl15
set_option maxRecDepth 20000 in
set_option maxHeartbeats 4000000 in
theorem L_M_settle (G : Gl)  (m : Mem) (r : Mem)  (h : M_settle  m = some r) : Con SHM G yX12_settle cX12_settle 2 none rm_X12_settle [VR 0] m (((.inl none, r) : Res × Mem)) := by
  refine con_of (own := "LastbusModel") (by decide) rfl (Nat.le_of_ble_eq_true rfl) (fun C X => ?_)
  obtain ⟨O, hO⟩ : ∃ O : Res × Mem, O = (((.inl none, r) : Res × Mem)) := ⟨_, rfl⟩
  rw [← hO]
  show J SHM G rm_X12_settle (.inl O) C 0 0 0 [(0, VR 0)] [] m
  unfold M_settle at h
  refine s_load0 X 0 rfl dX12_settle_0 ?_
  refine s_const X (by unfold InR; omega) dX12_settle_1 ?_
  obtain ⟨m_, e2, h⟩ := ltv_elim h
  refine s_putI X e2 fp_X12_204 SHM_0 rfl (Or.inr rfl) dX12_settle_2 ?_
  obtain ⟨m_7, hl12, h⟩ := bq1_some h
  obtain ⟨fu30, hl13⟩ := loop_iter hl12
  have KX9 : ∀ q9 : Mem, q9 = m_7 → J SHM G rm_X12_settle (.inl O) C 0 0 47 [(0, VR 0)] [] q9 := by
    intro q9 e9
    rw [e9]
    show J SHM G rm_X12_settle (.inl O) C 0 0 47 [(0, VR 0)] [] m_7
    exact s_vret X (Nat.le_of_ble_eq_true rfl) (Nat.le_of_ble_eq_true rfl) (by cases h; exact hO) dX12_settle_47
  have LP8 : ∀ (fu3 : Nat) (m_2 : Mem), iter (fun s => M_settle_b1 s) fu3 m_2 = some m_7 → J SHM G rm_X12_settle (.inl O) C 0 0 5 [(0, VR 0)] [] m_2 := by
    intro fu3
    induction fu3 with
    | zero => intro m_2 hn4; exact absurd hn4 (by simp [iter])
    | succ fu3 ih7 =>
      intro m_2 hn4
      obtain ⟨x5, h, hc6⟩ := iter_succ hn4
      replace h : M_settle_b1 m_2 = some x5 := h
      unfold M_settle_b1 at h
      refine s_load0 X 0 rfl dX12_settle_5 ?_
      refine s_getI X fk_X12_204 SHM_0 rfl dX12_settle_6 ?_
      refine s_ifeq_f (tgt := 47) X dX12_settle_9 (by omega) (fun c17 => ?_) (fun c18 => ?_)
      · replace h := ite_neg h c17
        exact KX9 _ (iter_exit h hc6)
      · replace h := ite_pos h c18
        refine s_load0 X 0 rfl dX12_settle_12 ?_
        refine s_const X (by unfold InR; omega) dX12_settle_13 ?_
        obtain ⟨m_3, e20, h⟩ := ltv_elim h
        refine s_putI X e20 fp_X12_204 SHM_0 rfl (Or.inl rfl) dX12_settle_14 ?_
        refine s_const X (by unfold InR; omega) dX12_settle_17 ?_
        obtain ⟨run_, e22, h⟩ := ltv_elim h
        refine s_istore_n X e22 rfl (by omega) dX12_settle_18 ?_
        obtain ⟨run_5, m_6, hl32, h⟩ := bq2_some h
        obtain ⟨fu230, hl33⟩ := loop_iter hl32
        have KX29 : ∀ q9 : Int × Mem, q9 = (run_5, m_6) → J SHM G rm_X12_settle (.inl O) C 0 0 44 [(1, VI q9.1), (0, VR 0)] [] (q9.2) := by
          intro q9 e9
          subst e9
          show J SHM G rm_X12_settle (.inl O) C 0 0 44 [(1, VI run_5), (0, VR 0)] [] m_6
          refine s_goto (tgt := 5) X dX12_settle_44 (by omega) ?_
          refine s_loc [1] rfl ?_
          exact ih7 _ (iter_next h hc6)
        have LP28 : ∀ (fu23 : Nat) (run_2 : Int) (m_4 : Mem), iter (fun s => M_settle_b2 s.1 s.2) fu23 (run_2, m_4) = some (run_5, m_6) → J SHM G rm_X12_settle (.inl O) C 0 0 19 [(1, VI run_2), (0, VR 0)] [] m_4 := by
          intro fu23
          induction fu23 with
          | zero => intro run_2 m_4 hn24; exact absurd hn24 (by simp [iter])
          | succ fu23 ih27 =>
            intro run_2 m_4 hn24
            obtain ⟨x25, h, hc26⟩ := iter_succ hn24
            replace h : M_settle_b2 run_2 m_4 = some x25 := h
            unfold M_settle_b2 at h
            refine s_iload_n X 0 rfl dX12_settle_19 ?_
            refine s_bipush X (by omega) dX12_settle_20 ?_
            refine s_icmpge_f (tgt := 44) X dX12_settle_22 (by omega) (fun c37 => ?_) (fun c38 => ?_)
            · replace h := ite_neg h c37
              exact KX29 _ (iter_exit h hc26)
            · replace h := ite_pos h c38
              refine s_load0 X 1 rfl dX12_settle_25 ?_
              refine s_iload_n X 0 rfl dX12_settle_26 ?_
              obtain ⟨r_, hq40, h⟩ := bnd_some h
              refine s_callV (As := [VI run_2]) X cw_X12_208 SHM_0 rfl dX12_settle_27 (L_M_isRun G run_2 m_4 r_ hq40) rfl ⟨Nat.le_of_ble_eq_true rfl, Nat.le_of_ble_eq_true rfl⟩ ⟨Nat.le_of_ble_eq_true rfl, Nat.le_of_ble_eq_true rfl⟩ (Nat.le_of_ble_eq_true rfl) noT (kkR ?_)
              refine s_ifeq_f (tgt := 38) X dX12_settle_30 (by omega) (fun c43 => ?_) (fun c44 => ?_)
              · replace h := ite_neg h c43
                obtain ⟨g45, h⟩ := grd_some h
                obtain ⟨run_3, e46, h⟩ := ltv_elim h
                refine s_iinc X 0 rfl g45 e46 rfl (by omega) dX12_settle_38 ?_
                refine s_goto (tgt := 19) X dX12_settle_41 (by omega) ?_
                exact ih27 _ _ (iter_next h hc26)
              · replace h := ite_pos h c44
                refine s_load0 X 1 rfl dX12_settle_33 ?_
                refine s_iload_n X 0 rfl dX12_settle_34 ?_
                obtain ⟨m_5, hq48, h⟩ := bnd_some h
                refine s_callV (As := [VI run_2]) X cw_X12_211 SHM_0 rfl dX12_settle_35 (L_M_rideOn G run_2 m_4 m_5 hq48) rfl ⟨Nat.le_of_ble_eq_true rfl, Nat.le_of_ble_eq_true rfl⟩ ⟨Nat.le_of_ble_eq_true rfl, Nat.le_of_ble_eq_true rfl⟩ (Nat.le_of_ble_eq_true rfl) noT (kkU ?_)
                obtain ⟨g51, h⟩ := grd_some h
                obtain ⟨run_4, e52, h⟩ := ltv_elim h
                refine s_iinc X 0 rfl g51 e52 rfl (by omega) dX12_settle_38 ?_
                refine s_goto (tgt := 19) X dX12_settle_41 (by omega) ?_
                exact ih27 _ _ (iter_next h hc26)
        exact LP28 _ _ _ hl33
  exact LP8 _ _ hl13
set_option maxRecDepth 20000 in
set_option maxHeartbeats 4000000 in
theorem L_M_at (G : Gl) (stop_ : Int) (m : Mem) (r : Int)  (h : M_at stop_ m = some r) : Con SHM G yX12_at cX12_at 2 (some .int) rm_X12_at [VR 0, VI stop_] m (((.inl (some (VI r)), m) : Res × Mem)) := by
  refine con_of (own := "LastbusModel") (by decide) rfl (Nat.le_of_ble_eq_true rfl) (fun C X => ?_)
  obtain ⟨O, hO⟩ : ∃ O : Res × Mem, O = (((.inl (some (VI r)), m) : Res × Mem)) := ⟨_, rfl⟩
  rw [← hO]
  show J SHM G rm_X12_at (.inl O) C 0 0 0 [(0, VR 0), (1, VI stop_)] [] m
  unfold M_at at h
  obtain ⟨g1, h⟩ := grd_some h
  have kM2 : J SHM G rm_X12_at (.inl O) C 0 0 30 [(0, VR 0), (1, VI stop_)] [VI (if m 15 stop_.toNat < m 16 stop_.toNat then m 15 stop_.toNat else m 16 stop_.toNat)] m := by
    exact s_iret X (Nat.le_of_ble_eq_true rfl) (Nat.le_of_ble_eq_true rfl) (by cases h; exact hO) dX12_at_30
  refine s_load0 X 0 rfl dX12_at_0 ?_
  refine s_getR (id := 15) X fk_X12_60 SHM_0 rfl dX12_at_1 ?_
  refine s_iload_n X 1 rfl dX12_at_4 ?_
  refine s_iald X SHM_15 g1.1 g1.2 dX12_at_5 ?_
  refine s_load0 X 0 rfl dX12_at_6 ?_
  refine s_getR (id := 16) X fk_X12_63 SHM_0 rfl dX12_at_7 ?_
  refine s_iload_n X 1 rfl dX12_at_10 ?_
  refine s_iald X SHM_16 g1.1 g1.2 dX12_at_11 ?_
  refine s_icmpge_f (tgt := 24) X dX12_at_12 (by omega) (fun c3 => ?_) (fun c4 => ?_)
  · refine s_load0 X 0 rfl dX12_at_24 ?_
    refine s_getR (id := 16) X fk_X12_63 SHM_0 rfl dX12_at_25 ?_
    refine s_iload_n X 1 rfl dX12_at_28 ?_
    refine s_iald X SHM_16 g1.1 g1.2 dX12_at_29 ?_
    exact s_eqt (if_neg c3) kM2
  · refine s_load0 X 0 rfl dX12_at_15 ?_
    refine s_getR (id := 15) X fk_X12_60 SHM_0 rfl dX12_at_16 ?_
    refine s_iload_n X 1 rfl dX12_at_19 ?_
    refine s_iald X SHM_15 g1.1 g1.2 dX12_at_20 ?_
    refine s_goto (tgt := 30) X dX12_at_21 (by omega) ?_
    exact s_eqt (if_pos c4) kM2
set_option maxRecDepth 20000 in
set_option maxHeartbeats 4000000 in
theorem L_M_byRide (G : Gl) (stop_ : Int) (m : Mem) (r : Int)  (h : M_byRide stop_ m = some r) : Con SHM G yX12_byRide cX12_byRide 5 (some .int) rm_X12_byRide [VR 0, VI stop_] m (((.inl (some (VI r)), m) : Res × Mem)) := by
  refine con_of (own := "LastbusModel") (by decide) rfl (Nat.le_of_ble_eq_true rfl) (fun C X => ?_)
  obtain ⟨O, hO⟩ : ∃ O : Res × Mem, O = (((.inl (some (VI r)), m) : Res × Mem)) := ⟨_, rfl⟩
  rw [← hO]
  show J SHM G rm_X12_byRide (.inl O) C 0 0 0 [(0, VR 0), (1, VI stop_)] [] m
  unfold M_byRide at h
  obtain ⟨g1, h⟩ := grd_some h
  refine s_load0 X 0 rfl dX12_byRide_0 ?_
  refine s_getR (id := 16) X fk_X12_63 SHM_0 rfl dX12_byRide_1 ?_
  refine s_iload_n X 1 rfl dX12_byRide_4 ?_
  refine s_iald X SHM_16 g1.1 g1.2 dX12_byRide_5 ?_
  obtain ⟨least_, e2, h⟩ := ltv_elim h
  refine s_istore_n X e2 rfl (by omega) dX12_byRide_6 ?_
  refine s_const X (by unfold InR; omega) dX12_byRide_7 ?_
  obtain ⟨v_, e4, h⟩ := ltv_elim h
  refine s_istore_n X e4 rfl (by omega) dX12_byRide_8 ?_
  obtain ⟨least_4, v_4, hl14, h⟩ := bq2_some h
  obtain ⟨fu50, hl15⟩ := loop_iter hl14
  have KX11 : ∀ q9 : Int × Int, q9 = (least_4, v_4) → J SHM G rm_X12_byRide (.inl O) C 0 0 56 [(3, VI q9.2), (2, VI q9.1), (0, VR 0), (1, VI stop_)] [] m := by
    intro q9 e9
    subst e9
    show J SHM G rm_X12_byRide (.inl O) C 0 0 56 [(3, VI v_4), (2, VI least_4), (0, VR 0), (1, VI stop_)] [] m
    refine s_iload_n X 1 rfl dX12_byRide_56 ?_
    exact s_iret X (Nat.le_of_ble_eq_true rfl) (Nat.le_of_ble_eq_true rfl) (by cases h; exact hO) dX12_byRide_57
  have LP10 : ∀ (fu5 : Nat) (least_2 : Int) (v_2 : Int), iter (fun s => M_byRide_b1 stop_ m s.1 s.2) fu5 (least_2, v_2) = some (least_4, v_4) → J SHM G rm_X12_byRide (.inl O) C 0 0 9 [(3, VI v_2), (2, VI least_2), (0, VR 0), (1, VI stop_)] [] m := by
    intro fu5
    induction fu5 with
    | zero => intro least_2 v_2 hn6; exact absurd hn6 (by simp [iter])
    | succ fu5 ih9 =>
      intro least_2 v_2 hn6
      obtain ⟨x7, h, hc8⟩ := iter_succ hn6
      replace h : M_byRide_b1 stop_ m least_2 v_2 = some x7 := h
      unfold M_byRide_b1 at h
      refine s_iload_n X 0 rfl dX12_byRide_9 ?_
      refine s_load0 X 2 rfl dX12_byRide_10 ?_
      refine s_getI X fk_X12_123 SHM_0 rfl dX12_byRide_11 ?_
      refine s_icmpge_f (tgt := 56) X dX12_byRide_14 (by omega) (fun c19 => ?_) (fun c20 => ?_)
      · replace h := ite_neg h c19
        exact KX11 _ (iter_exit h hc8)
      · replace h := ite_pos h c20
        obtain ⟨g21, h⟩ := grd_some h
        refine s_load0 X 2 rfl dX12_byRide_17 ?_
        refine s_getR (id := 16) X fk_X12_63 SHM_0 rfl dX12_byRide_18 ?_
        refine s_iload_n X 0 rfl dX12_byRide_21 ?_
        refine s_iald X SHM_16 g21.1 g21.2.1 dX12_byRide_22 ?_
        refine s_load0 X 2 rfl dX12_byRide_23 ?_
        refine s_getR (id := 3) X fk_X12_16 SHM_0 rfl dX12_byRide_24 ?_
        refine s_bipush X (by omega) dX12_byRide_27 ?_
        refine s_iload_n X 0 rfl dX12_byRide_29 ?_
        refine s_imul X g21.2.2.1 dX12_byRide_30 ?_
        refine s_iload_n X 3 rfl dX12_byRide_31 ?_
        refine s_iadd X g21.2.2.2.1 dX12_byRide_32 ?_
        refine s_iald X SHM_3 g21.2.2.2.2.1 g21.2.2.2.2.2.1 dX12_byRide_33 ?_
        refine s_iadd X g21.2.2.2.2.2.2 dX12_byRide_34 ?_
        obtain ⟨walked_, e22, h⟩ := ltv_elim h
        refine s_istore X e22 rfl (by omega) dX12_byRide_35 ?_
        have kM24 : J SHM G rm_X12_byRide (.inl O) C 0 0 49 [(4, VI walked_), (3, VI v_2), (2, VI least_2), (0, VR 0), (1, VI stop_)] [VI (if walked_ < least_2 then walked_ else least_2)] m := by
          obtain ⟨least_3, e27, h⟩ := ltv_elim h
          refine s_istore_n X e27 rfl (by omega) dX12_byRide_49 ?_
          obtain ⟨g28, h⟩ := grd_some h
          obtain ⟨v_3, e29, h⟩ := ltv_elim h
          refine s_iinc X 2 rfl g28 e29 rfl (by omega) dX12_byRide_50 ?_
          refine s_goto (tgt := 9) X dX12_byRide_53 (by omega) ?_
          refine s_loc [0, 1, 3, 4] rfl ?_
          exact ih9 _ _ (iter_next h hc8)
        refine s_iload X 0 rfl dX12_byRide_37 ?_
        refine s_iload_n X 2 rfl dX12_byRide_39 ?_
        refine s_icmpge_f (tgt := 48) X dX12_byRide_40 (by omega) (fun c25 => ?_) (fun c26 => ?_)
        · refine s_iload_n X 2 rfl dX12_byRide_48 ?_
          exact s_eqt (if_neg c25) kM24
        · refine s_iload X 0 rfl dX12_byRide_43 ?_
          refine s_goto (tgt := 49) X dX12_byRide_45 (by omega) ?_
          exact s_eqt (if_pos c26) kM24
  exact LP10 _ _ _ hl15
set_option maxRecDepth 20000 in
set_option maxHeartbeats 4000000 in
theorem L_M_earliestOf (G : Gl) (from_ : Int) (to_ : Int) (day_ : Int) (minute_ : Int) (m : Mem) (r : (Int × Mem))  (h : M_earliestOf from_ to_ day_ minute_ m = some r) : Con SHM G yX12_earliestOf cX12_earliestOf 5 (some .int) rm_X12_earliestOf [VR 0, VI from_, VI to_, VI day_, VI minute_] m (((.inl (some (VI r.1)), r.2) : Res × Mem)) := by
  refine con_of (own := "LastbusModel") (by decide) rfl (Nat.le_of_ble_eq_true rfl) (fun C X => ?_)
  obtain ⟨O, hO⟩ : ∃ O : Res × Mem, O = (((.inl (some (VI r.1)), r.2) : Res × Mem)) := ⟨_, rfl⟩
  rw [← hO]
  show J SHM G rm_X12_earliestOf (.inl O) C 0 0 0 [(0, VR 0), (1, VI from_), (2, VI to_), (3, VI day_), (4, VI minute_)] [] m
  unfold M_earliestOf at h
  refine s_load0 X 0 rfl dX12_earliestOf_0 ?_
  refine s_iload_n X 3 rfl dX12_earliestOf_1 ?_
  obtain ⟨m_, e2, h⟩ := ltv_elim h
  refine s_putI X e2 fp_X12_198 SHM_0 rfl trivial dX12_earliestOf_2 ?_
  refine s_load0 X 0 rfl dX12_earliestOf_5 ?_
  refine s_iload_n X 1 rfl dX12_earliestOf_6 ?_
  refine s_iload X 4 rfl dX12_earliestOf_7 ?_
  obtain ⟨m_2, hq4, h⟩ := bnd_some h
  refine s_callV (As := [VI from_, VI minute_]) X cw_X12_229 SHM_0 rfl dX12_earliestOf_9 (L_M_begin G from_ minute_ m_ m_2 hq4) rfl ⟨Nat.le_of_ble_eq_true rfl, Nat.le_of_ble_eq_true rfl⟩ ⟨Nat.le_of_ble_eq_true rfl, Nat.le_of_ble_eq_true rfl⟩ (Nat.le_of_ble_eq_true rfl) noT (kkU ?_)
  refine s_load0 X 0 rfl dX12_earliestOf_12 ?_
  obtain ⟨m_3, hq8, h⟩ := bnd_some h
  refine s_callV (As := []) X cw_X12_232 SHM_0 rfl dX12_earliestOf_13 (L_M_settle G m_2 m_3 hq8) rfl ⟨Nat.le_of_ble_eq_true rfl, Nat.le_of_ble_eq_true rfl⟩ ⟨Nat.le_of_ble_eq_true rfl, Nat.le_of_ble_eq_true rfl⟩ (Nat.le_of_ble_eq_true rfl) noT (kkU ?_)
  refine s_load0 X 0 rfl dX12_earliestOf_16 ?_
  refine s_iload_n X 2 rfl dX12_earliestOf_17 ?_
  obtain ⟨r_, hq12, h⟩ := bnd_some h
  refine s_callV (As := [VI to_]) X cw_X12_235 SHM_0 rfl dX12_earliestOf_18 (L_M_at G to_ m_3 r_ hq12) rfl ⟨Nat.le_of_ble_eq_true rfl, Nat.le_of_ble_eq_true rfl⟩ ⟨Nat.le_of_ble_eq_true rfl, Nat.le_of_ble_eq_true rfl⟩ (Nat.le_of_ble_eq_true rfl) noT (kkR ?_)
  exact s_iret X (Nat.le_of_ble_eq_true rfl) (Nat.le_of_ble_eq_true rfl) (by cases h; exact hO) dX12_earliestOf_21
set_option maxRecDepth 20000 in
set_option maxHeartbeats 4000000 in
theorem L_M_isAskedWrong (G : Gl) (from_ : Int) (to_ : Int) (day_ : Int) (minute_ : Int) (m : Mem) (r : (Int × Mem))  (h : M_isAskedWrong from_ to_ day_ minute_ m = some r) : Con SHM G yX12_isAskedWrong cX12_isAskedWrong 5 (some .boolean) rm_X12_isAskedWrong [VR 0, VI from_, VI to_, VI day_, VI minute_] m (((.inl (some (VI r.1)), r.2) : Res × Mem)) := by
  refine con_of (own := "LastbusModel") (by decide) rfl (Nat.le_of_ble_eq_true rfl) (fun C X => ?_)
  obtain ⟨O, hO⟩ : ∃ O : Res × Mem, O = (((.inl (some (VI r.1)), r.2) : Res × Mem)) := ⟨_, rfl⟩
  rw [← hO]
  show J SHM G rm_X12_isAskedWrong (.inl O) C 0 0 0 [(0, VR 0), (1, VI from_), (2, VI to_), (3, VI day_), (4, VI minute_)] [] m
  unfold M_isAskedWrong at h
  refine s_load0 X 0 rfl dX12_isAskedWrong_0 ?_
  refine s_iload_n X 1 rfl dX12_isAskedWrong_1 ?_
  obtain ⟨r_, m_, hq2, h⟩ := bq2_some h
  refine s_callV (As := [VI from_]) X cw_X12_147 SHM_0 rfl dX12_isAskedWrong_2 (L_M_isNoStop G from_ m (r_, m_) hq2) rfl ⟨Nat.le_of_ble_eq_true rfl, Nat.le_of_ble_eq_true rfl⟩ ⟨Nat.le_of_ble_eq_true rfl, Nat.le_of_ble_eq_true rfl⟩ (Nat.le_of_ble_eq_true rfl) noT (kkR ?_)
  refine s_ifne_t (tgt := 51) X dX12_isAskedWrong_5 (by omega) (fun c5 => ?_) (fun c6 => ?_)
  · replace h := ite_pos h c5
    refine s_const X (by unfold InR; omega) dX12_isAskedWrong_51 ?_
    refine s_goto (tgt := 56) X dX12_isAskedWrong_52 (by omega) ?_
    exact s_zret X (Or.inr rfl) (Nat.le_of_ble_eq_true rfl) (Nat.le_of_ble_eq_true rfl) (by cases h; exact hO) dX12_isAskedWrong_56
  · replace h := ite_neg h c6
    refine s_load0 X 0 rfl dX12_isAskedWrong_8 ?_
    refine s_iload_n X 2 rfl dX12_isAskedWrong_9 ?_
    obtain ⟨r_2, m_2, hq9, h⟩ := bq2_some h
    refine s_callV (As := [VI to_]) X cw_X12_147 SHM_0 rfl dX12_isAskedWrong_10 (L_M_isNoStop G to_ m_ (r_2, m_2) hq9) rfl ⟨Nat.le_of_ble_eq_true rfl, Nat.le_of_ble_eq_true rfl⟩ ⟨Nat.le_of_ble_eq_true rfl, Nat.le_of_ble_eq_true rfl⟩ (Nat.le_of_ble_eq_true rfl) noT (kkR ?_)
    refine s_ifne_t (tgt := 51) X dX12_isAskedWrong_13 (by omega) (fun c12 => ?_) (fun c13 => ?_)
    · replace h := ite_pos h c12
      refine s_const X (by unfold InR; omega) dX12_isAskedWrong_51 ?_
      refine s_goto (tgt := 56) X dX12_isAskedWrong_52 (by omega) ?_
      exact s_zret X (Or.inr rfl) (Nat.le_of_ble_eq_true rfl) (Nat.le_of_ble_eq_true rfl) (by cases h; exact hO) dX12_isAskedWrong_56
    · replace h := ite_neg h c13
      refine s_load0 X 0 rfl dX12_isAskedWrong_16 ?_
      have kM16 : J SHM G rm_X12_isAskedWrong (.inl O) C 0 0 44 [(0, VR 0), (1, VI from_), (2, VI to_), (3, VI day_), (4, VI minute_)] [VI (if (M_isIn day_ 0 27 = 0) ∨ (M_isIn minute_ 0 1439 = 0) then 1 else 0), VR 0] m_2 := by
        refine s_const X (by unfold InR; omega) dX12_isAskedWrong_44 ?_
        obtain ⟨r_3, m_3, hq22, h⟩ := bq2_some h
        refine s_callV (As := [VI (if (M_isIn day_ 0 27 = 0) ∨ (M_isIn minute_ 0 1439 = 0) then 1 else 0), VI 2]) X cw_X12_130 SHM_0 rfl dX12_isAskedWrong_45 (L_M_isThrown G (if (M_isIn day_ 0 27 = 0) ∨ (M_isIn minute_ 0 1439 = 0) then 1 else 0) 2 m_2 (r_3, m_3) hq22) rfl ⟨Nat.le_of_ble_eq_true rfl, Nat.le_of_ble_eq_true rfl⟩ ⟨Nat.le_of_ble_eq_true rfl, Nat.le_of_ble_eq_true rfl⟩ (Nat.le_of_ble_eq_true rfl) noT (kkR ?_)
        refine s_ifeq_f (tgt := 55) X dX12_isAskedWrong_48 (by omega) (fun c25 => ?_) (fun c26 => ?_)
        · replace h := ite_neg h c25
          refine s_const X (by unfold InR; omega) dX12_isAskedWrong_55 ?_
          exact s_zret X (Or.inl rfl) (Nat.le_of_ble_eq_true rfl) (Nat.le_of_ble_eq_true rfl) (by cases h; exact hO) dX12_isAskedWrong_56
        · replace h := ite_pos h c26
          refine s_const X (by unfold InR; omega) dX12_isAskedWrong_51 ?_
          refine s_goto (tgt := 56) X dX12_isAskedWrong_52 (by omega) ?_
          exact s_zret X (Or.inr rfl) (Nat.le_of_ble_eq_true rfl) (Nat.le_of_ble_eq_true rfl) (by cases h; exact hO) dX12_isAskedWrong_56
      refine s_iload_n X 3 rfl dX12_isAskedWrong_17 ?_
      refine s_const X (by unfold InR; omega) dX12_isAskedWrong_18 ?_
      refine s_bipush X (by omega) dX12_isAskedWrong_19 ?_
      refine s_callS (As := [VI day_, VI 0, VI 27]) X cw_X12_126 dX12_isAskedWrong_21 (L_M_isIn G day_ 0 27 m_2) rfl ⟨Nat.le_of_ble_eq_true rfl, Nat.le_of_ble_eq_true rfl⟩ ⟨Nat.le_of_ble_eq_true rfl, Nat.le_of_ble_eq_true rfl⟩ (Nat.le_of_ble_eq_true rfl) noT (kkR ?_)
      refine s_ifeq_t (tgt := 39) X dX12_isAskedWrong_24 (by omega) (fun c17 => ?_) (fun c18 => ?_)
      · refine s_const X (by unfold InR; omega) dX12_isAskedWrong_39 ?_
        refine s_goto (tgt := 44) X dX12_isAskedWrong_40 (by omega) ?_
        exact s_eqt (if_pos (Or.inl c17)) kM16
      · have a19 : ¬ (M_isIn day_ 0 27 = 0) := c18
        refine s_iload X 4 rfl dX12_isAskedWrong_27 ?_
        refine s_const X (by unfold InR; omega) dX12_isAskedWrong_29 ?_
        refine s_sipush X (by omega) dX12_isAskedWrong_30 ?_
        refine s_callS (As := [VI minute_, VI 0, VI 1439]) X cw_X12_126 dX12_isAskedWrong_33 (L_M_isIn G minute_ 0 1439 m_2) rfl ⟨Nat.le_of_ble_eq_true rfl, Nat.le_of_ble_eq_true rfl⟩ ⟨Nat.le_of_ble_eq_true rfl, Nat.le_of_ble_eq_true rfl⟩ (Nat.le_of_ble_eq_true rfl) noT (kkR ?_)
        refine s_ifne_f (tgt := 43) X dX12_isAskedWrong_36 (by omega) (fun c20 => ?_) (fun c21 => ?_)
        · refine s_const X (by unfold InR; omega) dX12_isAskedWrong_43 ?_
          exact s_eqt (if_neg (fun q => q.elim a19 c20)) kM16
        · refine s_const X (by unfold InR; omega) dX12_isAskedWrong_39 ?_
          refine s_goto (tgt := 44) X dX12_isAskedWrong_40 (by omega) ?_
          exact s_eqt (if_pos (Or.inr c21)) kM16
set_option maxRecDepth 20000 in
set_option maxHeartbeats 4000000 in
theorem L_M_earliest (G : Gl) (from_ : Int) (to_ : Int) (day_ : Int) (minute_ : Int) (m : Mem) (r : (Int × Mem))  (h : M_earliest from_ to_ day_ minute_ m = some r) : Con SHM G yX12_earliest cX12_earliest 6 (some .int) rm_X12_earliest [VR 0, VI from_, VI to_, VI day_, VI minute_] m (((.inl (some (VI r.1)), r.2) : Res × Mem)) := by
  refine con_of (own := "LastbusModel") (by decide) rfl (Nat.le_of_ble_eq_true rfl) (fun C X => ?_)
  obtain ⟨O, hO⟩ : ∃ O : Res × Mem, O = (((.inl (some (VI r.1)), r.2) : Res × Mem)) := ⟨_, rfl⟩
  rw [← hO]
  show J SHM G rm_X12_earliest (.inl O) C 0 0 0 [(0, VR 0), (1, VI from_), (2, VI to_), (3, VI day_), (4, VI minute_)] [] m
  unfold M_earliest at h
  refine s_load0 X 0 rfl dX12_earliest_0 ?_
  refine s_iload_n X 1 rfl dX12_earliest_1 ?_
  refine s_iload_n X 2 rfl dX12_earliest_2 ?_
  refine s_iload_n X 3 rfl dX12_earliest_3 ?_
  refine s_iload X 4 rfl dX12_earliest_4 ?_
  obtain ⟨r_, m_, hq2, h⟩ := bq2_some h
  refine s_callV (As := [VI from_, VI to_, VI day_, VI minute_]) X cw_X12_239 SHM_0 rfl dX12_earliest_6 (L_M_isAskedWrong G from_ to_ day_ minute_ m (r_, m_) hq2) rfl ⟨Nat.le_of_ble_eq_true rfl, Nat.le_of_ble_eq_true rfl⟩ ⟨Nat.le_of_ble_eq_true rfl, Nat.le_of_ble_eq_true rfl⟩ (Nat.le_of_ble_eq_true rfl) noT (kkR ?_)
  refine s_ifeq_f (tgt := 14) X dX12_earliest_9 (by omega) (fun c5 => ?_) (fun c6 => ?_)
  · replace h := ite_neg h c5
    refine s_load0 X 0 rfl dX12_earliest_14 ?_
    refine s_iload_n X 1 rfl dX12_earliest_15 ?_
    refine s_iload_n X 2 rfl dX12_earliest_16 ?_
    refine s_iload_n X 3 rfl dX12_earliest_17 ?_
    refine s_iload X 4 rfl dX12_earliest_18 ?_
    obtain ⟨r_2, m_2, hq8, h⟩ := bq2_some h
    refine s_callV (As := [VI from_, VI to_, VI day_, VI minute_]) X cw_X12_243 SHM_0 rfl dX12_earliest_20 (L_M_earliestOf G from_ to_ day_ minute_ m_ (r_2, m_2) hq8) rfl ⟨Nat.le_of_ble_eq_true rfl, Nat.le_of_ble_eq_true rfl⟩ ⟨Nat.le_of_ble_eq_true rfl, Nat.le_of_ble_eq_true rfl⟩ (Nat.le_of_ble_eq_true rfl) noT (kkR ?_)
    obtain ⟨time_, e11, h⟩ := ltv_elim h
    refine s_istore X e11 rfl (by omega) dX12_earliest_23 ?_
    refine s_load0 X 1 rfl dX12_earliest_25 ?_
    have kM13 : J SHM G rm_X12_earliest (.inl O) C 0 0 38 [(5, VI time_), (0, VR 0), (1, VI from_), (2, VI to_), (3, VI day_), (4, VI minute_)] [VI (if 1000000 ≤ time_ then 1 else 0), VR 0] m_2 := by
      refine s_const X (by unfold InR; omega) dX12_earliest_38 ?_
      obtain ⟨r_3, m_3, hq16, h⟩ := bq2_some h
      refine s_callV (As := [VI (if 1000000 ≤ time_ then 1 else 0), VI 3]) X cw_X12_130 SHM_0 rfl dX12_earliest_39 (L_M_isThrown G (if 1000000 ≤ time_ then 1 else 0) 3 m_2 (r_3, m_3) hq16) rfl ⟨Nat.le_of_ble_eq_true rfl, Nat.le_of_ble_eq_true rfl⟩ ⟨Nat.le_of_ble_eq_true rfl, Nat.le_of_ble_eq_true rfl⟩ (Nat.le_of_ble_eq_true rfl) noT (kkR ?_)
      refine s_ifeq_f (tgt := 49) X dX12_earliest_42 (by omega) (fun c19 => ?_) (fun c20 => ?_)
      · replace h := ite_neg h c19
        refine s_iload X 0 rfl dX12_earliest_49 ?_
        exact s_iret X (Nat.le_of_ble_eq_true rfl) (Nat.le_of_ble_eq_true rfl) (by cases h; exact hO) dX12_earliest_51
      · replace h := ite_pos h c20
        refine s_const X (by unfold InR; omega) dX12_earliest_45 ?_
        refine s_goto (tgt := 51) X dX12_earliest_46 (by omega) ?_
        exact s_iret X (Nat.le_of_ble_eq_true rfl) (Nat.le_of_ble_eq_true rfl) (by cases h; exact hO) dX12_earliest_51
    refine s_iload X 0 rfl dX12_earliest_26 ?_
    refine s_ldc (z := 1000000) X (by unfold InR; omega) kc_X12_150 dX12_earliest_28 ?_
    refine s_icmplt_f (tgt := 37) X dX12_earliest_30 (by omega) (fun c14 => ?_) (fun c15 => ?_)
    · refine s_const X (by unfold InR; omega) dX12_earliest_37 ?_
      exact s_eqt (if_neg c14) kM13
    · refine s_const X (by unfold InR; omega) dX12_earliest_33 ?_
      refine s_goto (tgt := 38) X dX12_earliest_34 (by omega) ?_
      exact s_eqt (if_pos c15) kM13
  · replace h := ite_pos h c6
    refine s_const X (by unfold InR; omega) dX12_earliest_12 ?_
    exact s_iret X (Nat.le_of_ble_eq_true rfl) (Nat.le_of_ble_eq_true rfl) (by cases h; exact hO) dX12_earliest_13
set_option maxRecDepth 20000 in
set_option maxHeartbeats 4000000 in
theorem L_M_earliestByQueue (G : Gl) (from_ : Int) (to_ : Int) (day_ : Int) (minute_ : Int) (m : Mem) (r : (Int × Mem))  (h : M_earliestByQueue from_ to_ day_ minute_ m = some r) : Con SHM G yX12_earliestByQueue cX12_earliestByQueue 5 (some .int) rm_X12_earliestByQueue [VR 0, VI from_, VI to_, VI day_, VI minute_] m (((.inl (some (VI r.1)), r.2) : Res × Mem)) := by
  refine con_of (own := "LastbusModel") (by decide) rfl (Nat.le_of_ble_eq_true rfl) (fun C X => ?_)
  obtain ⟨O, hO⟩ : ∃ O : Res × Mem, O = (((.inl (some (VI r.1)), r.2) : Res × Mem)) := ⟨_, rfl⟩
  rw [← hO]
  show J SHM G rm_X12_earliestByQueue (.inl O) C 0 0 0 [(0, VR 0), (1, VI from_), (2, VI to_), (3, VI day_), (4, VI minute_)] [] m
  unfold M_earliestByQueue at h
  refine s_load0 X 0 rfl dX12_earliestByQueue_0 ?_
  refine s_iload_n X 1 rfl dX12_earliestByQueue_1 ?_
  refine s_iload_n X 2 rfl dX12_earliestByQueue_2 ?_
  refine s_iload_n X 3 rfl dX12_earliestByQueue_3 ?_
  refine s_iload X 4 rfl dX12_earliestByQueue_4 ?_
  obtain ⟨r_, m_, hq2, h⟩ := bq2_some h
  refine s_callV (As := [VI from_, VI to_, VI day_, VI minute_]) X cw_X12_247 SHM_0 rfl dX12_earliestByQueue_6 (L_M_earliest G from_ to_ day_ minute_ m (r_, m_) hq2) rfl ⟨Nat.le_of_ble_eq_true rfl, Nat.le_of_ble_eq_true rfl⟩ ⟨Nat.le_of_ble_eq_true rfl, Nat.le_of_ble_eq_true rfl⟩ (Nat.le_of_ble_eq_true rfl) noT (kkR ?_)
  exact s_iret X (Nat.le_of_ble_eq_true rfl) (Nat.le_of_ble_eq_true rfl) (by cases h; exact hO) dX12_earliestByQueue_9
set_option maxRecDepth 20000 in
set_option maxHeartbeats 4000000 in
theorem L_M_earliestByRounds (G : Gl) (from_ : Int) (to_ : Int) (day_ : Int) (minute_ : Int) (m : Mem) (r : (Int × Mem))  (h : M_earliestByRounds from_ to_ day_ minute_ m = some r) : Con SHM G yX12_earliestByRounds cX12_earliestByRounds 5 (some .int) rm_X12_earliestByRounds [VR 0, VI from_, VI to_, VI day_, VI minute_] m (((.inl (some (VI r.1)), r.2) : Res × Mem)) := by
  refine con_of (own := "LastbusModel") (by decide) rfl (Nat.le_of_ble_eq_true rfl) (fun C X => ?_)
  obtain ⟨O, hO⟩ : ∃ O : Res × Mem, O = (((.inl (some (VI r.1)), r.2) : Res × Mem)) := ⟨_, rfl⟩
  rw [← hO]
  show J SHM G rm_X12_earliestByRounds (.inl O) C 0 0 0 [(0, VR 0), (1, VI from_), (2, VI to_), (3, VI day_), (4, VI minute_)] [] m
  unfold M_earliestByRounds at h
  refine s_load0 X 0 rfl dX12_earliestByRounds_0 ?_
  refine s_iload_n X 1 rfl dX12_earliestByRounds_1 ?_
  refine s_iload_n X 2 rfl dX12_earliestByRounds_2 ?_
  refine s_iload_n X 3 rfl dX12_earliestByRounds_3 ?_
  refine s_iload X 4 rfl dX12_earliestByRounds_4 ?_
  obtain ⟨r_, m_, hq2, h⟩ := bq2_some h
  refine s_callV (As := [VI from_, VI to_, VI day_, VI minute_]) X cw_X12_247 SHM_0 rfl dX12_earliestByRounds_6 (L_M_earliest G from_ to_ day_ minute_ m (r_, m_) hq2) rfl ⟨Nat.le_of_ble_eq_true rfl, Nat.le_of_ble_eq_true rfl⟩ ⟨Nat.le_of_ble_eq_true rfl, Nat.le_of_ble_eq_true rfl⟩ (Nat.le_of_ble_eq_true rfl) noT (kkR ?_)
  exact s_iret X (Nat.le_of_ble_eq_true rfl) (Nat.le_of_ble_eq_true rfl) (by cases h; exact hO) dX12_earliestByRounds_9
set_option maxRecDepth 20000 in
set_option maxHeartbeats 4000000 in
theorem L_M_byPairs (G : Gl) (from_ : Int) (to_ : Int) (day_ : Int) (minute_ : Int) (m : Mem) (r : (Int × Mem))  (h : M_byPairs from_ to_ day_ minute_ m = some r) : Con SHM G yX12_byPairs cX12_byPairs 5 (some .int) rm_X12_byPairs [VR 0, VI from_, VI to_, VI day_, VI minute_] m (((.inl (some (VI r.1)), r.2) : Res × Mem)) := by
  refine con_of (own := "LastbusModel") (by decide) rfl (Nat.le_of_ble_eq_true rfl) (fun C X => ?_)
  obtain ⟨O, hO⟩ : ∃ O : Res × Mem, O = (((.inl (some (VI r.1)), r.2) : Res × Mem)) := ⟨_, rfl⟩
  rw [← hO]
  show J SHM G rm_X12_byPairs (.inl O) C 0 0 0 [(0, VR 0), (1, VI from_), (2, VI to_), (3, VI day_), (4, VI minute_)] [] m
  unfold M_byPairs at h
  refine s_load0 X 0 rfl dX12_byPairs_0 ?_
  refine s_iload_n X 1 rfl dX12_byPairs_1 ?_
  refine s_iload_n X 2 rfl dX12_byPairs_2 ?_
  refine s_iload_n X 3 rfl dX12_byPairs_3 ?_
  refine s_iload X 4 rfl dX12_byPairs_4 ?_
  obtain ⟨r_, m_, hq2, h⟩ := bq2_some h
  refine s_callV (As := [VI from_, VI to_, VI day_, VI minute_]) X cw_X12_247 SHM_0 rfl dX12_byPairs_6 (L_M_earliest G from_ to_ day_ minute_ m (r_, m_) hq2) rfl ⟨Nat.le_of_ble_eq_true rfl, Nat.le_of_ble_eq_true rfl⟩ ⟨Nat.le_of_ble_eq_true rfl, Nat.le_of_ble_eq_true rfl⟩ (Nat.le_of_ble_eq_true rfl) noT (kkR ?_)
  exact s_iret X (Nat.le_of_ble_eq_true rfl) (Nat.le_of_ble_eq_true rfl) (by cases h; exact hO) dX12_byPairs_9
set_option maxRecDepth 20000 in
set_option maxHeartbeats 4000000 in
theorem L_M_wall (G : Gl) (from_ : Int) (day_ : Int) (minute_ : Int) (ahead_ : Int) (m : Mem) (r : (Int × Mem))  (h : M_wall from_ day_ minute_ ahead_ m = some r) : Con SHM G yX12_wall cX12_wall 8 (some .int) rm_X12_wall [VR 0, VI from_, VI day_, VI minute_, VI ahead_] m (((.inl (some (VI r.1)), r.2) : Res × Mem)) := by
  refine con_of (own := "LastbusModel") (by decide) rfl (Nat.le_of_ble_eq_true rfl) (fun C X => ?_)
  obtain ⟨O, hO⟩ : ∃ O : Res × Mem, O = (((.inl (some (VI r.1)), r.2) : Res × Mem)) := ⟨_, rfl⟩
  rw [← hO]
  show J SHM G rm_X12_wall (.inl O) C 0 0 0 [(0, VR 0), (1, VI from_), (2, VI day_), (3, VI minute_), (4, VI ahead_)] [] m
  unfold M_wall at h
  refine s_load0 X 0 rfl dX12_wall_0 ?_
  refine s_iload_n X 1 rfl dX12_wall_1 ?_
  obtain ⟨r_, m_, hq2, h⟩ := bq2_some h
  refine s_callV (As := [VI from_]) X cw_X12_147 SHM_0 rfl dX12_wall_2 (L_M_isNoStop G from_ m (r_, m_) hq2) rfl ⟨Nat.le_of_ble_eq_true rfl, Nat.le_of_ble_eq_true rfl⟩ ⟨Nat.le_of_ble_eq_true rfl, Nat.le_of_ble_eq_true rfl⟩ (Nat.le_of_ble_eq_true rfl) noT (kkR ?_)
  refine s_ifne_t (tgt := 54) X dX12_wall_5 (by omega) (fun c5 => ?_) (fun c6 => ?_)
  · replace h := ite_pos h c5
    refine s_const X (by unfold InR; omega) dX12_wall_54 ?_
    exact s_iret X (Nat.le_of_ble_eq_true rfl) (Nat.le_of_ble_eq_true rfl) (by cases h; exact hO) dX12_wall_55
  · replace h := ite_neg h c6
    refine s_load0 X 0 rfl dX12_wall_8 ?_
    have kM9 : J SHM G rm_X12_wall (.inl O) C 0 0 47 [(0, VR 0), (1, VI from_), (2, VI day_), (3, VI minute_), (4, VI ahead_)] [VI (if ((M_isIn day_ 0 27 = 0) ∨ (M_isIn minute_ 0 1439 = 0)) ∨ (M_isIn ahead_ 0 4319 = 0) then 1 else 0), VR 0] m_ := by
      refine s_const X (by unfold InR; omega) dX12_wall_47 ?_
      obtain ⟨r_2, m_2, hq18, h⟩ := bq2_some h
      refine s_callV (As := [VI (if ((M_isIn day_ 0 27 = 0) ∨ (M_isIn minute_ 0 1439 = 0)) ∨ (M_isIn ahead_ 0 4319 = 0) then 1 else 0), VI 2]) X cw_X12_130 SHM_0 rfl dX12_wall_48 (L_M_isThrown G (if ((M_isIn day_ 0 27 = 0) ∨ (M_isIn minute_ 0 1439 = 0)) ∨ (M_isIn ahead_ 0 4319 = 0) then 1 else 0) 2 m_ (r_2, m_2) hq18) rfl ⟨Nat.le_of_ble_eq_true rfl, Nat.le_of_ble_eq_true rfl⟩ ⟨Nat.le_of_ble_eq_true rfl, Nat.le_of_ble_eq_true rfl⟩ (Nat.le_of_ble_eq_true rfl) noT (kkR ?_)
      refine s_ifeq_f (tgt := 56) X dX12_wall_51 (by omega) (fun c21 => ?_) (fun c22 => ?_)
      · replace h := ite_neg h c21
        refine s_load0 X 0 rfl dX12_wall_56 ?_
        refine s_iload_n X 1 rfl dX12_wall_57 ?_
        refine s_iload_n X 1 rfl dX12_wall_58 ?_
        refine s_iload_n X 2 rfl dX12_wall_59 ?_
        refine s_iload_n X 3 rfl dX12_wall_60 ?_
        obtain ⟨r_3, m_3, hq24, h⟩ := bq2_some h
        refine s_callV (As := [VI from_, VI from_, VI day_, VI minute_]) X cw_X12_243 SHM_0 rfl dX12_wall_61 (L_M_earliestOf G from_ from_ day_ minute_ m_2 (r_3, m_3) hq24) rfl ⟨Nat.le_of_ble_eq_true rfl, Nat.le_of_ble_eq_true rfl⟩ ⟨Nat.le_of_ble_eq_true rfl, Nat.le_of_ble_eq_true rfl⟩ (Nat.le_of_ble_eq_true rfl) noT (kkR ?_)
        obtain ⟨time_, e27, h⟩ := ltv_elim h
        refine s_istore X e27 rfl (by omega) dX12_wall_64 ?_
        refine s_const X (by unfold InR; omega) dX12_wall_66 ?_
        obtain ⟨set_, e29, h⟩ := ltv_elim h
        refine s_istore X e29 rfl (by omega) dX12_wall_67 ?_
        refine s_const X (by unfold InR; omega) dX12_wall_69 ?_
        obtain ⟨v_, e31, h⟩ := ltv_elim h
        refine s_istore X e31 rfl (by omega) dX12_wall_70 ?_
        obtain ⟨set_4, v_5, hl41, h⟩ := bq2_some h
        obtain ⟨fu320, hl42⟩ := loop_iter hl41
        have KX38 : ∀ q9 : Int × Int, q9 = (set_4, v_5) → J SHM G rm_X12_wall (.inl O) C 0 0 111 [(7, VI q9.2), (6, VI q9.1), (5, VI time_), (0, VR 0), (1, VI from_), (2, VI day_), (3, VI minute_), (4, VI ahead_)] [] m_3 := by
          intro q9 e9
          subst e9
          show J SHM G rm_X12_wall (.inl O) C 0 0 111 [(7, VI v_5), (6, VI set_4), (5, VI time_), (0, VR 0), (1, VI from_), (2, VI day_), (3, VI minute_), (4, VI ahead_)] [] m_3
          refine s_iload X 1 rfl dX12_wall_111 ?_
          exact s_iret X (Nat.le_of_ble_eq_true rfl) (Nat.le_of_ble_eq_true rfl) (by cases h; exact hO) dX12_wall_113
        have LP37 : ∀ (fu32 : Nat) (set_2 : Int) (v_2 : Int), iter (fun s => M_wall_b1 ahead_ m_3 s.1 s.2) fu32 (set_2, v_2) = some (set_4, v_5) → J SHM G rm_X12_wall (.inl O) C 0 0 72 [(7, VI v_2), (6, VI set_2), (5, VI time_), (0, VR 0), (1, VI from_), (2, VI day_), (3, VI minute_), (4, VI ahead_)] [] m_3 := by
          intro fu32
          induction fu32 with
          | zero => intro set_2 v_2 hn33; exact absurd hn33 (by simp [iter])
          | succ fu32 ih36 =>
            intro set_2 v_2 hn33
            obtain ⟨x34, h, hc35⟩ := iter_succ hn33
            replace h : M_wall_b1 ahead_ m_3 set_2 v_2 = some x34 := h
            unfold M_wall_b1 at h
            refine s_iload X 0 rfl dX12_wall_72 ?_
            refine s_load0 X 3 rfl dX12_wall_74 ?_
            refine s_getI X fk_X12_123 SHM_0 rfl dX12_wall_75 ?_
            refine s_icmpge_f (tgt := 111) X dX12_wall_78 (by omega) (fun c46 => ?_) (fun c47 => ?_)
            · replace h := ite_neg h c46
              exact KX38 _ (iter_exit h hc35)
            · replace h := ite_pos h c47
              refine s_iload X 1 rfl dX12_wall_81 ?_
              obtain ⟨kj_, hk49, h⟩ := ltv_elim h
              have K50 : ∀ (v_3 : Int), kj_ v_3 = some x34 → J SHM G rm_X12_wall (.inl O) C 0 0 102 [(7, VI v_2), (6, VI set_2), (5, VI time_), (0, VR 0), (1, VI from_), (2, VI day_), (3, VI minute_), (4, VI ahead_)] [VI v_3, VI set_2] m_3 := by
                intro v_3 h
                subst hk49
                dsimp only at h
                refine s_ior X dX12_wall_102 ?_
                obtain ⟨set_3, e59, h⟩ := ltv_elim h
                refine s_istore X e59 rfl (by omega) dX12_wall_103 ?_
                obtain ⟨g60, h⟩ := grd_some h
                obtain ⟨v_4, e61, h⟩ := ltv_elim h
                refine s_iinc X 1 rfl g60 e61 rfl (by omega) dX12_wall_105 ?_
                refine s_goto (tgt := 72) X dX12_wall_108 (by omega) ?_
                exact ih36 _ _ (iter_next h hc35)
              refine s_load0 X 3 rfl dX12_wall_83 ?_
              refine s_iload X 0 rfl dX12_wall_84 ?_
              obtain ⟨r_4, hq51, h⟩ := bnd_some h
              refine s_callV (As := [VI v_2]) X cw_X12_235 SHM_0 rfl dX12_wall_86 (L_M_at G v_2 m_3 r_4 hq51) rfl ⟨Nat.le_of_ble_eq_true rfl, Nat.le_of_ble_eq_true rfl⟩ ⟨Nat.le_of_ble_eq_true rfl, Nat.le_of_ble_eq_true rfl⟩ (Nat.le_of_ble_eq_true rfl) noT (kkR ?_)
              refine s_iload X 7 rfl dX12_wall_89 ?_
              refine s_icmpge_f (tgt := 101) X dX12_wall_91 (by omega) (fun c54 => ?_) (fun c55 => ?_)
              · replace h := ite_neg h c54
                refine s_const X (by unfold InR; omega) dX12_wall_101 ?_
                exact s_kn rfl rfl (K50 _ h)
              · replace h := ite_pos h c55
                refine s_const X (by unfold InR; omega) dX12_wall_94 ?_
                refine s_iload X 0 rfl dX12_wall_95 ?_
                refine s_ishl X dX12_wall_97 ?_
                refine s_goto (tgt := 102) X dX12_wall_98 (by omega) ?_
                exact s_kn rfl rfl (K50 _ h)
        exact LP37 _ _ _ hl42
      · replace h := ite_pos h c22
        refine s_const X (by unfold InR; omega) dX12_wall_54 ?_
        exact s_iret X (Nat.le_of_ble_eq_true rfl) (Nat.le_of_ble_eq_true rfl) (by cases h; exact hO) dX12_wall_55
    refine s_iload_n X 2 rfl dX12_wall_9 ?_
    refine s_const X (by unfold InR; omega) dX12_wall_10 ?_
    refine s_bipush X (by omega) dX12_wall_11 ?_
    refine s_callS (As := [VI day_, VI 0, VI 27]) X cw_X12_126 dX12_wall_13 (L_M_isIn G day_ 0 27 m_) rfl ⟨Nat.le_of_ble_eq_true rfl, Nat.le_of_ble_eq_true rfl⟩ ⟨Nat.le_of_ble_eq_true rfl, Nat.le_of_ble_eq_true rfl⟩ (Nat.le_of_ble_eq_true rfl) noT (kkR ?_)
    refine s_ifeq_t (tgt := 42) X dX12_wall_16 (by omega) (fun c10 => ?_) (fun c11 => ?_)
    · refine s_const X (by unfold InR; omega) dX12_wall_42 ?_
      refine s_goto (tgt := 47) X dX12_wall_43 (by omega) ?_
      exact s_eqt (if_pos (Or.inl (Or.inl c10))) kM9
    · have a12 : ¬ (M_isIn day_ 0 27 = 0) := c11
      refine s_iload_n X 3 rfl dX12_wall_19 ?_
      refine s_const X (by unfold InR; omega) dX12_wall_20 ?_
      refine s_sipush X (by omega) dX12_wall_21 ?_
      refine s_callS (As := [VI minute_, VI 0, VI 1439]) X cw_X12_126 dX12_wall_24 (L_M_isIn G minute_ 0 1439 m_) rfl ⟨Nat.le_of_ble_eq_true rfl, Nat.le_of_ble_eq_true rfl⟩ ⟨Nat.le_of_ble_eq_true rfl, Nat.le_of_ble_eq_true rfl⟩ (Nat.le_of_ble_eq_true rfl) noT (kkR ?_)
      refine s_ifeq_t (tgt := 42) X dX12_wall_27 (by omega) (fun c13 => ?_) (fun c14 => ?_)
      · refine s_const X (by unfold InR; omega) dX12_wall_42 ?_
        refine s_goto (tgt := 47) X dX12_wall_43 (by omega) ?_
        exact s_eqt (if_pos (Or.inl (Or.inr c13))) kM9
      · have a15 : ¬ ((M_isIn day_ 0 27 = 0) ∨ (M_isIn minute_ 0 1439 = 0)) := (fun q => q.elim a12 c14)
        refine s_iload X 4 rfl dX12_wall_30 ?_
        refine s_const X (by unfold InR; omega) dX12_wall_32 ?_
        refine s_sipush X (by omega) dX12_wall_33 ?_
        refine s_callS (As := [VI ahead_, VI 0, VI 4319]) X cw_X12_126 dX12_wall_36 (L_M_isIn G ahead_ 0 4319 m_) rfl ⟨Nat.le_of_ble_eq_true rfl, Nat.le_of_ble_eq_true rfl⟩ ⟨Nat.le_of_ble_eq_true rfl, Nat.le_of_ble_eq_true rfl⟩ (Nat.le_of_ble_eq_true rfl) noT (kkR ?_)
        refine s_ifne_f (tgt := 46) X dX12_wall_39 (by omega) (fun c16 => ?_) (fun c17 => ?_)
        · refine s_const X (by unfold InR; omega) dX12_wall_46 ?_
          exact s_eqt (if_neg (fun q => q.elim a15 c16)) kM9
        · refine s_const X (by unfold InR; omega) dX12_wall_42 ?_
          refine s_goto (tgt := 47) X dX12_wall_43 (by omega) ?_
          exact s_eqt (if_pos (Or.inr c17)) kM9
set_option maxRecDepth 20000 in
set_option maxHeartbeats 4000000 in
theorem L_M_last (G : Gl) (from_ : Int) (to_ : Int) (day_ : Int) (minute_ : Int) (m : Mem) (r : (Int × Mem))  (h : M_last from_ to_ day_ minute_ m = some r) : Con SHM G yX12_last cX12_last 8 (some .int) rm_X12_last [VR 0, VI from_, VI to_, VI day_, VI minute_] m (((.inl (some (VI r.1)), r.2) : Res × Mem)) := by
  refine con_of (own := "LastbusModel") (by decide) rfl (Nat.le_of_ble_eq_true rfl) (fun C X => ?_)
  obtain ⟨O, hO⟩ : ∃ O : Res × Mem, O = (((.inl (some (VI r.1)), r.2) : Res × Mem)) := ⟨_, rfl⟩
  rw [← hO]
  show J SHM G rm_X12_last (.inl O) C 0 0 0 [(0, VR 0), (1, VI from_), (2, VI to_), (3, VI day_), (4, VI minute_)] [] m
  unfold M_last at h
  refine s_load0 X 0 rfl dX12_last_0 ?_
  refine s_iload_n X 1 rfl dX12_last_1 ?_
  obtain ⟨r_, m_, hq2, h⟩ := bq2_some h
  refine s_callV (As := [VI from_]) X cw_X12_147 SHM_0 rfl dX12_last_2 (L_M_isNoStop G from_ m (r_, m_) hq2) rfl ⟨Nat.le_of_ble_eq_true rfl, Nat.le_of_ble_eq_true rfl⟩ ⟨Nat.le_of_ble_eq_true rfl, Nat.le_of_ble_eq_true rfl⟩ (Nat.le_of_ble_eq_true rfl) noT (kkR ?_)
  refine s_ifne_t (tgt := 51) X dX12_last_5 (by omega) (fun c5 => ?_) (fun c6 => ?_)
  · replace h := ite_pos h c5
    refine s_const X (by unfold InR; omega) dX12_last_51 ?_
    exact s_iret X (Nat.le_of_ble_eq_true rfl) (Nat.le_of_ble_eq_true rfl) (by cases h; exact hO) dX12_last_52
  · replace h := ite_neg h c6
    refine s_load0 X 0 rfl dX12_last_8 ?_
    refine s_iload_n X 2 rfl dX12_last_9 ?_
    obtain ⟨r_2, m_2, hq9, h⟩ := bq2_some h
    refine s_callV (As := [VI to_]) X cw_X12_147 SHM_0 rfl dX12_last_10 (L_M_isNoStop G to_ m_ (r_2, m_2) hq9) rfl ⟨Nat.le_of_ble_eq_true rfl, Nat.le_of_ble_eq_true rfl⟩ ⟨Nat.le_of_ble_eq_true rfl, Nat.le_of_ble_eq_true rfl⟩ (Nat.le_of_ble_eq_true rfl) noT (kkR ?_)
    refine s_ifne_t (tgt := 51) X dX12_last_13 (by omega) (fun c12 => ?_) (fun c13 => ?_)
    · replace h := ite_pos h c12
      refine s_const X (by unfold InR; omega) dX12_last_51 ?_
      exact s_iret X (Nat.le_of_ble_eq_true rfl) (Nat.le_of_ble_eq_true rfl) (by cases h; exact hO) dX12_last_52
    · replace h := ite_neg h c13
      refine s_load0 X 0 rfl dX12_last_16 ?_
      have kM16 : J SHM G rm_X12_last (.inl O) C 0 0 44 [(0, VR 0), (1, VI from_), (2, VI to_), (3, VI day_), (4, VI minute_)] [VI (if (M_isIn day_ 0 27 = 0) ∨ (M_isIn minute_ 0 2879 = 0) then 1 else 0), VR 0] m_2 := by
        refine s_const X (by unfold InR; omega) dX12_last_44 ?_
        obtain ⟨r_3, m_3, hq22, h⟩ := bq2_some h
        refine s_callV (As := [VI (if (M_isIn day_ 0 27 = 0) ∨ (M_isIn minute_ 0 2879 = 0) then 1 else 0), VI 2]) X cw_X12_130 SHM_0 rfl dX12_last_45 (L_M_isThrown G (if (M_isIn day_ 0 27 = 0) ∨ (M_isIn minute_ 0 2879 = 0) then 1 else 0) 2 m_2 (r_3, m_3) hq22) rfl ⟨Nat.le_of_ble_eq_true rfl, Nat.le_of_ble_eq_true rfl⟩ ⟨Nat.le_of_ble_eq_true rfl, Nat.le_of_ble_eq_true rfl⟩ (Nat.le_of_ble_eq_true rfl) noT (kkR ?_)
        refine s_ifeq_f (tgt := 53) X dX12_last_48 (by omega) (fun c25 => ?_) (fun c26 => ?_)
        · replace h := ite_neg h c25
          refine s_load0 X 0 rfl dX12_last_53 ?_
          obtain ⟨kj_, hk28, h⟩ := ltv_elim h
          have K29 : ∀ (v_ : Int) (m_4 : Mem), kj_ v_ m_4 = some r → J SHM G rm_X12_last (.inl O) C 0 0 72 [(0, VR 0), (1, VI from_), (2, VI to_), (3, VI day_), (4, VI minute_)] [VI v_, VR 0] m_4 := by
            intro v_ m_4 h
            subst hk28
            dsimp only at h
            refine s_const X (by unfold InR; omega) dX12_last_72 ?_
            obtain ⟨r_5, m_6, hq38, h⟩ := bq2_some h
            refine s_callV (As := [VI v_, VI 3]) X cw_X12_130 SHM_0 rfl dX12_last_73 (L_M_isThrown G v_ 3 m_4 (r_5, m_6) hq38) rfl ⟨Nat.le_of_ble_eq_true rfl, Nat.le_of_ble_eq_true rfl⟩ ⟨Nat.le_of_ble_eq_true rfl, Nat.le_of_ble_eq_true rfl⟩ (Nat.le_of_ble_eq_true rfl) noT (kkR ?_)
            refine s_ifeq_f (tgt := 81) X dX12_last_76 (by omega) (fun c41 => ?_) (fun c42 => ?_)
            · replace h := ite_neg h c41
              refine s_const X (by unfold InR; omega) dX12_last_81 ?_
              obtain ⟨low_, e44, h⟩ := ltv_elim h
              refine s_istore X e44 rfl (by omega) dX12_last_82 ?_
              refine s_iload X 5 rfl dX12_last_84 ?_
              obtain ⟨high_, e46, h⟩ := ltv_elim h
              refine s_istore X e46 rfl (by omega) dX12_last_86 ?_
              obtain ⟨low_4, high_4, m_9, hl56, h⟩ := bq3_some h
              obtain ⟨fu470, hl57⟩ := loop_iter hl56
              have KX53 : ∀ q9 : Int × Int × Mem, q9 = (low_4, high_4, m_9) → J SHM G rm_X12_last (.inl O) C 0 0 136 [(6, VI q9.2.1), (5, VI q9.1), (0, VR 0), (1, VI from_), (2, VI to_), (3, VI day_), (4, VI minute_)] [] (q9.2.2) := by
                intro q9 e9
                subst e9
                show J SHM G rm_X12_last (.inl O) C 0 0 136 [(6, VI high_4), (5, VI low_4), (0, VR 0), (1, VI from_), (2, VI to_), (3, VI day_), (4, VI minute_)] [] m_9
                refine s_iload X 1 rfl dX12_last_136 ?_
                exact s_iret X (Nat.le_of_ble_eq_true rfl) (Nat.le_of_ble_eq_true rfl) (by cases h; exact hO) dX12_last_138
              have LP52 : ∀ (fu47 : Nat) (low_2 : Int) (high_2 : Int) (m_7 : Mem), iter (fun s => M_last_b1 from_ to_ day_ minute_ s.1 s.2.1 s.2.2) fu47 (low_2, high_2, m_7) = some (low_4, high_4, m_9) → J SHM G rm_X12_last (.inl O) C 0 0 88 [(6, VI high_2), (5, VI low_2), (0, VR 0), (1, VI from_), (2, VI to_), (3, VI day_), (4, VI minute_)] [] m_7 := by
                intro fu47
                induction fu47 with
                | zero => intro low_2 high_2 m_7 hn48; exact absurd hn48 (by simp [iter])
                | succ fu47 ih51 =>
                  intro low_2 high_2 m_7 hn48
                  obtain ⟨x49, h, hc50⟩ := iter_succ hn48
                  replace h : M_last_b1 from_ to_ day_ minute_ low_2 high_2 m_7 = some x49 := h
                  unfold M_last_b1 at h
                  refine s_iload X 1 rfl dX12_last_88 ?_
                  refine s_iload X 0 rfl dX12_last_90 ?_
                  refine s_icmpge_f (tgt := 136) X dX12_last_92 (by omega) (fun c61 => ?_) (fun c62 => ?_)
                  · replace h := ite_neg h c61
                    exact KX53 _ (iter_exit h hc50)
                  · replace h := ite_pos h c62
                    obtain ⟨g63, h⟩ := grd_some h
                    refine s_iload X 1 rfl dX12_last_95 ?_
                    refine s_iload X 0 rfl dX12_last_97 ?_
                    refine s_iadd X g63.1 dX12_last_99 ?_
                    refine s_const X (by unfold InR; omega) dX12_last_100 ?_
                    refine s_iadd X g63.2 dX12_last_101 ?_
                    refine s_const X (by unfold InR; omega) dX12_last_102 ?_
                    refine s_idiv X (by omega) dX12_last_103 ?_
                    obtain ⟨middle_, e64, h⟩ := ltv_elim h
                    refine s_istore X e64 rfl (by omega) dX12_last_104 ?_
                    refine s_load0 X 3 rfl dX12_last_106 ?_
                    refine s_iload_n X 4 rfl dX12_last_107 ?_
                    refine s_iload_n X 5 rfl dX12_last_108 ?_
                    refine s_iload_n X 6 rfl dX12_last_109 ?_
                    refine s_iload X 0 rfl dX12_last_110 ?_
                    obtain ⟨r_6, m_8, hq66, h⟩ := bq2_some h
                    refine s_callV (As := [VI from_, VI to_, VI day_, VI middle_]) X cw_X12_243 SHM_0 rfl dX12_last_112 (L_M_earliestOf G from_ to_ day_ middle_ m_7 (r_6, m_8) hq66) rfl ⟨Nat.le_of_ble_eq_true rfl, Nat.le_of_ble_eq_true rfl⟩ ⟨Nat.le_of_ble_eq_true rfl, Nat.le_of_ble_eq_true rfl⟩ (Nat.le_of_ble_eq_true rfl) noT (kkR ?_)
                    refine s_iload X 7 rfl dX12_last_115 ?_
                    refine s_icmpgt_f (tgt := 127) X dX12_last_117 (by omega) (fun c69 => ?_) (fun c70 => ?_)
                    · replace h := ite_neg h c69
                      obtain ⟨g71, h⟩ := grd_some h
                      refine s_iload X 0 rfl dX12_last_127 ?_
                      refine s_const X (by unfold InR; omega) dX12_last_129 ?_
                      refine s_isub X g71 dX12_last_130 ?_
                      obtain ⟨high_3, e72, h⟩ := ltv_elim h
                      refine s_istore X e72 rfl (by omega) dX12_last_131 ?_
                      refine s_goto (tgt := 88) X dX12_last_133 (by omega) ?_
                      refine s_loc [0, 2, 3, 4, 5, 6, 7] rfl ?_
                      exact ih51 _ _ _ (iter_next h hc50)
                    · replace h := ite_pos h c70
                      refine s_iload X 0 rfl dX12_last_120 ?_
                      obtain ⟨low_3, e74, h⟩ := ltv_elim h
                      refine s_istore X e74 rfl (by omega) dX12_last_122 ?_
                      refine s_goto (tgt := 133) X dX12_last_124 (by omega) ?_
                      refine s_goto (tgt := 88) X dX12_last_133 (by omega) ?_
                      refine s_loc [2, 0, 3, 4, 5, 6, 7] rfl ?_
                      exact ih51 _ _ _ (iter_next h hc50)
              exact LP52 _ _ _ _ hl57
            · replace h := ite_pos h c42
              refine s_const X (by unfold InR; omega) dX12_last_79 ?_
              exact s_iret X (Nat.le_of_ble_eq_true rfl) (Nat.le_of_ble_eq_true rfl) (by cases h; exact hO) dX12_last_80
          refine s_load0 X 0 rfl dX12_last_54 ?_
          refine s_iload_n X 1 rfl dX12_last_55 ?_
          refine s_iload_n X 2 rfl dX12_last_56 ?_
          refine s_iload_n X 3 rfl dX12_last_57 ?_
          refine s_const X (by unfold InR; omega) dX12_last_58 ?_
          obtain ⟨r_4, m_5, hq30, h⟩ := bq2_some h
          refine s_callV (As := [VI from_, VI to_, VI day_, VI 0]) X cw_X12_243 SHM_0 rfl dX12_last_59 (L_M_earliestOf G from_ to_ day_ 0 m_3 (r_4, m_5) hq30) rfl ⟨Nat.le_of_ble_eq_true rfl, Nat.le_of_ble_eq_true rfl⟩ ⟨Nat.le_of_ble_eq_true rfl, Nat.le_of_ble_eq_true rfl⟩ (Nat.le_of_ble_eq_true rfl) noT (kkR ?_)
          refine s_iload X 4 rfl dX12_last_62 ?_
          refine s_icmple_f (tgt := 71) X dX12_last_64 (by omega) (fun c33 => ?_) (fun c34 => ?_)
          · replace h := ite_neg h c33
            refine s_const X (by unfold InR; omega) dX12_last_71 ?_
            exact s_kn rfl rfl (K29 _ _ h)
          · replace h := ite_pos h c34
            refine s_const X (by unfold InR; omega) dX12_last_67 ?_
            refine s_goto (tgt := 72) X dX12_last_68 (by omega) ?_
            exact s_kn rfl rfl (K29 _ _ h)
        · replace h := ite_pos h c26
          refine s_const X (by unfold InR; omega) dX12_last_51 ?_
          exact s_iret X (Nat.le_of_ble_eq_true rfl) (Nat.le_of_ble_eq_true rfl) (by cases h; exact hO) dX12_last_52
      refine s_iload_n X 3 rfl dX12_last_17 ?_
      refine s_const X (by unfold InR; omega) dX12_last_18 ?_
      refine s_bipush X (by omega) dX12_last_19 ?_
      refine s_callS (As := [VI day_, VI 0, VI 27]) X cw_X12_126 dX12_last_21 (L_M_isIn G day_ 0 27 m_2) rfl ⟨Nat.le_of_ble_eq_true rfl, Nat.le_of_ble_eq_true rfl⟩ ⟨Nat.le_of_ble_eq_true rfl, Nat.le_of_ble_eq_true rfl⟩ (Nat.le_of_ble_eq_true rfl) noT (kkR ?_)
      refine s_ifeq_t (tgt := 39) X dX12_last_24 (by omega) (fun c17 => ?_) (fun c18 => ?_)
      · refine s_const X (by unfold InR; omega) dX12_last_39 ?_
        refine s_goto (tgt := 44) X dX12_last_40 (by omega) ?_
        exact s_eqt (if_pos (Or.inl c17)) kM16
      · have a19 : ¬ (M_isIn day_ 0 27 = 0) := c18
        refine s_iload X 4 rfl dX12_last_27 ?_
        refine s_const X (by unfold InR; omega) dX12_last_29 ?_
        refine s_sipush X (by omega) dX12_last_30 ?_
        refine s_callS (As := [VI minute_, VI 0, VI 2879]) X cw_X12_126 dX12_last_33 (L_M_isIn G minute_ 0 2879 m_2) rfl ⟨Nat.le_of_ble_eq_true rfl, Nat.le_of_ble_eq_true rfl⟩ ⟨Nat.le_of_ble_eq_true rfl, Nat.le_of_ble_eq_true rfl⟩ (Nat.le_of_ble_eq_true rfl) noT (kkR ?_)
        refine s_ifne_f (tgt := 43) X dX12_last_36 (by omega) (fun c20 => ?_) (fun c21 => ?_)
        · refine s_const X (by unfold InR; omega) dX12_last_43 ?_
          exact s_eqt (if_neg (fun q => q.elim a19 c20)) kM16
        · refine s_const X (by unfold InR; omega) dX12_last_39 ?_
          refine s_goto (tgt := 44) X dX12_last_40 (by omega) ?_
          exact s_eqt (if_pos (Or.inr c21)) kM16
set_option maxRecDepth 20000 in
set_option maxHeartbeats 4000000 in
theorem L_M_onBoard (G : Gl) (day_ : Int) (trip_ : Int) (call_ : Int) (to_ : Int) (m : Mem) (r : (Int × Mem))  (h : M_onBoard day_ trip_ call_ to_ m = some r) : Con SHM G yX12_onBoard cX12_onBoard 6 (some .int) rm_X12_onBoard [VR 0, VI day_, VI trip_, VI call_, VI to_] m (((.inl (some (VI r.1)), r.2) : Res × Mem)) := by
  refine con_of (own := "LastbusModel") (by decide) rfl (Nat.le_of_ble_eq_true rfl) (fun C X => ?_)
  obtain ⟨O, hO⟩ : ∃ O : Res × Mem, O = (((.inl (some (VI r.1)), r.2) : Res × Mem)) := ⟨_, rfl⟩
  rw [← hO]
  show J SHM G rm_X12_onBoard (.inl O) C 0 0 0 [(0, VR 0), (1, VI day_), (2, VI trip_), (3, VI call_), (4, VI to_)] [] m
  unfold M_onBoard at h
  refine s_load0 X 0 rfl dX12_onBoard_0 ?_
  refine s_iload_n X 2 rfl dX12_onBoard_1 ?_
  refine s_iload_n X 3 rfl dX12_onBoard_2 ?_
  obtain ⟨r_, m_, hq2, h⟩ := bq2_some h
  refine s_callV (As := [VI trip_, VI call_]) X cw_X12_162 SHM_0 rfl dX12_onBoard_3 (L_M_isNoCall G trip_ call_ m (r_, m_) hq2) rfl ⟨Nat.le_of_ble_eq_true rfl, Nat.le_of_ble_eq_true rfl⟩ ⟨Nat.le_of_ble_eq_true rfl, Nat.le_of_ble_eq_true rfl⟩ (Nat.le_of_ble_eq_true rfl) noT (kkR ?_)
  refine s_ifne_t (tgt := 71) X dX12_onBoard_6 (by omega) (fun c5 => ?_) (fun c6 => ?_)
  · replace h := ite_pos h c5
    refine s_const X (by unfold InR; omega) dX12_onBoard_71 ?_
    exact s_iret X (Nat.le_of_ble_eq_true rfl) (Nat.le_of_ble_eq_true rfl) (by cases h; exact hO) dX12_onBoard_72
  · replace h := ite_neg h c6
    refine s_load0 X 0 rfl dX12_onBoard_9 ?_
    refine s_iload X 4 rfl dX12_onBoard_10 ?_
    obtain ⟨r_2, m_2, hq9, h⟩ := bq2_some h
    refine s_callV (As := [VI to_]) X cw_X12_147 SHM_0 rfl dX12_onBoard_12 (L_M_isNoStop G to_ m_ (r_2, m_2) hq9) rfl ⟨Nat.le_of_ble_eq_true rfl, Nat.le_of_ble_eq_true rfl⟩ ⟨Nat.le_of_ble_eq_true rfl, Nat.le_of_ble_eq_true rfl⟩ (Nat.le_of_ble_eq_true rfl) noT (kkR ?_)
    refine s_ifne_t (tgt := 71) X dX12_onBoard_15 (by omega) (fun c12 => ?_) (fun c13 => ?_)
    · replace h := ite_pos h c12
      refine s_const X (by unfold InR; omega) dX12_onBoard_71 ?_
      exact s_iret X (Nat.le_of_ble_eq_true rfl) (Nat.le_of_ble_eq_true rfl) (by cases h; exact hO) dX12_onBoard_72
    · replace h := ite_neg h c13
      refine s_load0 X 0 rfl dX12_onBoard_18 ?_
      refine s_iload_n X 1 rfl dX12_onBoard_19 ?_
      refine s_const X (by unfold InR; omega) dX12_onBoard_20 ?_
      obtain ⟨r_3, m_3, hq16, h⟩ := bq2_some h
      refine s_callV (As := [VI day_, VI 2]) X cw_X12_154 SHM_0 rfl dX12_onBoard_21 (L_M_isNoDay G day_ 2 m_2 (r_3, m_3) hq16) rfl ⟨Nat.le_of_ble_eq_true rfl, Nat.le_of_ble_eq_true rfl⟩ ⟨Nat.le_of_ble_eq_true rfl, Nat.le_of_ble_eq_true rfl⟩ (Nat.le_of_ble_eq_true rfl) noT (kkR ?_)
      refine s_ifne_t (tgt := 71) X dX12_onBoard_24 (by omega) (fun c19 => ?_) (fun c20 => ?_)
      · replace h := ite_pos h c19
        refine s_const X (by unfold InR; omega) dX12_onBoard_71 ?_
        exact s_iret X (Nat.le_of_ble_eq_true rfl) (Nat.le_of_ble_eq_true rfl) (by cases h; exact hO) dX12_onBoard_72
      · replace h := ite_neg h c20
        obtain ⟨g22, h⟩ := grd_some h
        refine s_load0 X 0 rfl dX12_onBoard_27 ?_
        have kM23 : J SHM G rm_X12_onBoard (.inl O) C 0 0 64 [(0, VR 0), (1, VI day_), (2, VI trip_), (3, VI call_), (4, VI to_)] [VI (if (m_3 4 (28 * (m_3 5 trip_.toNat) + day_).toNat = 0) ∨ (call_ = m_3 6 trip_.toNat - 1) then 1 else 0), VR 0] m_3 := by
          refine s_const X (by unfold InR; omega) dX12_onBoard_64 ?_
          obtain ⟨r_4, m_4, hq29, h⟩ := bq2_some h
          refine s_callV (As := [VI (if (m_3 4 (28 * (m_3 5 trip_.toNat) + day_).toNat = 0) ∨ (call_ = m_3 6 trip_.toNat - 1) then 1 else 0), VI 3]) X cw_X12_130 SHM_0 rfl dX12_onBoard_65 (L_M_isThrown G (if (m_3 4 (28 * (m_3 5 trip_.toNat) + day_).toNat = 0) ∨ (call_ = m_3 6 trip_.toNat - 1) then 1 else 0) 3 m_3 (r_4, m_4) hq29) rfl ⟨Nat.le_of_ble_eq_true rfl, Nat.le_of_ble_eq_true rfl⟩ ⟨Nat.le_of_ble_eq_true rfl, Nat.le_of_ble_eq_true rfl⟩ (Nat.le_of_ble_eq_true rfl) noT (kkR ?_)
          refine s_ifeq_f (tgt := 73) X dX12_onBoard_68 (by omega) (fun c32 => ?_) (fun c33 => ?_)
          · replace h := ite_neg h c32
            refine s_load0 X 0 rfl dX12_onBoard_73 ?_
            refine s_iload_n X 1 rfl dX12_onBoard_74 ?_
            obtain ⟨m_5, e35, h⟩ := ltv_elim h
            refine s_putI X e35 fp_X12_198 SHM_0 rfl trivial dX12_onBoard_75 ?_
            refine s_load0 X 0 rfl dX12_onBoard_78 ?_
            obtain ⟨m_6, hq37, h⟩ := bnd_some h
            refine s_callV (As := []) X cw_X12_201 SHM_0 rfl dX12_onBoard_79 (L_M_nowhere G m_5 m_6 hq37) rfl ⟨Nat.le_of_ble_eq_true rfl, Nat.le_of_ble_eq_true rfl⟩ ⟨Nat.le_of_ble_eq_true rfl, Nat.le_of_ble_eq_true rfl⟩ (Nat.le_of_ble_eq_true rfl) noT (kkU ?_)
            obtain ⟨g40, h⟩ := grd_some h
            refine s_iload_n X 3 rfl dX12_onBoard_82 ?_
            refine s_const X (by unfold InR; omega) dX12_onBoard_83 ?_
            refine s_iadd X g40 dX12_onBoard_84 ?_
            obtain ⟨c_, e41, h⟩ := ltv_elim h
            refine s_istore X e41 rfl (by omega) dX12_onBoard_85 ?_
            obtain ⟨c_4, m_9, hl51, h⟩ := bq2_some h
            obtain ⟨fu420, hl52⟩ := loop_iter hl51
            have KX48 : ∀ q9 : Int × Mem, q9 = (c_4, m_9) → J SHM G rm_X12_onBoard (.inl O) C 0 0 128 [(5, VI q9.1), (0, VR 0), (1, VI day_), (2, VI trip_), (3, VI call_), (4, VI to_)] [] (q9.2) := by
              intro q9 e9
              subst e9
              show J SHM G rm_X12_onBoard (.inl O) C 0 0 128 [(5, VI c_4), (0, VR 0), (1, VI day_), (2, VI trip_), (3, VI call_), (4, VI to_)] [] m_9
              refine s_load0 X 1 rfl dX12_onBoard_128 ?_
              obtain ⟨m_10, hq71, h⟩ := bnd_some h
              refine s_callV (As := []) X cw_X12_232 SHM_0 rfl dX12_onBoard_129 (L_M_settle G m_9 m_10 hq71) rfl ⟨Nat.le_of_ble_eq_true rfl, Nat.le_of_ble_eq_true rfl⟩ ⟨Nat.le_of_ble_eq_true rfl, Nat.le_of_ble_eq_true rfl⟩ (Nat.le_of_ble_eq_true rfl) noT (kkU ?_)
              refine s_load0 X 1 rfl dX12_onBoard_132 ?_
              obtain ⟨kj_, hk75, h⟩ := ltv_elim h
              have K76 : ∀ (v_ : Int), kj_ v_ = some r → J SHM G rm_X12_onBoard (.inl O) C 0 0 149 [(0, VR 0), (1, VI day_), (2, VI trip_), (3, VI call_), (4, VI to_)] [VI v_, VR 0] m_10 := by
                intro v_ h
                subst hk75
                dsimp only at h
                refine s_const X (by unfold InR; omega) dX12_onBoard_149 ?_
                obtain ⟨r_8, m_11, hq85, h⟩ := bq2_some h
                refine s_callV (As := [VI v_, VI 4]) X cw_X12_130 SHM_0 rfl dX12_onBoard_150 (L_M_isThrown G v_ 4 m_10 (r_8, m_11) hq85) rfl ⟨Nat.le_of_ble_eq_true rfl, Nat.le_of_ble_eq_true rfl⟩ ⟨Nat.le_of_ble_eq_true rfl, Nat.le_of_ble_eq_true rfl⟩ (Nat.le_of_ble_eq_true rfl) noT (kkR ?_)
                refine s_ifeq_f (tgt := 160) X dX12_onBoard_153 (by omega) (fun c88 => ?_) (fun c89 => ?_)
                · replace h := ite_neg h c88
                  refine s_load0 X 0 rfl dX12_onBoard_160 ?_
                  refine s_iload X 4 rfl dX12_onBoard_161 ?_
                  obtain ⟨r_9, hq91, h⟩ := bnd_some h
                  refine s_callV (As := [VI to_]) X cw_X12_235 SHM_0 rfl dX12_onBoard_163 (L_M_at G to_ m_11 r_9 hq91) rfl ⟨Nat.le_of_ble_eq_true rfl, Nat.le_of_ble_eq_true rfl⟩ ⟨Nat.le_of_ble_eq_true rfl, Nat.le_of_ble_eq_true rfl⟩ (Nat.le_of_ble_eq_true rfl) noT (kkR ?_)
                  exact s_iret X (Nat.le_of_ble_eq_true rfl) (Nat.le_of_ble_eq_true rfl) (by cases h; exact hO) dX12_onBoard_166
                · replace h := ite_pos h c89
                  refine s_const X (by unfold InR; omega) dX12_onBoard_156 ?_
                  refine s_goto (tgt := 166) X dX12_onBoard_157 (by omega) ?_
                  exact s_iret X (Nat.le_of_ble_eq_true rfl) (Nat.le_of_ble_eq_true rfl) (by cases h; exact hO) dX12_onBoard_166
              refine s_load0 X 1 rfl dX12_onBoard_133 ?_
              refine s_iload X 5 rfl dX12_onBoard_134 ?_
              obtain ⟨r_7, hq77, h⟩ := bnd_some h
              refine s_callV (As := [VI to_]) X cw_X12_235 SHM_0 rfl dX12_onBoard_136 (L_M_at G to_ m_10 r_7 hq77) rfl ⟨Nat.le_of_ble_eq_true rfl, Nat.le_of_ble_eq_true rfl⟩ ⟨Nat.le_of_ble_eq_true rfl, Nat.le_of_ble_eq_true rfl⟩ (Nat.le_of_ble_eq_true rfl) noT (kkR ?_)
              refine s_ldc (z := 1000000) X (by unfold InR; omega) kc_X12_150 dX12_onBoard_139 ?_
              refine s_icmplt_f (tgt := 148) X dX12_onBoard_141 (by omega) (fun c80 => ?_) (fun c81 => ?_)
              · replace h := ite_neg h c80
                refine s_const X (by unfold InR; omega) dX12_onBoard_148 ?_
                refine s_loc [1, 2, 3, 4, 5] rfl ?_
                exact s_kn rfl rfl (K76 _ h)
              · replace h := ite_pos h c81
                refine s_const X (by unfold InR; omega) dX12_onBoard_144 ?_
                refine s_goto (tgt := 149) X dX12_onBoard_145 (by omega) ?_
                refine s_loc [1, 2, 3, 4, 5] rfl ?_
                exact s_kn rfl rfl (K76 _ h)
            have LP47 : ∀ (fu42 : Nat) (c_2 : Int) (m_7 : Mem), iter (fun s => M_onBoard_b1 trip_ s.1 s.2) fu42 (c_2, m_7) = some (c_4, m_9) → J SHM G rm_X12_onBoard (.inl O) C 0 0 87 [(5, VI c_2), (0, VR 0), (1, VI day_), (2, VI trip_), (3, VI call_), (4, VI to_)] [] m_7 := by
              intro fu42
              induction fu42 with
              | zero => intro c_2 m_7 hn43; exact absurd hn43 (by simp [iter])
              | succ fu42 ih46 =>
                intro c_2 m_7 hn43
                obtain ⟨x44, h, hc45⟩ := iter_succ hn43
                replace h : M_onBoard_b1 trip_ c_2 m_7 = some x44 := h
                unfold M_onBoard_b1 at h
                obtain ⟨g53, h⟩ := grd_some h
                refine s_iload X 0 rfl dX12_onBoard_87 ?_
                refine s_load0 X 1 rfl dX12_onBoard_89 ?_
                refine s_getR (id := 6) X fk_X12_30 SHM_0 rfl dX12_onBoard_90 ?_
                refine s_iload_n X 3 rfl dX12_onBoard_93 ?_
                refine s_iald X SHM_6 g53.1 g53.2 dX12_onBoard_94 ?_
                refine s_icmpge_f (tgt := 128) X dX12_onBoard_95 (by omega) (fun c56 => ?_) (fun c57 => ?_)
                · replace h := ite_neg h c56
                  exact KX48 _ (iter_exit h hc45)
                · replace h := ite_pos h c57
                  obtain ⟨g58, h⟩ := grd_some h
                  refine s_load0 X 1 rfl dX12_onBoard_98 ?_
                  refine s_load0 X 1 rfl dX12_onBoard_99 ?_
                  refine s_bipush X (by omega) dX12_onBoard_100 ?_
                  refine s_iload_n X 3 rfl dX12_onBoard_102 ?_
                  refine s_iadd X g58 dX12_onBoard_103 ?_
                  refine s_iload X 0 rfl dX12_onBoard_104 ?_
                  obtain ⟨r_5, hq59, h⟩ := bnd_some h
                  refine s_callV (As := [VI (24 + trip_), VI c_2]) X cw_X12_214 SHM_0 rfl dX12_onBoard_106 (L_M_stopIn G (24 + trip_) c_2 m_7 r_5 hq59) rfl ⟨Nat.le_of_ble_eq_true rfl, Nat.le_of_ble_eq_true rfl⟩ ⟨Nat.le_of_ble_eq_true rfl, Nat.le_of_ble_eq_true rfl⟩ (Nat.le_of_ble_eq_true rfl) noT (kkR ?_)
                  refine s_load0 X 1 rfl dX12_onBoard_109 ?_
                  refine s_bipush X (by omega) dX12_onBoard_110 ?_
                  refine s_iload_n X 3 rfl dX12_onBoard_112 ?_
                  refine s_iadd X g58 dX12_onBoard_113 ?_
                  refine s_iload X 0 rfl dX12_onBoard_114 ?_
                  obtain ⟨r_6, hq62, h⟩ := bnd_some h
                  refine s_callV (As := [VI (24 + trip_), VI c_2]) X cw_X12_217 SHM_0 rfl dX12_onBoard_116 (L_M_comesAt G (24 + trip_) c_2 m_7 r_6 hq62) rfl ⟨Nat.le_of_ble_eq_true rfl, Nat.le_of_ble_eq_true rfl⟩ ⟨Nat.le_of_ble_eq_true rfl, Nat.le_of_ble_eq_true rfl⟩ (Nat.le_of_ble_eq_true rfl) noT (kkR ?_)
                  obtain ⟨m_8, hq65, h⟩ := bnd_some h
                  refine s_callV (As := [VI r_5, VI r_6]) X cw_X12_220 SHM_0 rfl dX12_onBoard_119 (L_M_getsOff G r_5 r_6 m_7 m_8 hq65) rfl ⟨Nat.le_of_ble_eq_true rfl, Nat.le_of_ble_eq_true rfl⟩ ⟨Nat.le_of_ble_eq_true rfl, Nat.le_of_ble_eq_true rfl⟩ (Nat.le_of_ble_eq_true rfl) noT (kkU ?_)
                  obtain ⟨g68, h⟩ := grd_some h
                  obtain ⟨c_3, e69, h⟩ := ltv_elim h
                  refine s_iinc X 0 rfl g68 e69 rfl (by omega) dX12_onBoard_122 ?_
                  refine s_goto (tgt := 87) X dX12_onBoard_125 (by omega) ?_
                  exact ih46 _ _ (iter_next h hc45)
            exact LP47 _ _ _ hl52
          · replace h := ite_pos h c33
            refine s_const X (by unfold InR; omega) dX12_onBoard_71 ?_
            exact s_iret X (Nat.le_of_ble_eq_true rfl) (Nat.le_of_ble_eq_true rfl) (by cases h; exact hO) dX12_onBoard_72
        refine s_load0 X 0 rfl dX12_onBoard_28 ?_
        refine s_getR (id := 4) X fk_X12_23 SHM_0 rfl dX12_onBoard_29 ?_
        refine s_bipush X (by omega) dX12_onBoard_32 ?_
        refine s_load0 X 0 rfl dX12_onBoard_34 ?_
        refine s_getR (id := 5) X fk_X12_27 SHM_0 rfl dX12_onBoard_35 ?_
        refine s_iload_n X 2 rfl dX12_onBoard_38 ?_
        refine s_iald X SHM_5 g22.1 g22.2.1 dX12_onBoard_39 ?_
        refine s_imul X g22.2.2.1 dX12_onBoard_40 ?_
        refine s_iload_n X 1 rfl dX12_onBoard_41 ?_
        refine s_iadd X g22.2.2.2.1 dX12_onBoard_42 ?_
        refine s_bald X SHM_4 g22.2.2.2.2.1 g22.2.2.2.2.2.1 dX12_onBoard_43 ?_
        refine s_ifeq_t (tgt := 59) X dX12_onBoard_44 (by omega) (fun c24 => ?_) (fun c25 => ?_)
        · refine s_const X (by unfold InR; omega) dX12_onBoard_59 ?_
          refine s_goto (tgt := 64) X dX12_onBoard_60 (by omega) ?_
          exact s_eqt (if_pos (Or.inl c24)) kM23
        · have a26 : ¬ (m_3 4 (28 * (m_3 5 trip_.toNat) + day_).toNat = 0) := c25
          refine s_iload_n X 3 rfl dX12_onBoard_47 ?_
          refine s_load0 X 0 rfl dX12_onBoard_48 ?_
          refine s_getR (id := 6) X fk_X12_30 SHM_0 rfl dX12_onBoard_49 ?_
          refine s_iload_n X 2 rfl dX12_onBoard_52 ?_
          refine s_iald X SHM_6 g22.1 g22.2.1 dX12_onBoard_53 ?_
          refine s_const X (by unfold InR; omega) dX12_onBoard_54 ?_
          refine s_isub X (g22.2.2.2.2.2.2 a26) dX12_onBoard_55 ?_
          refine s_icmpne_f (tgt := 63) X dX12_onBoard_56 (by omega) (fun c27 => ?_) (fun c28 => ?_)
          · refine s_const X (by unfold InR; omega) dX12_onBoard_63 ?_
            exact s_eqt (if_neg (fun q => q.elim a26 c27)) kM23
          · refine s_const X (by unfold InR; omega) dX12_onBoard_59 ?_
            refine s_goto (tgt := 64) X dX12_onBoard_60 (by omega) ?_
            exact s_eqt (if_pos (Or.inr c28)) kM23
set_option maxRecDepth 20000 in
set_option maxHeartbeats 4000000 in
theorem L_M_keepRound (G : Gl)  (m : Mem) (r : Mem)  (h : M_keepRound  m = some r) : Con SHM G yX12_keepRound cX12_keepRound 2 none rm_X12_keepRound [VR 0] m (((.inl none, r) : Res × Mem)) := by
  refine con_of (own := "LastbusModel") (by decide) rfl (Nat.le_of_ble_eq_true rfl) (fun C X => ?_)
  obtain ⟨O, hO⟩ : ∃ O : Res × Mem, O = (((.inl none, r) : Res × Mem)) := ⟨_, rfl⟩
  rw [← hO]
  show J SHM G rm_X12_keepRound (.inl O) C 0 0 0 [(0, VR 0)] [] m
  unfold M_keepRound at h
  refine s_const X (by unfold InR; omega) dX12_keepRound_0 ?_
  obtain ⟨v_, e2, h⟩ := ltv_elim h
  refine s_istore_n X e2 rfl (by omega) dX12_keepRound_1 ?_
  obtain ⟨v_4, m_4, hl12, h⟩ := bq2_some h
  obtain ⟨fu30, hl13⟩ := loop_iter hl12
  have KX9 : ∀ q9 : Int × Mem, q9 = (v_4, m_4) → J SHM G rm_X12_keepRound (.inl O) C 0 0 54 [(1, VI q9.1), (0, VR 0)] [] (q9.2) := by
    intro q9 e9
    subst e9
    show J SHM G rm_X12_keepRound (.inl O) C 0 0 54 [(1, VI v_4), (0, VR 0)] [] m_4
    obtain ⟨g25, h⟩ := grd_some h
    refine s_load0 X 1 rfl dX12_keepRound_54 ?_
    refine s_dup X rfl dX12_keepRound_55 ?_
    refine s_getI X fk_X12_250 SHM_0 rfl dX12_keepRound_56 ?_
    refine s_const X (by unfold InR; omega) dX12_keepRound_59 ?_
    refine s_iadd X g25 dX12_keepRound_60 ?_
    obtain ⟨m_5, e26, h⟩ := ltv_elim h
    refine s_putI X e26 fp_X12_250 SHM_0 rfl trivial dX12_keepRound_61 ?_
    exact s_vret X (Nat.le_of_ble_eq_true rfl) (Nat.le_of_ble_eq_true rfl) (by cases h; exact hO) dX12_keepRound_64
  have LP8 : ∀ (fu3 : Nat) (v_2 : Int) (m_ : Mem), iter (fun s => M_keepRound_b1 s.1 s.2) fu3 (v_2, m_) = some (v_4, m_4) → J SHM G rm_X12_keepRound (.inl O) C 0 0 2 [(1, VI v_2), (0, VR 0)] [] m_ := by
    intro fu3
    induction fu3 with
    | zero => intro v_2 m_ hn4; exact absurd hn4 (by simp [iter])
    | succ fu3 ih7 =>
      intro v_2 m_ hn4
      obtain ⟨x5, h, hc6⟩ := iter_succ hn4
      replace h : M_keepRound_b1 v_2 m_ = some x5 := h
      unfold M_keepRound_b1 at h
      refine s_iload_n X 0 rfl dX12_keepRound_2 ?_
      refine s_bipush X (by omega) dX12_keepRound_3 ?_
      refine s_icmpge_f (tgt := 54) X dX12_keepRound_5 (by omega) (fun c17 => ?_) (fun c18 => ?_)
      · replace h := ite_neg h c17
        exact KX9 _ (iter_exit h hc6)
      · replace h := ite_pos h c18
        obtain ⟨g19, h⟩ := grd_some h
        refine s_load0 X 1 rfl dX12_keepRound_8 ?_
        refine s_getR (id := 17) X fk_X12_66 SHM_0 rfl dX12_keepRound_9 ?_
        refine s_bipush X (by omega) dX12_keepRound_12 ?_
        refine s_load0 X 1 rfl dX12_keepRound_14 ?_
        refine s_getI X fk_X12_250 SHM_0 rfl dX12_keepRound_15 ?_
        refine s_imul X g19.1 dX12_keepRound_18 ?_
        refine s_iload_n X 0 rfl dX12_keepRound_19 ?_
        refine s_iadd X g19.2.1 dX12_keepRound_20 ?_
        refine s_load0 X 1 rfl dX12_keepRound_21 ?_
        refine s_getR (id := 15) X fk_X12_60 SHM_0 rfl dX12_keepRound_22 ?_
        refine s_iload_n X 0 rfl dX12_keepRound_25 ?_
        refine s_iald X SHM_15 g19.2.2.2.2.1 g19.2.2.2.2.2 dX12_keepRound_26 ?_
        obtain ⟨m_2, e20, h⟩ := ltv_elim h
        refine s_iast X e20 SHM_17 g19.2.2.1 g19.2.2.2.1 dX12_keepRound_27 ?_
        obtain ⟨g21, h⟩ := grd_some h
        refine s_load0 X 1 rfl dX12_keepRound_28 ?_
        refine s_getR (id := 18) X fk_X12_69 SHM_0 rfl dX12_keepRound_29 ?_
        refine s_bipush X (by omega) dX12_keepRound_32 ?_
        refine s_load0 X 1 rfl dX12_keepRound_34 ?_
        refine s_getI X fk_X12_250 SHM_0 rfl dX12_keepRound_35 ?_
        refine s_imul X g21.1 dX12_keepRound_38 ?_
        refine s_iload_n X 0 rfl dX12_keepRound_39 ?_
        refine s_iadd X g21.2.1 dX12_keepRound_40 ?_
        refine s_load0 X 1 rfl dX12_keepRound_41 ?_
        refine s_getR (id := 16) X fk_X12_63 SHM_0 rfl dX12_keepRound_42 ?_
        refine s_iload_n X 0 rfl dX12_keepRound_45 ?_
        refine s_iald X SHM_16 g19.2.2.2.2.1 g19.2.2.2.2.2 dX12_keepRound_46 ?_
        obtain ⟨m_3, e22, h⟩ := ltv_elim h
        refine s_iast X e22 SHM_18 g21.2.2.1 g21.2.2.2 dX12_keepRound_47 ?_
        obtain ⟨g23, h⟩ := grd_some h
        obtain ⟨v_3, e24, h⟩ := ltv_elim h
        refine s_iinc X 0 rfl g23 e24 rfl (by omega) dX12_keepRound_48 ?_
        refine s_goto (tgt := 2) X dX12_keepRound_51 (by omega) ?_
        exact ih7 _ _ (iter_next h hc6)
  exact LP8 _ _ _ hl13
