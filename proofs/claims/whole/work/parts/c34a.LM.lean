/-! ===== printed by a program out of the Java source and the decode rows: 34a.LM ===== -/
set_option maxRecDepth 20000 in
set_option maxHeartbeats 4000000 in
theorem L_M_thrown (G : Gl)  (m : Mem) (r : Int)  (h : M_thrown  m = some r) : Con SHM G yX12_thrown cX12_thrown 1 (some .int) rm_X12_thrown [VR 0] m (((.inl (some (VI r)), m) : Res × Mem)) := by
  refine con_of (own := "LastbusModel") (by decide) rfl (Nat.le_of_ble_eq_true rfl) (fun C X => ?_)
  obtain ⟨O, hO⟩ : ∃ O : Res × Mem, O = (((.inl (some (VI r)), m) : Res × Mem)) := ⟨_, rfl⟩
  rw [← hO]
  show J SHM G rm_X12_thrown (.inl O) C 0 0 0 [(0, VR 0)] [] m
  unfold M_thrown at h
  refine s_load0 X 0 rfl dX12_thrown_0 ?_
  refine s_getI X fk_X12_120 SHM_0 rfl dX12_thrown_1 ?_
  exact s_iret X (Nat.le_of_ble_eq_true rfl) (Nat.le_of_ble_eq_true rfl) (by cases h; exact hO) dX12_thrown_4
set_option maxRecDepth 20000 in
set_option maxHeartbeats 4000000 in
theorem L_M_isThrown (G : Gl) (is_ : Int) (as_ : Int) (m : Mem) (r : (Int × Mem))  (h : M_isThrown is_ as_ m = some r) : Con SHM G yX12_isThrown cX12_isThrown 3 (some .boolean) rm_X12_isThrown [VR 0, VI is_, VI as_] m (((.inl (some (VI r.1)), r.2) : Res × Mem)) := by
  refine con_of (own := "LastbusModel") (by decide) rfl (Nat.le_of_ble_eq_true rfl) (fun C X => ?_)
  obtain ⟨O, hO⟩ : ∃ O : Res × Mem, O = (((.inl (some (VI r.1)), r.2) : Res × Mem)) := ⟨_, rfl⟩
  rw [← hO]
  show J SHM G rm_X12_isThrown (.inl O) C 0 0 0 [(0, VR 0), (1, VI is_), (2, VI as_)] [] m
  unfold M_isThrown at h
  refine s_load0 X 0 rfl dX12_isThrown_0 ?_
  have kM2 : J SHM G rm_X12_isThrown (.inl O) C 0 0 10 [(0, VR 0), (1, VI is_), (2, VI as_)] [VI (if ¬ is_ = 0 then as_ else 0), VR 0] m := by
    obtain ⟨m_, e5, h⟩ := ltv_elim h
    refine s_putI X e5 fp_X12_120 SHM_0 rfl trivial dX12_isThrown_10 ?_
    obtain ⟨g6, h⟩ := grd_some h
    refine s_iload_n X 1 rfl dX12_isThrown_13 ?_
    exact s_zret X g6 (Nat.le_of_ble_eq_true rfl) (Nat.le_of_ble_eq_true rfl) (by cases h; exact hO) dX12_isThrown_14
  refine s_iload_n X 1 rfl dX12_isThrown_1 ?_
  refine s_ifeq_f (tgt := 9) X dX12_isThrown_2 (by omega) (fun c3 => ?_) (fun c4 => ?_)
  · refine s_const X (by unfold InR; omega) dX12_isThrown_9 ?_
    exact s_eqt (if_neg c3) kM2
  · refine s_iload_n X 2 rfl dX12_isThrown_5 ?_
    refine s_goto (tgt := 10) X dX12_isThrown_6 (by omega) ?_
    exact s_eqt (if_pos c4) kM2
set_option maxRecDepth 20000 in
set_option maxHeartbeats 4000000 in
theorem L_M_isIn (G : Gl) (v_ : Int) (low_ : Int) (high_ : Int) (m : Mem) : Con SHM G yX12_isIn cX12_isIn 3 (some .boolean) rm_X12_isIn [VI v_, VI low_, VI high_] m ((.inl (some (VI (M_isIn v_ low_ high_))), m) : Res × Mem) := by
  refine con_of (own := "LastbusModel") (by decide) rfl (Nat.le_of_ble_eq_true rfl) (fun C X => ?_)
  obtain ⟨O, hO⟩ : ∃ O : Res × Mem, O = ((.inl (some (VI (M_isIn v_ low_ high_))), m) : Res × Mem) := ⟨_, rfl⟩
  rw [← hO]
  show J SHM G rm_X12_isIn (.inl O) C 0 0 0 [(0, VI v_), (1, VI low_), (2, VI high_)] [] m
  have kM2 : J SHM G rm_X12_isIn (.inl O) C 0 0 15 [(0, VI v_), (1, VI low_), (2, VI high_)] [VI (if (low_ ≤ v_) ∧ (v_ ≤ high_) then 1 else 0)] m := by
    exact s_zret X okT_ite (Nat.le_of_ble_eq_true rfl) (Nat.le_of_ble_eq_true rfl) (by rw [hO]; rfl) dX12_isIn_15
  refine s_iload_n X 0 rfl dX12_isIn_0 ?_
  refine s_iload_n X 1 rfl dX12_isIn_1 ?_
  refine s_icmplt_f (tgt := 14) X dX12_isIn_2 (by omega) (fun c3 => ?_) (fun c4 => ?_)
  · refine s_const X (by unfold InR; omega) dX12_isIn_14 ?_
    exact s_eqt (if_neg (fun q => c3 q.1)) kM2
  · have a5 : low_ ≤ v_ := c4
    refine s_iload_n X 0 rfl dX12_isIn_5 ?_
    refine s_iload_n X 2 rfl dX12_isIn_6 ?_
    refine s_icmpgt_f (tgt := 14) X dX12_isIn_7 (by omega) (fun c6 => ?_) (fun c7 => ?_)
    · refine s_const X (by unfold InR; omega) dX12_isIn_14 ?_
      exact s_eqt (if_neg (fun q => c6 q.2)) kM2
    · refine s_const X (by unfold InR; omega) dX12_isIn_10 ?_
      refine s_goto (tgt := 15) X dX12_isIn_11 (by omega) ?_
      exact s_eqt (if_pos ⟨a5, c7⟩) kM2
set_option maxRecDepth 20000 in
set_option maxHeartbeats 4000000 in
theorem L_M_isNoStop (G : Gl) (stop_ : Int) (m : Mem) (r : (Int × Mem))  (h : M_isNoStop stop_ m = some r) : Con SHM G yX12_isNoStop cX12_isNoStop 2 (some .boolean) rm_X12_isNoStop [VR 0, VI stop_] m (((.inl (some (VI r.1)), r.2) : Res × Mem)) := by
  refine con_of (own := "LastbusModel") (by decide) rfl (Nat.le_of_ble_eq_true rfl) (fun C X => ?_)
  obtain ⟨O, hO⟩ : ∃ O : Res × Mem, O = (((.inl (some (VI r.1)), r.2) : Res × Mem)) := ⟨_, rfl⟩
  rw [← hO]
  show J SHM G rm_X12_isNoStop (.inl O) C 0 0 0 [(0, VR 0), (1, VI stop_)] [] m
  unfold M_isNoStop at h
  obtain ⟨g1, h⟩ := grd_some h
  refine s_load0 X 0 rfl dX12_isNoStop_0 ?_
  have kM2 : J SHM G rm_X12_isNoStop (.inl O) C 0 0 20 [(0, VR 0), (1, VI stop_)] [VI (if M_isIn stop_ 0 (m 0 1 - 1) = 0 then 1 else 0), VR 0] m := by
    refine s_const X (by unfold InR; omega) dX12_isNoStop_20 ?_
    obtain ⟨r_, m_, hq5, h⟩ := bq2_some h
    refine s_callV (As := [VI (if M_isIn stop_ 0 (m 0 1 - 1) = 0 then 1 else 0), VI 1]) X cw_X12_130 SHM_0 rfl dX12_isNoStop_21 (L_M_isThrown G (if M_isIn stop_ 0 (m 0 1 - 1) = 0 then 1 else 0) 1 m (r_, m_) hq5) rfl ⟨Nat.le_of_ble_eq_true rfl, Nat.le_of_ble_eq_true rfl⟩ ⟨Nat.le_of_ble_eq_true rfl, Nat.le_of_ble_eq_true rfl⟩ (Nat.le_of_ble_eq_true rfl) noT (kkR ?_)
    obtain ⟨g7, h⟩ := grd_some h
    exact s_zret X g7 (Nat.le_of_ble_eq_true rfl) (Nat.le_of_ble_eq_true rfl) (by cases h; exact hO) dX12_isNoStop_24
  refine s_iload_n X 1 rfl dX12_isNoStop_1 ?_
  refine s_const X (by unfold InR; omega) dX12_isNoStop_2 ?_
  refine s_load0 X 0 rfl dX12_isNoStop_3 ?_
  refine s_getI X fk_X12_123 SHM_0 rfl dX12_isNoStop_4 ?_
  refine s_const X (by unfold InR; omega) dX12_isNoStop_7 ?_
  refine s_isub X g1 dX12_isNoStop_8 ?_
  refine s_callS (As := [VI stop_, VI 0, VI (m 0 1 - 1)]) X cw_X12_126 dX12_isNoStop_9 (L_M_isIn G stop_ 0 (m 0 1 - 1) m) rfl ⟨Nat.le_of_ble_eq_true rfl, Nat.le_of_ble_eq_true rfl⟩ ⟨Nat.le_of_ble_eq_true rfl, Nat.le_of_ble_eq_true rfl⟩ (Nat.le_of_ble_eq_true rfl) noT (kkR ?_)
  refine s_ifne_f (tgt := 19) X dX12_isNoStop_12 (by omega) (fun c3 => ?_) (fun c4 => ?_)
  · refine s_const X (by unfold InR; omega) dX12_isNoStop_19 ?_
    exact s_eqt (if_neg c3) kM2
  · refine s_const X (by unfold InR; omega) dX12_isNoStop_15 ?_
    refine s_goto (tgt := 20) X dX12_isNoStop_16 (by omega) ?_
    exact s_eqt (if_pos c4) kM2
set_option maxRecDepth 20000 in
set_option maxHeartbeats 4000000 in
theorem L_M_isNoDay (G : Gl) (day_ : Int) (as_ : Int) (m : Mem) (r : (Int × Mem))  (h : M_isNoDay day_ as_ m = some r) : Con SHM G yX12_isNoDay cX12_isNoDay 3 (some .boolean) rm_X12_isNoDay [VR 0, VI day_, VI as_] m (((.inl (some (VI r.1)), r.2) : Res × Mem)) := by
  refine con_of (own := "LastbusModel") (by decide) rfl (Nat.le_of_ble_eq_true rfl) (fun C X => ?_)
  obtain ⟨O, hO⟩ : ∃ O : Res × Mem, O = (((.inl (some (VI r.1)), r.2) : Res × Mem)) := ⟨_, rfl⟩
  rw [← hO]
  show J SHM G rm_X12_isNoDay (.inl O) C 0 0 0 [(0, VR 0), (1, VI day_), (2, VI as_)] [] m
  unfold M_isNoDay at h
  refine s_load0 X 0 rfl dX12_isNoDay_0 ?_
  have kM2 : J SHM G rm_X12_isNoDay (.inl O) C 0 0 16 [(0, VR 0), (1, VI day_), (2, VI as_)] [VI (if M_isIn day_ 0 27 = 0 then 1 else 0), VR 0] m := by
    refine s_iload_n X 2 rfl dX12_isNoDay_16 ?_
    obtain ⟨r_, m_, hq5, h⟩ := bq2_some h
    refine s_callV (As := [VI (if M_isIn day_ 0 27 = 0 then 1 else 0), VI as_]) X cw_X12_130 SHM_0 rfl dX12_isNoDay_17 (L_M_isThrown G (if M_isIn day_ 0 27 = 0 then 1 else 0) as_ m (r_, m_) hq5) rfl ⟨Nat.le_of_ble_eq_true rfl, Nat.le_of_ble_eq_true rfl⟩ ⟨Nat.le_of_ble_eq_true rfl, Nat.le_of_ble_eq_true rfl⟩ (Nat.le_of_ble_eq_true rfl) noT (kkR ?_)
    obtain ⟨g7, h⟩ := grd_some h
    exact s_zret X g7 (Nat.le_of_ble_eq_true rfl) (Nat.le_of_ble_eq_true rfl) (by cases h; exact hO) dX12_isNoDay_20
  refine s_iload_n X 1 rfl dX12_isNoDay_1 ?_
  refine s_const X (by unfold InR; omega) dX12_isNoDay_2 ?_
  refine s_bipush X (by omega) dX12_isNoDay_3 ?_
  refine s_callS (As := [VI day_, VI 0, VI 27]) X cw_X12_126 dX12_isNoDay_5 (L_M_isIn G day_ 0 27 m) rfl ⟨Nat.le_of_ble_eq_true rfl, Nat.le_of_ble_eq_true rfl⟩ ⟨Nat.le_of_ble_eq_true rfl, Nat.le_of_ble_eq_true rfl⟩ (Nat.le_of_ble_eq_true rfl) noT (kkR ?_)
  refine s_ifne_f (tgt := 15) X dX12_isNoDay_8 (by omega) (fun c3 => ?_) (fun c4 => ?_)
  · refine s_const X (by unfold InR; omega) dX12_isNoDay_15 ?_
    exact s_eqt (if_neg c3) kM2
  · refine s_const X (by unfold InR; omega) dX12_isNoDay_11 ?_
    refine s_goto (tgt := 16) X dX12_isNoDay_12 (by omega) ?_
    exact s_eqt (if_pos c4) kM2
set_option maxRecDepth 20000 in
set_option maxHeartbeats 4000000 in
theorem L_M_isNoService (G : Gl) (service_ : Int) (m : Mem) (r : (Int × Mem))  (h : M_isNoService service_ m = some r) : Con SHM G yX12_isNoService cX12_isNoService 2 (some .boolean) rm_X12_isNoService [VR 0, VI service_] m (((.inl (some (VI r.1)), r.2) : Res × Mem)) := by
  refine con_of (own := "LastbusModel") (by decide) rfl (Nat.le_of_ble_eq_true rfl) (fun C X => ?_)
  obtain ⟨O, hO⟩ : ∃ O : Res × Mem, O = (((.inl (some (VI r.1)), r.2) : Res × Mem)) := ⟨_, rfl⟩
  rw [← hO]
  show J SHM G rm_X12_isNoService (.inl O) C 0 0 0 [(0, VR 0), (1, VI service_)] [] m
  unfold M_isNoService at h
  obtain ⟨g1, h⟩ := grd_some h
  refine s_load0 X 0 rfl dX12_isNoService_0 ?_
  have kM2 : J SHM G rm_X12_isNoService (.inl O) C 0 0 20 [(0, VR 0), (1, VI service_)] [VI (if M_isIn service_ 0 (m 0 6 - 1) = 0 then 1 else 0), VR 0] m := by
    refine s_const X (by unfold InR; omega) dX12_isNoService_20 ?_
    obtain ⟨r_, m_, hq5, h⟩ := bq2_some h
    refine s_callV (As := [VI (if M_isIn service_ 0 (m 0 6 - 1) = 0 then 1 else 0), VI 1]) X cw_X12_130 SHM_0 rfl dX12_isNoService_21 (L_M_isThrown G (if M_isIn service_ 0 (m 0 6 - 1) = 0 then 1 else 0) 1 m (r_, m_) hq5) rfl ⟨Nat.le_of_ble_eq_true rfl, Nat.le_of_ble_eq_true rfl⟩ ⟨Nat.le_of_ble_eq_true rfl, Nat.le_of_ble_eq_true rfl⟩ (Nat.le_of_ble_eq_true rfl) noT (kkR ?_)
    obtain ⟨g7, h⟩ := grd_some h
    exact s_zret X g7 (Nat.le_of_ble_eq_true rfl) (Nat.le_of_ble_eq_true rfl) (by cases h; exact hO) dX12_isNoService_24
  refine s_iload_n X 1 rfl dX12_isNoService_1 ?_
  refine s_const X (by unfold InR; omega) dX12_isNoService_2 ?_
  refine s_load0 X 0 rfl dX12_isNoService_3 ?_
  refine s_getI X fk_X12_134 SHM_0 rfl dX12_isNoService_4 ?_
  refine s_const X (by unfold InR; omega) dX12_isNoService_7 ?_
  refine s_isub X g1 dX12_isNoService_8 ?_
  refine s_callS (As := [VI service_, VI 0, VI (m 0 6 - 1)]) X cw_X12_126 dX12_isNoService_9 (L_M_isIn G service_ 0 (m 0 6 - 1) m) rfl ⟨Nat.le_of_ble_eq_true rfl, Nat.le_of_ble_eq_true rfl⟩ ⟨Nat.le_of_ble_eq_true rfl, Nat.le_of_ble_eq_true rfl⟩ (Nat.le_of_ble_eq_true rfl) noT (kkR ?_)
  refine s_ifne_f (tgt := 19) X dX12_isNoService_12 (by omega) (fun c3 => ?_) (fun c4 => ?_)
  · refine s_const X (by unfold InR; omega) dX12_isNoService_19 ?_
    exact s_eqt (if_neg c3) kM2
  · refine s_const X (by unfold InR; omega) dX12_isNoService_15 ?_
    refine s_goto (tgt := 20) X dX12_isNoService_16 (by omega) ?_
    exact s_eqt (if_pos c4) kM2
set_option maxRecDepth 20000 in
set_option maxHeartbeats 4000000 in
theorem L_M_isNoTrip (G : Gl) (trip_ : Int) (m : Mem) (r : (Int × Mem))  (h : M_isNoTrip trip_ m = some r) : Con SHM G yX12_isNoTrip cX12_isNoTrip 2 (some .boolean) rm_X12_isNoTrip [VR 0, VI trip_] m (((.inl (some (VI r.1)), r.2) : Res × Mem)) := by
  refine con_of (own := "LastbusModel") (by decide) rfl (Nat.le_of_ble_eq_true rfl) (fun C X => ?_)
  obtain ⟨O, hO⟩ : ∃ O : Res × Mem, O = (((.inl (some (VI r.1)), r.2) : Res × Mem)) := ⟨_, rfl⟩
  rw [← hO]
  show J SHM G rm_X12_isNoTrip (.inl O) C 0 0 0 [(0, VR 0), (1, VI trip_)] [] m
  unfold M_isNoTrip at h
  obtain ⟨g1, h⟩ := grd_some h
  refine s_load0 X 0 rfl dX12_isNoTrip_0 ?_
  have kM2 : J SHM G rm_X12_isNoTrip (.inl O) C 0 0 20 [(0, VR 0), (1, VI trip_)] [VI (if M_isIn trip_ 0 (m 0 8 - 1) = 0 then 1 else 0), VR 0] m := by
    refine s_const X (by unfold InR; omega) dX12_isNoTrip_20 ?_
    obtain ⟨r_, m_, hq5, h⟩ := bq2_some h
    refine s_callV (As := [VI (if M_isIn trip_ 0 (m 0 8 - 1) = 0 then 1 else 0), VI 1]) X cw_X12_130 SHM_0 rfl dX12_isNoTrip_21 (L_M_isThrown G (if M_isIn trip_ 0 (m 0 8 - 1) = 0 then 1 else 0) 1 m (r_, m_) hq5) rfl ⟨Nat.le_of_ble_eq_true rfl, Nat.le_of_ble_eq_true rfl⟩ ⟨Nat.le_of_ble_eq_true rfl, Nat.le_of_ble_eq_true rfl⟩ (Nat.le_of_ble_eq_true rfl) noT (kkR ?_)
    obtain ⟨g7, h⟩ := grd_some h
    exact s_zret X g7 (Nat.le_of_ble_eq_true rfl) (Nat.le_of_ble_eq_true rfl) (by cases h; exact hO) dX12_isNoTrip_24
  refine s_iload_n X 1 rfl dX12_isNoTrip_1 ?_
  refine s_const X (by unfold InR; omega) dX12_isNoTrip_2 ?_
  refine s_load0 X 0 rfl dX12_isNoTrip_3 ?_
  refine s_getI X fk_X12_137 SHM_0 rfl dX12_isNoTrip_4 ?_
  refine s_const X (by unfold InR; omega) dX12_isNoTrip_7 ?_
  refine s_isub X g1 dX12_isNoTrip_8 ?_
  refine s_callS (As := [VI trip_, VI 0, VI (m 0 8 - 1)]) X cw_X12_126 dX12_isNoTrip_9 (L_M_isIn G trip_ 0 (m 0 8 - 1) m) rfl ⟨Nat.le_of_ble_eq_true rfl, Nat.le_of_ble_eq_true rfl⟩ ⟨Nat.le_of_ble_eq_true rfl, Nat.le_of_ble_eq_true rfl⟩ (Nat.le_of_ble_eq_true rfl) noT (kkR ?_)
  refine s_ifne_f (tgt := 19) X dX12_isNoTrip_12 (by omega) (fun c3 => ?_) (fun c4 => ?_)
  · refine s_const X (by unfold InR; omega) dX12_isNoTrip_19 ?_
    exact s_eqt (if_neg c3) kM2
  · refine s_const X (by unfold InR; omega) dX12_isNoTrip_15 ?_
    refine s_goto (tgt := 20) X dX12_isNoTrip_16 (by omega) ?_
    exact s_eqt (if_pos c4) kM2
set_option maxRecDepth 20000 in
set_option maxHeartbeats 4000000 in
theorem L_M_isNoCall (G : Gl) (trip_ : Int) (call_ : Int) (m : Mem) (r : (Int × Mem))  (h : M_isNoCall trip_ call_ m = some r) : Con SHM G yX12_isNoCall cX12_isNoCall 3 (some .boolean) rm_X12_isNoCall [VR 0, VI trip_, VI call_] m (((.inl (some (VI r.1)), r.2) : Res × Mem)) := by
  refine con_of (own := "LastbusModel") (by decide) rfl (Nat.le_of_ble_eq_true rfl) (fun C X => ?_)
  obtain ⟨O, hO⟩ : ∃ O : Res × Mem, O = (((.inl (some (VI r.1)), r.2) : Res × Mem)) := ⟨_, rfl⟩
  rw [← hO]
  show J SHM G rm_X12_isNoCall (.inl O) C 0 0 0 [(0, VR 0), (1, VI trip_), (2, VI call_)] [] m
  unfold M_isNoCall at h
  refine s_load0 X 0 rfl dX12_isNoCall_0 ?_
  refine s_iload_n X 1 rfl dX12_isNoCall_1 ?_
  obtain ⟨r_, m_, hq2, h⟩ := bq2_some h
  refine s_callV (As := [VI trip_]) X cw_X12_140 SHM_0 rfl dX12_isNoCall_2 (L_M_isNoTrip G trip_ m (r_, m_) hq2) rfl ⟨Nat.le_of_ble_eq_true rfl, Nat.le_of_ble_eq_true rfl⟩ ⟨Nat.le_of_ble_eq_true rfl, Nat.le_of_ble_eq_true rfl⟩ (Nat.le_of_ble_eq_true rfl) noT (kkR ?_)
  refine s_ifne_t (tgt := 37) X dX12_isNoCall_5 (by omega) (fun c5 => ?_) (fun c6 => ?_)
  · replace h := ite_pos h c5
    refine s_const X (by unfold InR; omega) dX12_isNoCall_37 ?_
    refine s_goto (tgt := 42) X dX12_isNoCall_38 (by omega) ?_
    exact s_zret X (Or.inr rfl) (Nat.le_of_ble_eq_true rfl) (Nat.le_of_ble_eq_true rfl) (by cases h; exact hO) dX12_isNoCall_42
  · replace h := ite_neg h c6
    obtain ⟨g8, h⟩ := grd_some h
    refine s_load0 X 0 rfl dX12_isNoCall_8 ?_
    have kM9 : J SHM G rm_X12_isNoCall (.inl O) C 0 0 30 [(0, VR 0), (1, VI trip_), (2, VI call_)] [VI (if M_isIn call_ 0 (m_ 6 trip_.toNat - 1) = 0 then 1 else 0), VR 0] m_ := by
      refine s_const X (by unfold InR; omega) dX12_isNoCall_30 ?_
      obtain ⟨r_2, m_2, hq12, h⟩ := bq2_some h
      refine s_callV (As := [VI (if M_isIn call_ 0 (m_ 6 trip_.toNat - 1) = 0 then 1 else 0), VI 1]) X cw_X12_130 SHM_0 rfl dX12_isNoCall_31 (L_M_isThrown G (if M_isIn call_ 0 (m_ 6 trip_.toNat - 1) = 0 then 1 else 0) 1 m_ (r_2, m_2) hq12) rfl ⟨Nat.le_of_ble_eq_true rfl, Nat.le_of_ble_eq_true rfl⟩ ⟨Nat.le_of_ble_eq_true rfl, Nat.le_of_ble_eq_true rfl⟩ (Nat.le_of_ble_eq_true rfl) noT (kkR ?_)
      refine s_ifeq_f (tgt := 41) X dX12_isNoCall_34 (by omega) (fun c15 => ?_) (fun c16 => ?_)
      · replace h := ite_neg h c15
        refine s_const X (by unfold InR; omega) dX12_isNoCall_41 ?_
        exact s_zret X (Or.inl rfl) (Nat.le_of_ble_eq_true rfl) (Nat.le_of_ble_eq_true rfl) (by cases h; exact hO) dX12_isNoCall_42
      · replace h := ite_pos h c16
        refine s_const X (by unfold InR; omega) dX12_isNoCall_37 ?_
        refine s_goto (tgt := 42) X dX12_isNoCall_38 (by omega) ?_
        exact s_zret X (Or.inr rfl) (Nat.le_of_ble_eq_true rfl) (Nat.le_of_ble_eq_true rfl) (by cases h; exact hO) dX12_isNoCall_42
    refine s_iload_n X 2 rfl dX12_isNoCall_9 ?_
    refine s_const X (by unfold InR; omega) dX12_isNoCall_10 ?_
    refine s_load0 X 0 rfl dX12_isNoCall_11 ?_
    refine s_getR (id := 6) X fk_X12_30 SHM_0 rfl dX12_isNoCall_12 ?_
    refine s_iload_n X 1 rfl dX12_isNoCall_15 ?_
    refine s_iald X SHM_6 g8.1 g8.2.1 dX12_isNoCall_16 ?_
    refine s_const X (by unfold InR; omega) dX12_isNoCall_17 ?_
    refine s_isub X g8.2.2 dX12_isNoCall_18 ?_
    refine s_callS (As := [VI call_, VI 0, VI (m_ 6 trip_.toNat - 1)]) X cw_X12_126 dX12_isNoCall_19 (L_M_isIn G call_ 0 (m_ 6 trip_.toNat - 1) m_) rfl ⟨Nat.le_of_ble_eq_true rfl, Nat.le_of_ble_eq_true rfl⟩ ⟨Nat.le_of_ble_eq_true rfl, Nat.le_of_ble_eq_true rfl⟩ (Nat.le_of_ble_eq_true rfl) noT (kkR ?_)
    refine s_ifne_f (tgt := 29) X dX12_isNoCall_22 (by omega) (fun c10 => ?_) (fun c11 => ?_)
    · refine s_const X (by unfold InR; omega) dX12_isNoCall_29 ?_
      exact s_eqt (if_neg c10) kM9
    · refine s_const X (by unfold InR; omega) dX12_isNoCall_25 ?_
      refine s_goto (tgt := 30) X dX12_isNoCall_26 (by omega) ?_
      exact s_eqt (if_pos c11) kM9
set_option maxRecDepth 20000 in
set_option maxHeartbeats 4000000 in
theorem L_M_walks (G : Gl)  (m : Mem) (r : Mem)  (h : M_walks  m = some r) : Con SHM G yX12_walks cX12_walks 5 none rm_X12_walks [VR 0] m (((.inl none, r) : Res × Mem)) := by
  refine con_of (own := "LastbusModel") (by decide) rfl (Nat.le_of_ble_eq_true rfl) (fun C X => ?_)
  obtain ⟨O, hO⟩ : ∃ O : Res × Mem, O = (((.inl none, r) : Res × Mem)) := ⟨_, rfl⟩
  rw [← hO]
  show J SHM G rm_X12_walks (.inl O) C 0 0 0 [(0, VR 0)] [] m
  unfold M_walks at h
  refine s_const X (by unfold InR; omega) dX12_walks_0 ?_
  obtain ⟨a_, e2, h⟩ := ltv_elim h
  refine s_istore_n X e2 rfl (by omega) dX12_walks_1 ?_
  obtain ⟨a_4, m_5, hl12, h⟩ := bq2_some h
  obtain ⟨fu30, hl13⟩ := loop_iter hl12
  have KX9 : ∀ q9 : Int × Mem, q9 = (a_4, m_5) → J SHM G rm_X12_walks (.inl O) C 0 0 90 [(1, VI q9.1), (0, VR 0)] [] (q9.2) := by
    intro q9 e9
    subst e9
    show J SHM G rm_X12_walks (.inl O) C 0 0 90 [(1, VI a_4), (0, VR 0)] [] m_5
    refine s_const X (by unfold InR; omega) dX12_walks_90 ?_
    obtain ⟨k_, e58, h⟩ := ltv_elim h
    refine s_istore_n X e58 rfl (by omega) dX12_walks_91 ?_
    obtain ⟨k_4, m_12, hl68, h⟩ := bq2_some h
    obtain ⟨fu590, hl69⟩ := loop_iter hl68
    have KX65 : ∀ q9 : Int × Mem, q9 = (k_4, m_12) → J SHM G rm_X12_walks (.inl O) C 0 0 192 [(1, VI q9.1), (0, VR 0)] [] (q9.2) := by
      intro q9 e9
      subst e9
      show J SHM G rm_X12_walks (.inl O) C 0 0 192 [(1, VI k_4), (0, VR 0)] [] m_12
      exact s_vret X (Nat.le_of_ble_eq_true rfl) (Nat.le_of_ble_eq_true rfl) (by cases h; exact hO) dX12_walks_192
    have LP64 : ∀ (fu59 : Nat) (k_2 : Int) (m_6 : Mem), iter (fun s => M_walks_b3 s.1 s.2) fu59 (k_2, m_6) = some (k_4, m_12) → J SHM G rm_X12_walks (.inl O) C 0 0 92 [(1, VI k_2), (0, VR 0)] [] m_6 := by
      intro fu59
      induction fu59 with
      | zero => intro k_2 m_6 hn60; exact absurd hn60 (by simp [iter])
      | succ fu59 ih63 =>
        intro k_2 m_6 hn60
        obtain ⟨x61, h, hc62⟩ := iter_succ hn60
        replace h : M_walks_b3 k_2 m_6 = some x61 := h
        unfold M_walks_b3 at h
        refine s_iload_n X 0 rfl dX12_walks_92 ?_
        refine s_load0 X 1 rfl dX12_walks_93 ?_
        refine s_getI X fk_X12_123 SHM_0 rfl dX12_walks_94 ?_
        refine s_icmpge_f (tgt := 192) X dX12_walks_97 (by omega) (fun c73 => ?_) (fun c74 => ?_)
        · replace h := ite_neg h c73
          exact KX65 _ (iter_exit h hc62)
        · replace h := ite_pos h c74
          refine s_const X (by unfold InR; omega) dX12_walks_100 ?_
          obtain ⟨a_5, e76, h⟩ := ltv_elim h
          refine s_istore_n X e76 rfl (by omega) dX12_walks_101 ?_
          obtain ⟨a_8, m_11, hl86, h⟩ := bq2_some h
          obtain ⟨fu770, hl87⟩ := loop_iter hl86
          have KX83 : ∀ q9 : Int × Mem, q9 = (a_8, m_11) → J SHM G rm_X12_walks (.inl O) C 0 0 186 [(2, VI q9.1), (1, VI k_2), (0, VR 0)] [] (q9.2) := by
            intro q9 e9
            subst e9
            show J SHM G rm_X12_walks (.inl O) C 0 0 186 [(2, VI a_8), (1, VI k_2), (0, VR 0)] [] m_11
            obtain ⟨g126, h⟩ := grd_some h
            obtain ⟨k_3, e127, h⟩ := ltv_elim h
            refine s_iinc X 1 rfl g126 e127 rfl (by omega) dX12_walks_186 ?_
            refine s_goto (tgt := 92) X dX12_walks_189 (by omega) ?_
            refine s_loc [0, 2] rfl ?_
            exact ih63 _ _ (iter_next h hc62)
          have LP82 : ∀ (fu77 : Nat) (a_6 : Int) (m_7 : Mem), iter (fun s => M_walks_b4 k_2 s.1 s.2) fu77 (a_6, m_7) = some (a_8, m_11) → J SHM G rm_X12_walks (.inl O) C 0 0 102 [(2, VI a_6), (1, VI k_2), (0, VR 0)] [] m_7 := by
            intro fu77
            induction fu77 with
            | zero => intro a_6 m_7 hn78; exact absurd hn78 (by simp [iter])
            | succ fu77 ih81 =>
              intro a_6 m_7 hn78
              obtain ⟨x79, h, hc80⟩ := iter_succ hn78
              replace h : M_walks_b4 k_2 a_6 m_7 = some x79 := h
              unfold M_walks_b4 at h
              refine s_iload_n X 0 rfl dX12_walks_102 ?_
              refine s_load0 X 2 rfl dX12_walks_103 ?_
              refine s_getI X fk_X12_123 SHM_0 rfl dX12_walks_104 ?_
              refine s_icmpge_f (tgt := 186) X dX12_walks_107 (by omega) (fun c91 => ?_) (fun c92 => ?_)
              · replace h := ite_neg h c91
                exact KX83 _ (iter_exit h hc80)
              · replace h := ite_pos h c92
                refine s_const X (by unfold InR; omega) dX12_walks_110 ?_
                obtain ⟨b_5, e94, h⟩ := ltv_elim h
                refine s_istore_n X e94 rfl (by omega) dX12_walks_111 ?_
                obtain ⟨b_9, m_10, hl104, h⟩ := bq2_some h
                obtain ⟨fu950, hl105⟩ := loop_iter hl104
                have KX101 : ∀ q9 : Int × Mem, q9 = (b_9, m_10) → J SHM G rm_X12_walks (.inl O) C 0 0 180 [(3, VI q9.1), (2, VI a_6), (1, VI k_2), (0, VR 0)] [] (q9.2) := by
                  intro q9 e9
                  subst e9
                  show J SHM G rm_X12_walks (.inl O) C 0 0 180 [(3, VI b_9), (2, VI a_6), (1, VI k_2), (0, VR 0)] [] m_10
                  obtain ⟨g124, h⟩ := grd_some h
                  obtain ⟨a_7, e125, h⟩ := ltv_elim h
                  refine s_iinc X 1 rfl g124 e125 rfl (by omega) dX12_walks_180 ?_
                  refine s_goto (tgt := 102) X dX12_walks_183 (by omega) ?_
                  refine s_loc [0, 2, 3] rfl ?_
                  exact ih81 _ _ (iter_next h hc80)
                have LP100 : ∀ (fu95 : Nat) (b_6 : Int) (m_8 : Mem), iter (fun s => M_walks_b5 k_2 a_6 s.1 s.2) fu95 (b_6, m_8) = some (b_9, m_10) → J SHM G rm_X12_walks (.inl O) C 0 0 112 [(3, VI b_6), (2, VI a_6), (1, VI k_2), (0, VR 0)] [] m_8 := by
                  intro fu95
                  induction fu95 with
                  | zero => intro b_6 m_8 hn96; exact absurd hn96 (by simp [iter])
                  | succ fu95 ih99 =>
                    intro b_6 m_8 hn96
                    obtain ⟨x97, h, hc98⟩ := iter_succ hn96
                    replace h : M_walks_b5 k_2 a_6 b_6 m_8 = some x97 := h
                    unfold M_walks_b5 at h
                    refine s_iload_n X 0 rfl dX12_walks_112 ?_
                    refine s_load0 X 3 rfl dX12_walks_113 ?_
                    refine s_getI X fk_X12_123 SHM_0 rfl dX12_walks_114 ?_
                    refine s_icmpge_f (tgt := 180) X dX12_walks_117 (by omega) (fun c109 => ?_) (fun c110 => ?_)
                    · replace h := ite_neg h c109
                      exact KX101 _ (iter_exit h hc98)
                    · replace h := ite_pos h c110
                      obtain ⟨g111, h⟩ := grd_some h
                      refine s_load0 X 3 rfl dX12_walks_120 ?_
                      refine s_getR (id := 3) X fk_X12_16 SHM_0 rfl dX12_walks_121 ?_
                      refine s_bipush X (by omega) dX12_walks_124 ?_
                      refine s_iload_n X 1 rfl dX12_walks_126 ?_
                      refine s_imul X g111.1 dX12_walks_127 ?_
                      refine s_iload_n X 2 rfl dX12_walks_128 ?_
                      refine s_iadd X g111.2.1 dX12_walks_129 ?_
                      refine s_iald X SHM_3 g111.2.2.1 g111.2.2.2.1 dX12_walks_130 ?_
                      refine s_load0 X 3 rfl dX12_walks_131 ?_
                      refine s_getR (id := 3) X fk_X12_16 SHM_0 rfl dX12_walks_132 ?_
                      refine s_bipush X (by omega) dX12_walks_135 ?_
                      refine s_iload_n X 2 rfl dX12_walks_137 ?_
                      refine s_imul X g111.2.2.2.2.1 dX12_walks_138 ?_
                      refine s_iload_n X 0 rfl dX12_walks_139 ?_
                      refine s_iadd X g111.2.2.2.2.2.1 dX12_walks_140 ?_
                      refine s_iald X SHM_3 g111.2.2.2.2.2.2.1 g111.2.2.2.2.2.2.2.1 dX12_walks_141 ?_
                      refine s_iadd X g111.2.2.2.2.2.2.2.2 dX12_walks_142 ?_
                      obtain ⟨sum_, e112, h⟩ := ltv_elim h
                      refine s_istore X e112 rfl (by omega) dX12_walks_143 ?_
                      obtain ⟨g113, h⟩ := grd_some h
                      refine s_iload X 0 rfl dX12_walks_145 ?_
                      refine s_load0 X 4 rfl dX12_walks_147 ?_
                      refine s_getR (id := 3) X fk_X12_16 SHM_0 rfl dX12_walks_148 ?_
                      refine s_bipush X (by omega) dX12_walks_151 ?_
                      refine s_iload_n X 2 rfl dX12_walks_153 ?_
                      refine s_imul X g111.1 dX12_walks_154 ?_
                      refine s_iload_n X 1 rfl dX12_walks_155 ?_
                      refine s_iadd X g113.1 dX12_walks_156 ?_
                      refine s_iald X SHM_3 g113.2.1 g113.2.2 dX12_walks_157 ?_
                      refine s_icmpge_f (tgt := 174) X dX12_walks_158 (by omega) (fun c116 => ?_) (fun c117 => ?_)
                      · replace h := ite_neg h c116
                        obtain ⟨g118, h⟩ := grd_some h
                        obtain ⟨b_7, e119, h⟩ := ltv_elim h
                        refine s_iinc X 1 rfl g118 e119 rfl (by omega) dX12_walks_174 ?_
                        refine s_goto (tgt := 112) X dX12_walks_177 (by omega) ?_
                        refine s_loc [0, 2, 3, 4] rfl ?_
                        exact ih99 _ _ (iter_next h hc98)
                      · replace h := ite_pos h c117
                        refine s_load0 X 4 rfl dX12_walks_161 ?_
                        refine s_getR (id := 3) X fk_X12_16 SHM_0 rfl dX12_walks_162 ?_
                        refine s_bipush X (by omega) dX12_walks_165 ?_
                        refine s_iload_n X 2 rfl dX12_walks_167 ?_
                        refine s_imul X g111.1 dX12_walks_168 ?_
                        refine s_iload_n X 1 rfl dX12_walks_169 ?_
                        refine s_iadd X g113.1 dX12_walks_170 ?_
                        refine s_iload X 0 rfl dX12_walks_171 ?_
                        obtain ⟨m_9, e121, h⟩ := ltv_elim h
                        refine s_iast X e121 SHM_3 g113.2.1 g113.2.2 dX12_walks_173 ?_
                        obtain ⟨g122, h⟩ := grd_some h
                        obtain ⟨b_8, e123, h⟩ := ltv_elim h
                        refine s_iinc X 1 rfl g122 e123 rfl (by omega) dX12_walks_174 ?_
                        refine s_goto (tgt := 112) X dX12_walks_177 (by omega) ?_
                        refine s_loc [0, 2, 3, 4] rfl ?_
                        exact ih99 _ _ (iter_next h hc98)
                exact LP100 _ _ _ hl105
          exact LP82 _ _ _ hl87
    exact LP64 _ _ _ hl69
  have LP8 : ∀ (fu3 : Nat) (a_2 : Int) (m_ : Mem), iter (fun s => M_walks_b1 s.1 s.2) fu3 (a_2, m_) = some (a_4, m_5) → J SHM G rm_X12_walks (.inl O) C 0 0 2 [(1, VI a_2), (0, VR 0)] [] m_ := by
    intro fu3
    induction fu3 with
    | zero => intro a_2 m_ hn4; exact absurd hn4 (by simp [iter])
    | succ fu3 ih7 =>
      intro a_2 m_ hn4
      obtain ⟨x5, h, hc6⟩ := iter_succ hn4
      replace h : M_walks_b1 a_2 m_ = some x5 := h
      unfold M_walks_b1 at h
      refine s_iload_n X 0 rfl dX12_walks_2 ?_
      refine s_load0 X 1 rfl dX12_walks_3 ?_
      refine s_getI X fk_X12_123 SHM_0 rfl dX12_walks_4 ?_
      refine s_icmpge_f (tgt := 90) X dX12_walks_7 (by omega) (fun c17 => ?_) (fun c18 => ?_)
      · replace h := ite_neg h c17
        exact KX9 _ (iter_exit h hc6)
      · replace h := ite_pos h c18
        refine s_const X (by unfold InR; omega) dX12_walks_10 ?_
        obtain ⟨b_, e20, h⟩ := ltv_elim h
        refine s_istore_n X e20 rfl (by omega) dX12_walks_11 ?_
        obtain ⟨b_4, m_4, hl30, h⟩ := bq2_some h
        obtain ⟨fu210, hl31⟩ := loop_iter hl30
        have KX27 : ∀ q9 : Int × Mem, q9 = (b_4, m_4) → J SHM G rm_X12_walks (.inl O) C 0 0 84 [(2, VI q9.1), (1, VI a_2), (0, VR 0)] [] (q9.2) := by
          intro q9 e9
          subst e9
          show J SHM G rm_X12_walks (.inl O) C 0 0 84 [(2, VI b_4), (1, VI a_2), (0, VR 0)] [] m_4
          obtain ⟨g55, h⟩ := grd_some h
          obtain ⟨a_3, e56, h⟩ := ltv_elim h
          refine s_iinc X 1 rfl g55 e56 rfl (by omega) dX12_walks_84 ?_
          refine s_goto (tgt := 2) X dX12_walks_87 (by omega) ?_
          refine s_loc [0, 2] rfl ?_
          exact ih7 _ _ (iter_next h hc6)
        have LP26 : ∀ (fu21 : Nat) (b_2 : Int) (m_2 : Mem), iter (fun s => M_walks_b2 a_2 s.1 s.2) fu21 (b_2, m_2) = some (b_4, m_4) → J SHM G rm_X12_walks (.inl O) C 0 0 12 [(2, VI b_2), (1, VI a_2), (0, VR 0)] [] m_2 := by
          intro fu21
          induction fu21 with
          | zero => intro b_2 m_2 hn22; exact absurd hn22 (by simp [iter])
          | succ fu21 ih25 =>
            intro b_2 m_2 hn22
            obtain ⟨x23, h, hc24⟩ := iter_succ hn22
            replace h : M_walks_b2 a_2 b_2 m_2 = some x23 := h
            unfold M_walks_b2 at h
            refine s_iload_n X 0 rfl dX12_walks_12 ?_
            refine s_load0 X 2 rfl dX12_walks_13 ?_
            refine s_getI X fk_X12_123 SHM_0 rfl dX12_walks_14 ?_
            refine s_icmpge_f (tgt := 84) X dX12_walks_17 (by omega) (fun c35 => ?_) (fun c36 => ?_)
            · replace h := ite_neg h c35
              exact KX27 _ (iter_exit h hc24)
            · replace h := ite_pos h c36
              obtain ⟨g37, h⟩ := grd_some h
              refine s_load0 X 2 rfl dX12_walks_20 ?_
              refine s_getR (id := 2) X fk_X12_13 SHM_0 rfl dX12_walks_21 ?_
              refine s_bipush X (by omega) dX12_walks_24 ?_
              refine s_iload_n X 1 rfl dX12_walks_26 ?_
              refine s_imul X g37.1 dX12_walks_27 ?_
              refine s_iload_n X 0 rfl dX12_walks_28 ?_
              refine s_iadd X g37.2.1 dX12_walks_29 ?_
              refine s_iald X SHM_2 g37.2.2.1 g37.2.2.2 dX12_walks_30 ?_
              obtain ⟨minutes_, e38, h⟩ := ltv_elim h
              refine s_istore_n X e38 rfl (by omega) dX12_walks_31 ?_
              refine s_load0 X 3 rfl dX12_walks_32 ?_
              refine s_getR (id := 3) X fk_X12_16 SHM_0 rfl dX12_walks_33 ?_
              refine s_bipush X (by omega) dX12_walks_36 ?_
              refine s_iload_n X 2 rfl dX12_walks_38 ?_
              refine s_imul X g37.1 dX12_walks_39 ?_
              refine s_iload_n X 1 rfl dX12_walks_40 ?_
              refine s_iadd X g37.2.1 dX12_walks_41 ?_
              have kM40 : J SHM G rm_X12_walks (.inl O) C 0 0 77 [(3, VI minutes_), (2, VI b_2), (1, VI a_2), (0, VR 0)] [VI (if a_2 = b_2 then 0 else (if ((minutes_ = 0) ∨ (a_2 = m_2 0 5)) ∨ (b_2 = m_2 0 5) then 1000000 else minutes_)), VI (12 * a_2 + b_2), VR 3] m_2 := by
                obtain ⟨m_3, e52, h⟩ := ltv_elim h
                refine s_iast X e52 SHM_3 g37.2.2.1 g37.2.2.2 dX12_walks_77 ?_
                obtain ⟨g53, h⟩ := grd_some h
                obtain ⟨b_3, e54, h⟩ := ltv_elim h
                refine s_iinc X 1 rfl g53 e54 rfl (by omega) dX12_walks_78 ?_
                refine s_goto (tgt := 12) X dX12_walks_81 (by omega) ?_
                refine s_loc [0, 2, 3] rfl ?_
                exact ih25 _ _ (iter_next h hc24)
              refine s_iload_n X 2 rfl dX12_walks_42 ?_
              refine s_iload_n X 1 rfl dX12_walks_43 ?_
              refine s_icmpne_f (tgt := 51) X dX12_walks_44 (by omega) (fun c41 => ?_) (fun c42 => ?_)
              · have kM43 : J SHM G rm_X12_walks (.inl O) C 0 0 77 [(3, VI minutes_), (2, VI b_2), (1, VI a_2), (0, VR 0)] [VI (if ((minutes_ = 0) ∨ (a_2 = m_2 0 5)) ∨ (b_2 = m_2 0 5) then 1000000 else minutes_), VI (12 * a_2 + b_2), VR 3] m_2 := by
                  exact s_eqt (if_neg c41) kM40
                refine s_iload_n X 0 rfl dX12_walks_51 ?_
                refine s_ifeq_t (tgt := 71) X dX12_walks_52 (by omega) (fun c44 => ?_) (fun c45 => ?_)
                · refine s_ldc (z := 1000000) X (by unfold InR; omega) kc_X12_150 dX12_walks_71 ?_
                  refine s_goto (tgt := 77) X dX12_walks_73 (by omega) ?_
                  exact s_eqt (if_pos (Or.inl (Or.inl c44))) kM43
                · have a46 : ¬ (minutes_ = 0) := c45
                  refine s_iload_n X 2 rfl dX12_walks_55 ?_
                  refine s_load0 X 3 rfl dX12_walks_56 ?_
                  refine s_getI X fk_X12_19 SHM_0 rfl dX12_walks_57 ?_
                  refine s_icmpeq_t (tgt := 71) X dX12_walks_60 (by omega) (fun c47 => ?_) (fun c48 => ?_)
                  · refine s_ldc (z := 1000000) X (by unfold InR; omega) kc_X12_150 dX12_walks_71 ?_
                    refine s_goto (tgt := 77) X dX12_walks_73 (by omega) ?_
                    exact s_eqt (if_pos (Or.inl (Or.inr c47))) kM43
                  · have a49 : ¬ ((minutes_ = 0) ∨ (a_2 = m_2 0 5)) := (fun q => q.elim a46 c48)
                    refine s_iload_n X 1 rfl dX12_walks_63 ?_
                    refine s_load0 X 3 rfl dX12_walks_64 ?_
                    refine s_getI X fk_X12_19 SHM_0 rfl dX12_walks_65 ?_
                    refine s_icmpne_f (tgt := 76) X dX12_walks_68 (by omega) (fun c50 => ?_) (fun c51 => ?_)
                    · refine s_iload_n X 0 rfl dX12_walks_76 ?_
                      exact s_eqt (if_neg (fun q => q.elim a49 c50)) kM43
                    · refine s_ldc (z := 1000000) X (by unfold InR; omega) kc_X12_150 dX12_walks_71 ?_
                      refine s_goto (tgt := 77) X dX12_walks_73 (by omega) ?_
                      exact s_eqt (if_pos (Or.inr c51)) kM43
              · refine s_const X (by unfold InR; omega) dX12_walks_47 ?_
                refine s_goto (tgt := 77) X dX12_walks_48 (by omega) ?_
                exact s_eqt (if_pos c42) kM40
        exact LP26 _ _ _ hl31
  exact LP8 _ _ _ hl13
set_option maxRecDepth 20000 in
set_option maxHeartbeats 4000000 in
theorem L_M_stop (G : Gl) (minutes_ : Int) (m : Mem) (r : (Int × Mem))  (h : M_stop minutes_ m = some r) : Con SHM G yX12_stop cX12_stop 2 (some .int) rm_X12_stop [VR 0, VI minutes_] m (((.inl (some (VI r.1)), r.2) : Res × Mem)) := by
  refine con_of (own := "LastbusModel") (by decide) rfl (Nat.le_of_ble_eq_true rfl) (fun C X => ?_)
  obtain ⟨O, hO⟩ : ∃ O : Res × Mem, O = (((.inl (some (VI r.1)), r.2) : Res × Mem)) := ⟨_, rfl⟩
  rw [← hO]
  show J SHM G rm_X12_stop (.inl O) C 0 0 0 [(0, VR 0), (1, VI minutes_)] [] m
  unfold M_stop at h
  refine s_load0 X 0 rfl dX12_stop_0 ?_
  have kM2 : J SHM G rm_X12_stop (.inl O) C 0 0 16 [(0, VR 0), (1, VI minutes_)] [VI (if M_isIn minutes_ 0 30 = 0 then 1 else 0), VR 0] m := by
    refine s_const X (by unfold InR; omega) dX12_stop_16 ?_
    obtain ⟨r_, m_, hq5, h⟩ := bq2_some h
    refine s_callV (As := [VI (if M_isIn minutes_ 0 30 = 0 then 1 else 0), VI 1]) X cw_X12_130 SHM_0 rfl dX12_stop_17 (L_M_isThrown G (if M_isIn minutes_ 0 30 = 0 then 1 else 0) 1 m (r_, m_) hq5) rfl ⟨Nat.le_of_ble_eq_true rfl, Nat.le_of_ble_eq_true rfl⟩ ⟨Nat.le_of_ble_eq_true rfl, Nat.le_of_ble_eq_true rfl⟩ (Nat.le_of_ble_eq_true rfl) noT (kkR ?_)
    refine s_ifne_t (tgt := 45) X dX12_stop_20 (by omega) (fun c8 => ?_) (fun c9 => ?_)
    · replace h := ite_pos h c8
      refine s_const X (by unfold InR; omega) dX12_stop_45 ?_
      exact s_iret X (Nat.le_of_ble_eq_true rfl) (Nat.le_of_ble_eq_true rfl) (by cases h; exact hO) dX12_stop_46
    · replace h := ite_neg h c9
      refine s_load0 X 0 rfl dX12_stop_23 ?_
      have kM12 : J SHM G rm_X12_stop (.inl O) C 0 0 38 [(0, VR 0), (1, VI minutes_)] [VI (if m_ 0 1 = 12 then 1 else 0), VR 0] m_ := by
        refine s_const X (by unfold InR; omega) dX12_stop_38 ?_
        obtain ⟨r_2, m_2, hq15, h⟩ := bq2_some h
        refine s_callV (As := [VI (if m_ 0 1 = 12 then 1 else 0), VI 2]) X cw_X12_130 SHM_0 rfl dX12_stop_39 (L_M_isThrown G (if m_ 0 1 = 12 then 1 else 0) 2 m_ (r_2, m_2) hq15) rfl ⟨Nat.le_of_ble_eq_true rfl, Nat.le_of_ble_eq_true rfl⟩ ⟨Nat.le_of_ble_eq_true rfl, Nat.le_of_ble_eq_true rfl⟩ (Nat.le_of_ble_eq_true rfl) noT (kkR ?_)
        refine s_ifeq_f (tgt := 47) X dX12_stop_42 (by omega) (fun c18 => ?_) (fun c19 => ?_)
        · replace h := ite_neg h c18
          obtain ⟨g20, h⟩ := grd_some h
          refine s_load0 X 0 rfl dX12_stop_47 ?_
          refine s_getR (id := 1) X fk_X12_9 SHM_0 rfl dX12_stop_48 ?_
          refine s_load0 X 0 rfl dX12_stop_51 ?_
          refine s_getI X fk_X12_123 SHM_0 rfl dX12_stop_52 ?_
          refine s_iload_n X 1 rfl dX12_stop_55 ?_
          obtain ⟨m_3, e21, h⟩ := ltv_elim h
          refine s_iast X e21 SHM_1 g20.1 g20.2 dX12_stop_56 ?_
          obtain ⟨g22, h⟩ := grd_some h
          refine s_load0 X 0 rfl dX12_stop_57 ?_
          refine s_dup X rfl dX12_stop_58 ?_
          refine s_getI X fk_X12_123 SHM_0 rfl dX12_stop_59 ?_
          refine s_const X (by unfold InR; omega) dX12_stop_62 ?_
          refine s_iadd X g22 dX12_stop_63 ?_
          obtain ⟨m_4, e23, h⟩ := ltv_elim h
          refine s_putI X e23 fp_X12_123 SHM_0 rfl trivial dX12_stop_64 ?_
          refine s_load0 X 0 rfl dX12_stop_67 ?_
          obtain ⟨m_5, hq25, h⟩ := bnd_some h
          refine s_callV (As := []) X cw_X12_144 SHM_0 rfl dX12_stop_68 (L_M_walks G m_4 m_5 hq25) rfl ⟨Nat.le_of_ble_eq_true rfl, Nat.le_of_ble_eq_true rfl⟩ ⟨Nat.le_of_ble_eq_true rfl, Nat.le_of_ble_eq_true rfl⟩ (Nat.le_of_ble_eq_true rfl) noT (kkU ?_)
          obtain ⟨g28, h⟩ := grd_some h
          refine s_load0 X 0 rfl dX12_stop_71 ?_
          refine s_getI X fk_X12_123 SHM_0 rfl dX12_stop_72 ?_
          refine s_const X (by unfold InR; omega) dX12_stop_75 ?_
          refine s_isub X g28 dX12_stop_76 ?_
          exact s_iret X (Nat.le_of_ble_eq_true rfl) (Nat.le_of_ble_eq_true rfl) (by cases h; exact hO) dX12_stop_77
        · replace h := ite_pos h c19
          refine s_const X (by unfold InR; omega) dX12_stop_45 ?_
          exact s_iret X (Nat.le_of_ble_eq_true rfl) (Nat.le_of_ble_eq_true rfl) (by cases h; exact hO) dX12_stop_46
      refine s_load0 X 0 rfl dX12_stop_24 ?_
      refine s_getI X fk_X12_123 SHM_0 rfl dX12_stop_25 ?_
      refine s_bipush X (by omega) dX12_stop_28 ?_
      refine s_icmpne_f (tgt := 37) X dX12_stop_30 (by omega) (fun c13 => ?_) (fun c14 => ?_)
      · refine s_const X (by unfold InR; omega) dX12_stop_37 ?_
        exact s_eqt (if_neg c13) kM12
      · refine s_const X (by unfold InR; omega) dX12_stop_33 ?_
        refine s_goto (tgt := 38) X dX12_stop_34 (by omega) ?_
        exact s_eqt (if_pos c14) kM12
  refine s_iload_n X 1 rfl dX12_stop_1 ?_
  refine s_const X (by unfold InR; omega) dX12_stop_2 ?_
  refine s_bipush X (by omega) dX12_stop_3 ?_
  refine s_callS (As := [VI minutes_, VI 0, VI 30]) X cw_X12_126 dX12_stop_5 (L_M_isIn G minutes_ 0 30 m) rfl ⟨Nat.le_of_ble_eq_true rfl, Nat.le_of_ble_eq_true rfl⟩ ⟨Nat.le_of_ble_eq_true rfl, Nat.le_of_ble_eq_true rfl⟩ (Nat.le_of_ble_eq_true rfl) noT (kkR ?_)
  refine s_ifne_f (tgt := 15) X dX12_stop_8 (by omega) (fun c3 => ?_) (fun c4 => ?_)
  · refine s_const X (by unfold InR; omega) dX12_stop_15 ?_
    exact s_eqt (if_neg c3) kM2
  · refine s_const X (by unfold InR; omega) dX12_stop_11 ?_
    refine s_goto (tgt := 16) X dX12_stop_12 (by omega) ?_
    exact s_eqt (if_pos c4) kM2
set_option maxRecDepth 20000 in
set_option maxHeartbeats 4000000 in
theorem L_M_setChange (G : Gl) (stop_ : Int) (minutes_ : Int) (m : Mem) (r : (Int × Mem))  (h : M_setChange stop_ minutes_ m = some r) : Con SHM G yX12_setChange cX12_setChange 4 (some .int) rm_X12_setChange [VR 0, VI stop_, VI minutes_] m (((.inl (some (VI r.1)), r.2) : Res × Mem)) := by
  refine con_of (own := "LastbusModel") (by decide) rfl (Nat.le_of_ble_eq_true rfl) (fun C X => ?_)
  obtain ⟨O, hO⟩ : ∃ O : Res × Mem, O = (((.inl (some (VI r.1)), r.2) : Res × Mem)) := ⟨_, rfl⟩
  rw [← hO]
  show J SHM G rm_X12_setChange (.inl O) C 0 0 0 [(0, VR 0), (1, VI stop_), (2, VI minutes_)] [] m
  unfold M_setChange at h
  refine s_load0 X 0 rfl dX12_setChange_0 ?_
  refine s_iload_n X 1 rfl dX12_setChange_1 ?_
  obtain ⟨r_, m_, hq2, h⟩ := bq2_some h
  refine s_callV (As := [VI stop_]) X cw_X12_147 SHM_0 rfl dX12_setChange_2 (L_M_isNoStop G stop_ m (r_, m_) hq2) rfl ⟨Nat.le_of_ble_eq_true rfl, Nat.le_of_ble_eq_true rfl⟩ ⟨Nat.le_of_ble_eq_true rfl, Nat.le_of_ble_eq_true rfl⟩ (Nat.le_of_ble_eq_true rfl) noT (kkR ?_)
  refine s_ifne_t (tgt := 31) X dX12_setChange_5 (by omega) (fun c5 => ?_) (fun c6 => ?_)
  · replace h := ite_pos h c5
    refine s_const X (by unfold InR; omega) dX12_setChange_31 ?_
    exact s_iret X (Nat.le_of_ble_eq_true rfl) (Nat.le_of_ble_eq_true rfl) (by cases h; exact hO) dX12_setChange_32
  · replace h := ite_neg h c6
    refine s_load0 X 0 rfl dX12_setChange_8 ?_
    have kM9 : J SHM G rm_X12_setChange (.inl O) C 0 0 24 [(0, VR 0), (1, VI stop_), (2, VI minutes_)] [VI (if M_isIn minutes_ 0 30 = 0 then 1 else 0), VR 0] m_ := by
      refine s_const X (by unfold InR; omega) dX12_setChange_24 ?_
      obtain ⟨r_2, m_2, hq12, h⟩ := bq2_some h
      refine s_callV (As := [VI (if M_isIn minutes_ 0 30 = 0 then 1 else 0), VI 2]) X cw_X12_130 SHM_0 rfl dX12_setChange_25 (L_M_isThrown G (if M_isIn minutes_ 0 30 = 0 then 1 else 0) 2 m_ (r_2, m_2) hq12) rfl ⟨Nat.le_of_ble_eq_true rfl, Nat.le_of_ble_eq_true rfl⟩ ⟨Nat.le_of_ble_eq_true rfl, Nat.le_of_ble_eq_true rfl⟩ (Nat.le_of_ble_eq_true rfl) noT (kkR ?_)
      refine s_ifeq_f (tgt := 33) X dX12_setChange_28 (by omega) (fun c15 => ?_) (fun c16 => ?_)
      · replace h := ite_neg h c15
        obtain ⟨g17, h⟩ := grd_some h
        refine s_load0 X 0 rfl dX12_setChange_33 ?_
        refine s_getR (id := 1) X fk_X12_9 SHM_0 rfl dX12_setChange_34 ?_
        refine s_iload_n X 1 rfl dX12_setChange_37 ?_
        refine s_iald X SHM_1 g17.1 g17.2 dX12_setChange_38 ?_
        obtain ⟨had_, e18, h⟩ := ltv_elim h
        refine s_istore_n X e18 rfl (by omega) dX12_setChange_39 ?_
        refine s_load0 X 1 rfl dX12_setChange_40 ?_
        refine s_getR (id := 1) X fk_X12_9 SHM_0 rfl dX12_setChange_41 ?_
        refine s_iload_n X 2 rfl dX12_setChange_44 ?_
        refine s_iload_n X 3 rfl dX12_setChange_45 ?_
        obtain ⟨m_3, e20, h⟩ := ltv_elim h
        refine s_iast X e20 SHM_1 g17.1 g17.2 dX12_setChange_46 ?_
        refine s_iload_n X 0 rfl dX12_setChange_47 ?_
        exact s_iret X (Nat.le_of_ble_eq_true rfl) (Nat.le_of_ble_eq_true rfl) (by cases h; exact hO) dX12_setChange_48
      · replace h := ite_pos h c16
        refine s_const X (by unfold InR; omega) dX12_setChange_31 ?_
        exact s_iret X (Nat.le_of_ble_eq_true rfl) (Nat.le_of_ble_eq_true rfl) (by cases h; exact hO) dX12_setChange_32
    refine s_iload_n X 2 rfl dX12_setChange_9 ?_
    refine s_const X (by unfold InR; omega) dX12_setChange_10 ?_
    refine s_bipush X (by omega) dX12_setChange_11 ?_
    refine s_callS (As := [VI minutes_, VI 0, VI 30]) X cw_X12_126 dX12_setChange_13 (L_M_isIn G minutes_ 0 30 m_) rfl ⟨Nat.le_of_ble_eq_true rfl, Nat.le_of_ble_eq_true rfl⟩ ⟨Nat.le_of_ble_eq_true rfl, Nat.le_of_ble_eq_true rfl⟩ (Nat.le_of_ble_eq_true rfl) noT (kkR ?_)
    refine s_ifne_f (tgt := 23) X dX12_setChange_16 (by omega) (fun c10 => ?_) (fun c11 => ?_)
    · refine s_const X (by unfold InR; omega) dX12_setChange_23 ?_
      exact s_eqt (if_neg c10) kM9
    · refine s_const X (by unfold InR; omega) dX12_setChange_19 ?_
      refine s_goto (tgt := 24) X dX12_setChange_20 (by omega) ?_
      exact s_eqt (if_pos c11) kM9
set_option maxRecDepth 20000 in
set_option maxHeartbeats 4000000 in
theorem L_M_walk (G : Gl) (stop_ : Int) (other_ : Int) (minutes_ : Int) (m : Mem) (r : (Int × Mem))  (h : M_walk stop_ other_ minutes_ m = some r) : Con SHM G yX12_walk cX12_walk 5 (some .int) rm_X12_walk [VR 0, VI stop_, VI other_, VI minutes_] m (((.inl (some (VI r.1)), r.2) : Res × Mem)) := by
  refine con_of (own := "LastbusModel") (by decide) rfl (Nat.le_of_ble_eq_true rfl) (fun C X => ?_)
  obtain ⟨O, hO⟩ : ∃ O : Res × Mem, O = (((.inl (some (VI r.1)), r.2) : Res × Mem)) := ⟨_, rfl⟩
  rw [← hO]
  show J SHM G rm_X12_walk (.inl O) C 0 0 0 [(0, VR 0), (1, VI stop_), (2, VI other_), (3, VI minutes_)] [] m
  unfold M_walk at h
  refine s_load0 X 0 rfl dX12_walk_0 ?_
  refine s_iload_n X 1 rfl dX12_walk_1 ?_
  obtain ⟨r_, m_, hq2, h⟩ := bq2_some h
  refine s_callV (As := [VI stop_]) X cw_X12_147 SHM_0 rfl dX12_walk_2 (L_M_isNoStop G stop_ m (r_, m_) hq2) rfl ⟨Nat.le_of_ble_eq_true rfl, Nat.le_of_ble_eq_true rfl⟩ ⟨Nat.le_of_ble_eq_true rfl, Nat.le_of_ble_eq_true rfl⟩ (Nat.le_of_ble_eq_true rfl) noT (kkR ?_)
  refine s_ifne_t (tgt := 44) X dX12_walk_5 (by omega) (fun c5 => ?_) (fun c6 => ?_)
  · replace h := ite_pos h c5
    refine s_const X (by unfold InR; omega) dX12_walk_44 ?_
    exact s_iret X (Nat.le_of_ble_eq_true rfl) (Nat.le_of_ble_eq_true rfl) (by cases h; exact hO) dX12_walk_45
  · replace h := ite_neg h c6
    refine s_load0 X 0 rfl dX12_walk_8 ?_
    refine s_iload_n X 2 rfl dX12_walk_9 ?_
    obtain ⟨r_2, m_2, hq9, h⟩ := bq2_some h
    refine s_callV (As := [VI other_]) X cw_X12_147 SHM_0 rfl dX12_walk_10 (L_M_isNoStop G other_ m_ (r_2, m_2) hq9) rfl ⟨Nat.le_of_ble_eq_true rfl, Nat.le_of_ble_eq_true rfl⟩ ⟨Nat.le_of_ble_eq_true rfl, Nat.le_of_ble_eq_true rfl⟩ (Nat.le_of_ble_eq_true rfl) noT (kkR ?_)
    refine s_ifne_t (tgt := 44) X dX12_walk_13 (by omega) (fun c12 => ?_) (fun c13 => ?_)
    · replace h := ite_pos h c12
      refine s_const X (by unfold InR; omega) dX12_walk_44 ?_
      exact s_iret X (Nat.le_of_ble_eq_true rfl) (Nat.le_of_ble_eq_true rfl) (by cases h; exact hO) dX12_walk_45
    · replace h := ite_neg h c13
      refine s_load0 X 0 rfl dX12_walk_16 ?_
      have kM16 : J SHM G rm_X12_walk (.inl O) C 0 0 37 [(0, VR 0), (1, VI stop_), (2, VI other_), (3, VI minutes_)] [VI (if (stop_ = other_) ∨ (M_isIn minutes_ 0 60 = 0) then 1 else 0), VR 0] m_2 := by
        refine s_const X (by unfold InR; omega) dX12_walk_37 ?_
        obtain ⟨r_3, m_3, hq22, h⟩ := bq2_some h
        refine s_callV (As := [VI (if (stop_ = other_) ∨ (M_isIn minutes_ 0 60 = 0) then 1 else 0), VI 2]) X cw_X12_130 SHM_0 rfl dX12_walk_38 (L_M_isThrown G (if (stop_ = other_) ∨ (M_isIn minutes_ 0 60 = 0) then 1 else 0) 2 m_2 (r_3, m_3) hq22) rfl ⟨Nat.le_of_ble_eq_true rfl, Nat.le_of_ble_eq_true rfl⟩ ⟨Nat.le_of_ble_eq_true rfl, Nat.le_of_ble_eq_true rfl⟩ (Nat.le_of_ble_eq_true rfl) noT (kkR ?_)
        refine s_ifeq_f (tgt := 46) X dX12_walk_41 (by omega) (fun c25 => ?_) (fun c26 => ?_)
        · replace h := ite_neg h c25
          obtain ⟨g27, h⟩ := grd_some h
          refine s_load0 X 0 rfl dX12_walk_46 ?_
          refine s_getR (id := 2) X fk_X12_13 SHM_0 rfl dX12_walk_47 ?_
          refine s_bipush X (by omega) dX12_walk_50 ?_
          refine s_iload_n X 1 rfl dX12_walk_52 ?_
          refine s_imul X g27.1 dX12_walk_53 ?_
          refine s_iload_n X 2 rfl dX12_walk_54 ?_
          refine s_iadd X g27.2.1 dX12_walk_55 ?_
          refine s_iald X SHM_2 g27.2.2.1 g27.2.2.2 dX12_walk_56 ?_
          obtain ⟨had_, e28, h⟩ := ltv_elim h
          refine s_istore X e28 rfl (by omega) dX12_walk_57 ?_
          refine s_load0 X 1 rfl dX12_walk_59 ?_
          refine s_getR (id := 2) X fk_X12_13 SHM_0 rfl dX12_walk_60 ?_
          refine s_bipush X (by omega) dX12_walk_63 ?_
          refine s_iload_n X 2 rfl dX12_walk_65 ?_
          refine s_imul X g27.1 dX12_walk_66 ?_
          refine s_iload_n X 3 rfl dX12_walk_67 ?_
          refine s_iadd X g27.2.1 dX12_walk_68 ?_
          refine s_iload_n X 4 rfl dX12_walk_69 ?_
          obtain ⟨m_4, e30, h⟩ := ltv_elim h
          refine s_iast X e30 SHM_2 g27.2.2.1 g27.2.2.2 dX12_walk_70 ?_
          obtain ⟨g31, h⟩ := grd_some h
          refine s_load0 X 1 rfl dX12_walk_71 ?_
          refine s_getR (id := 2) X fk_X12_13 SHM_0 rfl dX12_walk_72 ?_
          refine s_bipush X (by omega) dX12_walk_75 ?_
          refine s_iload_n X 3 rfl dX12_walk_77 ?_
          refine s_imul X g31.1 dX12_walk_78 ?_
          refine s_iload_n X 2 rfl dX12_walk_79 ?_
          refine s_iadd X g31.2.1 dX12_walk_80 ?_
          refine s_iload_n X 4 rfl dX12_walk_81 ?_
          obtain ⟨m_5, e32, h⟩ := ltv_elim h
          refine s_iast X e32 SHM_2 g31.2.2.1 g31.2.2.2 dX12_walk_82 ?_
          refine s_load0 X 1 rfl dX12_walk_83 ?_
          obtain ⟨m_6, hq34, h⟩ := bnd_some h
          refine s_callV (As := []) X cw_X12_144 SHM_0 rfl dX12_walk_84 (L_M_walks G m_5 m_6 hq34) rfl ⟨Nat.le_of_ble_eq_true rfl, Nat.le_of_ble_eq_true rfl⟩ ⟨Nat.le_of_ble_eq_true rfl, Nat.le_of_ble_eq_true rfl⟩ (Nat.le_of_ble_eq_true rfl) noT (kkU ?_)
          refine s_iload X 0 rfl dX12_walk_87 ?_
          exact s_iret X (Nat.le_of_ble_eq_true rfl) (Nat.le_of_ble_eq_true rfl) (by cases h; exact hO) dX12_walk_89
        · replace h := ite_pos h c26
          refine s_const X (by unfold InR; omega) dX12_walk_44 ?_
          exact s_iret X (Nat.le_of_ble_eq_true rfl) (Nat.le_of_ble_eq_true rfl) (by cases h; exact hO) dX12_walk_45
      refine s_iload_n X 1 rfl dX12_walk_17 ?_
      refine s_iload_n X 2 rfl dX12_walk_18 ?_
      refine s_icmpeq_t (tgt := 32) X dX12_walk_19 (by omega) (fun c17 => ?_) (fun c18 => ?_)
      · refine s_const X (by unfold InR; omega) dX12_walk_32 ?_
        refine s_goto (tgt := 37) X dX12_walk_33 (by omega) ?_
        exact s_eqt (if_pos (Or.inl c17)) kM16
      · have a19 : ¬ (stop_ = other_) := c18
        refine s_iload_n X 3 rfl dX12_walk_22 ?_
        refine s_const X (by unfold InR; omega) dX12_walk_23 ?_
        refine s_bipush X (by omega) dX12_walk_24 ?_
        refine s_callS (As := [VI minutes_, VI 0, VI 60]) X cw_X12_126 dX12_walk_26 (L_M_isIn G minutes_ 0 60 m_2) rfl ⟨Nat.le_of_ble_eq_true rfl, Nat.le_of_ble_eq_true rfl⟩ ⟨Nat.le_of_ble_eq_true rfl, Nat.le_of_ble_eq_true rfl⟩ (Nat.le_of_ble_eq_true rfl) noT (kkR ?_)
        refine s_ifne_f (tgt := 36) X dX12_walk_29 (by omega) (fun c20 => ?_) (fun c21 => ?_)
        · refine s_const X (by unfold InR; omega) dX12_walk_36 ?_
          exact s_eqt (if_neg (fun q => q.elim a19 c20)) kM16
        · refine s_const X (by unfold InR; omega) dX12_walk_32 ?_
          refine s_goto (tgt := 37) X dX12_walk_33 (by omega) ?_
          exact s_eqt (if_pos (Or.inr c21)) kM16
set_option maxRecDepth 20000 in
set_option maxHeartbeats 4000000 in
theorem L_M_walkTime (G : Gl) (stop_ : Int) (other_ : Int) (m : Mem) (r : (Int × Mem))  (h : M_walkTime stop_ other_ m = some r) : Con SHM G yX12_walkTime cX12_walkTime 3 (some .int) rm_X12_walkTime [VR 0, VI stop_, VI other_] m (((.inl (some (VI r.1)), r.2) : Res × Mem)) := by
  refine con_of (own := "LastbusModel") (by decide) rfl (Nat.le_of_ble_eq_true rfl) (fun C X => ?_)
  obtain ⟨O, hO⟩ : ∃ O : Res × Mem, O = (((.inl (some (VI r.1)), r.2) : Res × Mem)) := ⟨_, rfl⟩
  rw [← hO]
  show J SHM G rm_X12_walkTime (.inl O) C 0 0 0 [(0, VR 0), (1, VI stop_), (2, VI other_)] [] m
  unfold M_walkTime at h
  refine s_load0 X 0 rfl dX12_walkTime_0 ?_
  refine s_iload_n X 1 rfl dX12_walkTime_1 ?_
  obtain ⟨r_, m_, hq2, h⟩ := bq2_some h
  refine s_callV (As := [VI stop_]) X cw_X12_147 SHM_0 rfl dX12_walkTime_2 (L_M_isNoStop G stop_ m (r_, m_) hq2) rfl ⟨Nat.le_of_ble_eq_true rfl, Nat.le_of_ble_eq_true rfl⟩ ⟨Nat.le_of_ble_eq_true rfl, Nat.le_of_ble_eq_true rfl⟩ (Nat.le_of_ble_eq_true rfl) noT (kkR ?_)
  refine s_ifne_t (tgt := 45) X dX12_walkTime_5 (by omega) (fun c5 => ?_) (fun c6 => ?_)
  · replace h := ite_pos h c5
    refine s_const X (by unfold InR; omega) dX12_walkTime_45 ?_
    exact s_iret X (Nat.le_of_ble_eq_true rfl) (Nat.le_of_ble_eq_true rfl) (by cases h; exact hO) dX12_walkTime_46
  · replace h := ite_neg h c6
    refine s_load0 X 0 rfl dX12_walkTime_8 ?_
    refine s_iload_n X 2 rfl dX12_walkTime_9 ?_
    obtain ⟨r_2, m_2, hq9, h⟩ := bq2_some h
    refine s_callV (As := [VI other_]) X cw_X12_147 SHM_0 rfl dX12_walkTime_10 (L_M_isNoStop G other_ m_ (r_2, m_2) hq9) rfl ⟨Nat.le_of_ble_eq_true rfl, Nat.le_of_ble_eq_true rfl⟩ ⟨Nat.le_of_ble_eq_true rfl, Nat.le_of_ble_eq_true rfl⟩ (Nat.le_of_ble_eq_true rfl) noT (kkR ?_)
    refine s_ifne_t (tgt := 45) X dX12_walkTime_13 (by omega) (fun c12 => ?_) (fun c13 => ?_)
    · replace h := ite_pos h c12
      refine s_const X (by unfold InR; omega) dX12_walkTime_45 ?_
      exact s_iret X (Nat.le_of_ble_eq_true rfl) (Nat.le_of_ble_eq_true rfl) (by cases h; exact hO) dX12_walkTime_46
    · replace h := ite_neg h c13
      obtain ⟨g15, h⟩ := grd_some h
      refine s_load0 X 0 rfl dX12_walkTime_16 ?_
      have kM16 : J SHM G rm_X12_walkTime (.inl O) C 0 0 38 [(0, VR 0), (1, VI stop_), (2, VI other_)] [VI (if 1000000 ≤ m_2 3 (12 * stop_ + other_).toNat then 1 else 0), VR 0] m_2 := by
        refine s_const X (by unfold InR; omega) dX12_walkTime_38 ?_
        obtain ⟨r_3, m_3, hq19, h⟩ := bq2_some h
        refine s_callV (As := [VI (if 1000000 ≤ m_2 3 (12 * stop_ + other_).toNat then 1 else 0), VI 2]) X cw_X12_130 SHM_0 rfl dX12_walkTime_39 (L_M_isThrown G (if 1000000 ≤ m_2 3 (12 * stop_ + other_).toNat then 1 else 0) 2 m_2 (r_3, m_3) hq19) rfl ⟨Nat.le_of_ble_eq_true rfl, Nat.le_of_ble_eq_true rfl⟩ ⟨Nat.le_of_ble_eq_true rfl, Nat.le_of_ble_eq_true rfl⟩ (Nat.le_of_ble_eq_true rfl) noT (kkR ?_)
        refine s_ifeq_f (tgt := 47) X dX12_walkTime_42 (by omega) (fun c22 => ?_) (fun c23 => ?_)
        · replace h := ite_neg h c22
          obtain ⟨g24, h⟩ := grd_some h
          refine s_load0 X 0 rfl dX12_walkTime_47 ?_
          refine s_getR (id := 3) X fk_X12_16 SHM_0 rfl dX12_walkTime_48 ?_
          refine s_bipush X (by omega) dX12_walkTime_51 ?_
          refine s_iload_n X 1 rfl dX12_walkTime_53 ?_
          refine s_imul X g24.1 dX12_walkTime_54 ?_
          refine s_iload_n X 2 rfl dX12_walkTime_55 ?_
          refine s_iadd X g24.2.1 dX12_walkTime_56 ?_
          refine s_iald X SHM_3 g24.2.2.1 g24.2.2.2 dX12_walkTime_57 ?_
          exact s_iret X (Nat.le_of_ble_eq_true rfl) (Nat.le_of_ble_eq_true rfl) (by cases h; exact hO) dX12_walkTime_58
        · replace h := ite_pos h c23
          refine s_const X (by unfold InR; omega) dX12_walkTime_45 ?_
          exact s_iret X (Nat.le_of_ble_eq_true rfl) (Nat.le_of_ble_eq_true rfl) (by cases h; exact hO) dX12_walkTime_46
      refine s_load0 X 0 rfl dX12_walkTime_17 ?_
      refine s_getR (id := 3) X fk_X12_16 SHM_0 rfl dX12_walkTime_18 ?_
      refine s_bipush X (by omega) dX12_walkTime_21 ?_
      refine s_iload_n X 1 rfl dX12_walkTime_23 ?_
      refine s_imul X g15.1 dX12_walkTime_24 ?_
      refine s_iload_n X 2 rfl dX12_walkTime_25 ?_
      refine s_iadd X g15.2.1 dX12_walkTime_26 ?_
      refine s_iald X SHM_3 g15.2.2.1 g15.2.2.2 dX12_walkTime_27 ?_
      refine s_ldc (z := 1000000) X (by unfold InR; omega) kc_X12_150 dX12_walkTime_28 ?_
      refine s_icmplt_f (tgt := 37) X dX12_walkTime_30 (by omega) (fun c17 => ?_) (fun c18 => ?_)
      · refine s_const X (by unfold InR; omega) dX12_walkTime_37 ?_
        exact s_eqt (if_neg c17) kM16
      · refine s_const X (by unfold InR; omega) dX12_walkTime_33 ?_
        refine s_goto (tgt := 38) X dX12_walkTime_34 (by omega) ?_
        exact s_eqt (if_pos c18) kM16
set_option maxRecDepth 20000 in
set_option maxHeartbeats 4000000 in
theorem L_M_service (G : Gl)  (m : Mem) (r : (Int × Mem))  (h : M_service  m = some r) : Con SHM G yX12_service cX12_service 1 (some .int) rm_X12_service [VR 0] m (((.inl (some (VI r.1)), r.2) : Res × Mem)) := by
  refine con_of (own := "LastbusModel") (by decide) rfl (Nat.le_of_ble_eq_true rfl) (fun C X => ?_)
  obtain ⟨O, hO⟩ : ∃ O : Res × Mem, O = (((.inl (some (VI r.1)), r.2) : Res × Mem)) := ⟨_, rfl⟩
  rw [← hO]
  show J SHM G rm_X12_service (.inl O) C 0 0 0 [(0, VR 0)] [] m
  unfold M_service at h
  refine s_load0 X 0 rfl dX12_service_0 ?_
  have kM2 : J SHM G rm_X12_service (.inl O) C 0 0 15 [(0, VR 0)] [VI (if m 0 6 = 6 then 1 else 0), VR 0] m := by
    refine s_const X (by unfold InR; omega) dX12_service_15 ?_
    obtain ⟨r_, m_, hq5, h⟩ := bq2_some h
    refine s_callV (As := [VI (if m 0 6 = 6 then 1 else 0), VI 1]) X cw_X12_130 SHM_0 rfl dX12_service_16 (L_M_isThrown G (if m 0 6 = 6 then 1 else 0) 1 m (r_, m_) hq5) rfl ⟨Nat.le_of_ble_eq_true rfl, Nat.le_of_ble_eq_true rfl⟩ ⟨Nat.le_of_ble_eq_true rfl, Nat.le_of_ble_eq_true rfl⟩ (Nat.le_of_ble_eq_true rfl) noT (kkR ?_)
    refine s_ifeq_f (tgt := 24) X dX12_service_19 (by omega) (fun c8 => ?_) (fun c9 => ?_)
    · replace h := ite_neg h c8
      obtain ⟨g10, h⟩ := grd_some h
      refine s_load0 X 0 rfl dX12_service_24 ?_
      refine s_dup X rfl dX12_service_25 ?_
      refine s_getI X fk_X12_134 SHM_0 rfl dX12_service_26 ?_
      refine s_const X (by unfold InR; omega) dX12_service_29 ?_
      refine s_iadd X g10 dX12_service_30 ?_
      obtain ⟨m_2, e11, h⟩ := ltv_elim h
      refine s_putI X e11 fp_X12_134 SHM_0 rfl trivial dX12_service_31 ?_
      obtain ⟨g12, h⟩ := grd_some h
      refine s_load0 X 0 rfl dX12_service_34 ?_
      refine s_getI X fk_X12_134 SHM_0 rfl dX12_service_35 ?_
      refine s_const X (by unfold InR; omega) dX12_service_38 ?_
      refine s_isub X g12 dX12_service_39 ?_
      exact s_iret X (Nat.le_of_ble_eq_true rfl) (Nat.le_of_ble_eq_true rfl) (by cases h; exact hO) dX12_service_40
    · replace h := ite_pos h c9
      refine s_const X (by unfold InR; omega) dX12_service_22 ?_
      exact s_iret X (Nat.le_of_ble_eq_true rfl) (Nat.le_of_ble_eq_true rfl) (by cases h; exact hO) dX12_service_23
  refine s_load0 X 0 rfl dX12_service_1 ?_
  refine s_getI X fk_X12_134 SHM_0 rfl dX12_service_2 ?_
  refine s_bipush X (by omega) dX12_service_5 ?_
  refine s_icmpne_f (tgt := 14) X dX12_service_7 (by omega) (fun c3 => ?_) (fun c4 => ?_)
  · refine s_const X (by unfold InR; omega) dX12_service_14 ?_
    exact s_eqt (if_neg c3) kM2
  · refine s_const X (by unfold InR; omega) dX12_service_10 ?_
    refine s_goto (tgt := 15) X dX12_service_11 (by omega) ?_
    exact s_eqt (if_pos c4) kM2
set_option maxRecDepth 20000 in
set_option maxHeartbeats 4000000 in
theorem L_M_week (G : Gl) (service_ : Int) (days_ : Int) (from_ : Int) (to_ : Int) (m : Mem) (r : (Int × Mem))  (h : M_week service_ days_ from_ to_ m = some r) : Con SHM G yX12_week cX12_week 7 (some .int) rm_X12_week [VR 0, VI service_, VI days_, VI from_, VI to_] m (((.inl (some (VI r.1)), r.2) : Res × Mem)) := by
  refine con_of (own := "LastbusModel") (by decide) rfl (Nat.le_of_ble_eq_true rfl) (fun C X => ?_)
  obtain ⟨O, hO⟩ : ∃ O : Res × Mem, O = (((.inl (some (VI r.1)), r.2) : Res × Mem)) := ⟨_, rfl⟩
  rw [← hO]
  show J SHM G rm_X12_week (.inl O) C 0 0 0 [(0, VR 0), (1, VI service_), (2, VI days_), (3, VI from_), (4, VI to_)] [] m
  unfold M_week at h
  refine s_load0 X 0 rfl dX12_week_0 ?_
  refine s_iload_n X 1 rfl dX12_week_1 ?_
  obtain ⟨r_, m_, hq2, h⟩ := bq2_some h
  refine s_callV (As := [VI service_]) X cw_X12_151 SHM_0 rfl dX12_week_2 (L_M_isNoService G service_ m (r_, m_) hq2) rfl ⟨Nat.le_of_ble_eq_true rfl, Nat.le_of_ble_eq_true rfl⟩ ⟨Nat.le_of_ble_eq_true rfl, Nat.le_of_ble_eq_true rfl⟩ (Nat.le_of_ble_eq_true rfl) noT (kkR ?_)
  refine s_ifne_t (tgt := 58) X dX12_week_5 (by omega) (fun c5 => ?_) (fun c6 => ?_)
  · replace h := ite_pos h c5
    refine s_const X (by unfold InR; omega) dX12_week_58 ?_
    exact s_iret X (Nat.le_of_ble_eq_true rfl) (Nat.le_of_ble_eq_true rfl) (by cases h; exact hO) dX12_week_59
  · replace h := ite_neg h c6
    refine s_load0 X 0 rfl dX12_week_8 ?_
    have kM9 : J SHM G rm_X12_week (.inl O) C 0 0 51 [(0, VR 0), (1, VI service_), (2, VI days_), (3, VI from_), (4, VI to_)] [VI (if (((M_isIn days_ 0 127 = 0) ∨ (M_isIn from_ 0 27 = 0)) ∨ (M_isIn to_ 0 27 = 0)) ∨ (to_ < from_) then 1 else 0), VR 0] m_ := by
      refine s_const X (by unfold InR; omega) dX12_week_51 ?_
      obtain ⟨r_2, m_2, hq21, h⟩ := bq2_some h
      refine s_callV (As := [VI (if (((M_isIn days_ 0 127 = 0) ∨ (M_isIn from_ 0 27 = 0)) ∨ (M_isIn to_ 0 27 = 0)) ∨ (to_ < from_) then 1 else 0), VI 2]) X cw_X12_130 SHM_0 rfl dX12_week_52 (L_M_isThrown G (if (((M_isIn days_ 0 127 = 0) ∨ (M_isIn from_ 0 27 = 0)) ∨ (M_isIn to_ 0 27 = 0)) ∨ (to_ < from_) then 1 else 0) 2 m_ (r_2, m_2) hq21) rfl ⟨Nat.le_of_ble_eq_true rfl, Nat.le_of_ble_eq_true rfl⟩ ⟨Nat.le_of_ble_eq_true rfl, Nat.le_of_ble_eq_true rfl⟩ (Nat.le_of_ble_eq_true rfl) noT (kkR ?_)
      refine s_ifeq_f (tgt := 60) X dX12_week_55 (by omega) (fun c24 => ?_) (fun c25 => ?_)
      · replace h := ite_neg h c24
        refine s_iload_n X 3 rfl dX12_week_60 ?_
        obtain ⟨d_, e27, h⟩ := ltv_elim h
        refine s_istore X e27 rfl (by omega) dX12_week_61 ?_
        obtain ⟨d_5, m_5, hl37, h⟩ := bq2_some h
        obtain ⟨fu280, hl38⟩ := loop_iter hl37
        have KX34 : ∀ q9 : Int × Mem, q9 = (d_5, m_5) → J SHM G rm_X12_week (.inl O) C 0 0 102 [(5, VI q9.1), (0, VR 0), (1, VI service_), (2, VI days_), (3, VI from_), (4, VI to_)] [] (q9.2) := by
          intro q9 e9
          subst e9
          show J SHM G rm_X12_week (.inl O) C 0 0 102 [(5, VI d_5), (0, VR 0), (1, VI service_), (2, VI days_), (3, VI from_), (4, VI to_)] [] m_5
          refine s_const X (by unfold InR; omega) dX12_week_102 ?_
          obtain ⟨many_, e56, h⟩ := ltv_elim h
          refine s_istore X e56 rfl (by omega) dX12_week_103 ?_
          refine s_const X (by unfold InR; omega) dX12_week_105 ?_
          obtain ⟨d_6, e58, h⟩ := ltv_elim h
          refine s_istore X e58 rfl (by omega) dX12_week_106 ?_
          obtain ⟨many_4, d_9, hl68, h⟩ := bq2_some h
          obtain ⟨fu590, hl69⟩ := loop_iter hl68
          have KX65 : ∀ q9 : Int × Int, q9 = (many_4, d_9) → J SHM G rm_X12_week (.inl O) C 0 0 146 [(6, VI q9.2), (5, VI q9.1), (0, VR 0), (1, VI service_), (2, VI days_), (3, VI from_), (4, VI to_)] [] m_5 := by
            intro q9 e9
            subst e9
            show J SHM G rm_X12_week (.inl O) C 0 0 146 [(6, VI d_9), (5, VI many_4), (0, VR 0), (1, VI service_), (2, VI days_), (3, VI from_), (4, VI to_)] [] m_5
            refine s_iload X 1 rfl dX12_week_146 ?_
            exact s_iret X (Nat.le_of_ble_eq_true rfl) (Nat.le_of_ble_eq_true rfl) (by cases h; exact hO) dX12_week_148
          have LP64 : ∀ (fu59 : Nat) (many_2 : Int) (d_7 : Int), iter (fun s => M_week_b2 service_ m_5 s.1 s.2) fu59 (many_2, d_7) = some (many_4, d_9) → J SHM G rm_X12_week (.inl O) C 0 0 108 [(6, VI d_7), (5, VI many_2), (0, VR 0), (1, VI service_), (2, VI days_), (3, VI from_), (4, VI to_)] [] m_5 := by
            intro fu59
            induction fu59 with
            | zero => intro many_2 d_7 hn60; exact absurd hn60 (by simp [iter])
            | succ fu59 ih63 =>
              intro many_2 d_7 hn60
              obtain ⟨x61, h, hc62⟩ := iter_succ hn60
              replace h : M_week_b2 service_ m_5 many_2 d_7 = some x61 := h
              unfold M_week_b2 at h
              refine s_iload X 0 rfl dX12_week_108 ?_
              refine s_bipush X (by omega) dX12_week_110 ?_
              refine s_icmpge_f (tgt := 146) X dX12_week_112 (by omega) (fun c73 => ?_) (fun c74 => ?_)
              · replace h := ite_neg h c73
                exact KX65 _ (iter_exit h hc62)
              · replace h := ite_pos h c74
                obtain ⟨g75, h⟩ := grd_some h
                refine s_iload X 1 rfl dX12_week_115 ?_
                have kM76 : J SHM G rm_X12_week (.inl O) C 0 0 137 [(6, VI d_7), (5, VI many_2), (0, VR 0), (1, VI service_), (2, VI days_), (3, VI from_), (4, VI to_)] [VI (if ¬ m_5 4 (28 * service_ + d_7).toNat = 0 then 1 else 0), VI many_2] m_5 := by
                  refine s_iadd X g75.2.2.2.2 dX12_week_137 ?_
                  obtain ⟨many_3, e79, h⟩ := ltv_elim h
                  refine s_istore X e79 rfl (by omega) dX12_week_138 ?_
                  obtain ⟨g80, h⟩ := grd_some h
                  obtain ⟨d_8, e81, h⟩ := ltv_elim h
                  refine s_iinc X 1 rfl g80 e81 rfl (by omega) dX12_week_140 ?_
                  refine s_goto (tgt := 108) X dX12_week_143 (by omega) ?_
                  exact ih63 _ _ (iter_next h hc62)
                refine s_load0 X 2 rfl dX12_week_117 ?_
                refine s_getR (id := 4) X fk_X12_23 SHM_0 rfl dX12_week_118 ?_
                refine s_bipush X (by omega) dX12_week_121 ?_
                refine s_iload_n X 3 rfl dX12_week_123 ?_
                refine s_imul X g75.1 dX12_week_124 ?_
                refine s_iload X 0 rfl dX12_week_125 ?_
                refine s_iadd X g75.2.1 dX12_week_127 ?_
                refine s_bald X SHM_4 g75.2.2.1 g75.2.2.2.1 dX12_week_128 ?_
                refine s_ifeq_f (tgt := 136) X dX12_week_129 (by omega) (fun c77 => ?_) (fun c78 => ?_)
                · refine s_const X (by unfold InR; omega) dX12_week_136 ?_
                  exact s_eqt (if_neg c77) kM76
                · refine s_const X (by unfold InR; omega) dX12_week_132 ?_
                  refine s_goto (tgt := 137) X dX12_week_133 (by omega) ?_
                  exact s_eqt (if_pos c78) kM76
          exact LP64 _ _ _ hl69
        have LP33 : ∀ (fu28 : Nat) (d_2 : Int) (m_3 : Mem), iter (fun s => M_week_b1 service_ days_ to_ s.1 s.2) fu28 (d_2, m_3) = some (d_5, m_5) → J SHM G rm_X12_week (.inl O) C 0 0 63 [(5, VI d_2), (0, VR 0), (1, VI service_), (2, VI days_), (3, VI from_), (4, VI to_)] [] m_3 := by
          intro fu28
          induction fu28 with
          | zero => intro d_2 m_3 hn29; exact absurd hn29 (by simp [iter])
          | succ fu28 ih32 =>
            intro d_2 m_3 hn29
            obtain ⟨x30, h, hc31⟩ := iter_succ hn29
            replace h : M_week_b1 service_ days_ to_ d_2 m_3 = some x30 := h
            unfold M_week_b1 at h
            refine s_iload X 0 rfl dX12_week_63 ?_
            refine s_iload X 5 rfl dX12_week_65 ?_
            refine s_icmpgt_f (tgt := 102) X dX12_week_67 (by omega) (fun c42 => ?_) (fun c43 => ?_)
            · replace h := ite_neg h c42
              exact KX34 _ (iter_exit h hc31)
            · replace h := ite_pos h c43
              refine s_iload_n X 3 rfl dX12_week_70 ?_
              refine s_iload X 0 rfl dX12_week_71 ?_
              refine s_bipush X (by omega) dX12_week_73 ?_
              refine s_irem X (by omega) dX12_week_75 ?_
              refine s_ishr X dX12_week_76 ?_
              refine s_const X (by unfold InR; omega) dX12_week_77 ?_
              refine s_iand X dX12_week_78 ?_
              refine s_const X (by unfold InR; omega) dX12_week_79 ?_
              refine s_icmpne_f (tgt := 96) X dX12_week_80 (by omega) (fun c47 => ?_) (fun c48 => ?_)
              · replace h := ite_neg h c47
                obtain ⟨g49, h⟩ := grd_some h
                obtain ⟨d_3, e50, h⟩ := ltv_elim h
                refine s_iinc X 0 rfl g49 e50 rfl (by omega) dX12_week_96 ?_
                refine s_goto (tgt := 63) X dX12_week_99 (by omega) ?_
                exact ih32 _ _ (iter_next h hc31)
              · replace h := ite_pos h c48
                obtain ⟨g51, h⟩ := grd_some h
                refine s_load0 X 1 rfl dX12_week_83 ?_
                refine s_getR (id := 4) X fk_X12_23 SHM_0 rfl dX12_week_84 ?_
                refine s_bipush X (by omega) dX12_week_87 ?_
                refine s_iload_n X 2 rfl dX12_week_89 ?_
                refine s_imul X g51.1 dX12_week_90 ?_
                refine s_iload X 0 rfl dX12_week_91 ?_
                refine s_iadd X g51.2.1 dX12_week_93 ?_
                refine s_const X (by unfold InR; omega) dX12_week_94 ?_
                obtain ⟨m_4, e52, h⟩ := ltv_elim h
                refine s_bast X e52 SHM_4 g51.2.2.1 g51.2.2.2 (Or.inr rfl) dX12_week_95 ?_
                obtain ⟨g53, h⟩ := grd_some h
                obtain ⟨d_4, e54, h⟩ := ltv_elim h
                refine s_iinc X 0 rfl g53 e54 rfl (by omega) dX12_week_96 ?_
                refine s_goto (tgt := 63) X dX12_week_99 (by omega) ?_
                exact ih32 _ _ (iter_next h hc31)
        exact LP33 _ _ _ hl38
      · replace h := ite_pos h c25
        refine s_const X (by unfold InR; omega) dX12_week_58 ?_
        exact s_iret X (Nat.le_of_ble_eq_true rfl) (Nat.le_of_ble_eq_true rfl) (by cases h; exact hO) dX12_week_59
    refine s_iload_n X 2 rfl dX12_week_9 ?_
    refine s_const X (by unfold InR; omega) dX12_week_10 ?_
    refine s_bipush X (by omega) dX12_week_11 ?_
    refine s_callS (As := [VI days_, VI 0, VI 127]) X cw_X12_126 dX12_week_13 (L_M_isIn G days_ 0 127 m_) rfl ⟨Nat.le_of_ble_eq_true rfl, Nat.le_of_ble_eq_true rfl⟩ ⟨Nat.le_of_ble_eq_true rfl, Nat.le_of_ble_eq_true rfl⟩ (Nat.le_of_ble_eq_true rfl) noT (kkR ?_)
    refine s_ifeq_t (tgt := 46) X dX12_week_16 (by omega) (fun c10 => ?_) (fun c11 => ?_)
    · refine s_const X (by unfold InR; omega) dX12_week_46 ?_
      refine s_goto (tgt := 51) X dX12_week_47 (by omega) ?_
      exact s_eqt (if_pos (Or.inl (Or.inl (Or.inl c10)))) kM9
    · have a12 : ¬ (M_isIn days_ 0 127 = 0) := c11
      refine s_iload_n X 3 rfl dX12_week_19 ?_
      refine s_const X (by unfold InR; omega) dX12_week_20 ?_
      refine s_bipush X (by omega) dX12_week_21 ?_
      refine s_callS (As := [VI from_, VI 0, VI 27]) X cw_X12_126 dX12_week_23 (L_M_isIn G from_ 0 27 m_) rfl ⟨Nat.le_of_ble_eq_true rfl, Nat.le_of_ble_eq_true rfl⟩ ⟨Nat.le_of_ble_eq_true rfl, Nat.le_of_ble_eq_true rfl⟩ (Nat.le_of_ble_eq_true rfl) noT (kkR ?_)
      refine s_ifeq_t (tgt := 46) X dX12_week_26 (by omega) (fun c13 => ?_) (fun c14 => ?_)
      · refine s_const X (by unfold InR; omega) dX12_week_46 ?_
        refine s_goto (tgt := 51) X dX12_week_47 (by omega) ?_
        exact s_eqt (if_pos (Or.inl (Or.inl (Or.inr c13)))) kM9
      · have a15 : ¬ ((M_isIn days_ 0 127 = 0) ∨ (M_isIn from_ 0 27 = 0)) := (fun q => q.elim a12 c14)
        refine s_iload X 4 rfl dX12_week_29 ?_
        refine s_const X (by unfold InR; omega) dX12_week_31 ?_
        refine s_bipush X (by omega) dX12_week_32 ?_
        refine s_callS (As := [VI to_, VI 0, VI 27]) X cw_X12_126 dX12_week_34 (L_M_isIn G to_ 0 27 m_) rfl ⟨Nat.le_of_ble_eq_true rfl, Nat.le_of_ble_eq_true rfl⟩ ⟨Nat.le_of_ble_eq_true rfl, Nat.le_of_ble_eq_true rfl⟩ (Nat.le_of_ble_eq_true rfl) noT (kkR ?_)
        refine s_ifeq_t (tgt := 46) X dX12_week_37 (by omega) (fun c16 => ?_) (fun c17 => ?_)
        · refine s_const X (by unfold InR; omega) dX12_week_46 ?_
          refine s_goto (tgt := 51) X dX12_week_47 (by omega) ?_
          exact s_eqt (if_pos (Or.inl (Or.inr c16))) kM9
        · have a18 : ¬ (((M_isIn days_ 0 127 = 0) ∨ (M_isIn from_ 0 27 = 0)) ∨ (M_isIn to_ 0 27 = 0)) := (fun q => q.elim a15 c17)
          refine s_iload X 4 rfl dX12_week_40 ?_
          refine s_iload_n X 3 rfl dX12_week_42 ?_
          refine s_icmpge_f (tgt := 50) X dX12_week_43 (by omega) (fun c19 => ?_) (fun c20 => ?_)
          · refine s_const X (by unfold InR; omega) dX12_week_50 ?_
            exact s_eqt (if_neg (fun q => q.elim a18 c19)) kM9
          · refine s_const X (by unfold InR; omega) dX12_week_46 ?_
            refine s_goto (tgt := 51) X dX12_week_47 (by omega) ?_
            exact s_eqt (if_pos (Or.inr c20)) kM9
set_option maxRecDepth 20000 in
set_option maxHeartbeats 4000000 in
theorem L_M_putDay (G : Gl) (service_ : Int) (day_ : Int) (isOn_ : Int) (m : Mem) (r : (Int × Mem))  (h : M_putDay service_ day_ isOn_ m = some r) : Con SHM G yX12_putDay cX12_putDay 5 (some .boolean) rm_X12_putDay [VR 0, VI service_, VI day_, VI isOn_] m (((.inl (some (VI r.1)), r.2) : Res × Mem)) := by
  refine con_of (own := "LastbusModel") (by decide) rfl (Nat.le_of_ble_eq_true rfl) (fun C X => ?_)
  obtain ⟨O, hO⟩ : ∃ O : Res × Mem, O = (((.inl (some (VI r.1)), r.2) : Res × Mem)) := ⟨_, rfl⟩
  rw [← hO]
  show J SHM G rm_X12_putDay (.inl O) C 0 0 0 [(0, VR 0), (1, VI service_), (2, VI day_), (3, VI isOn_)] [] m
  unfold M_putDay at h
  refine s_load0 X 0 rfl dX12_putDay_0 ?_
  refine s_iload_n X 1 rfl dX12_putDay_1 ?_
  obtain ⟨r_, m_, hq2, h⟩ := bq2_some h
  refine s_callV (As := [VI service_]) X cw_X12_151 SHM_0 rfl dX12_putDay_2 (L_M_isNoService G service_ m (r_, m_) hq2) rfl ⟨Nat.le_of_ble_eq_true rfl, Nat.le_of_ble_eq_true rfl⟩ ⟨Nat.le_of_ble_eq_true rfl, Nat.le_of_ble_eq_true rfl⟩ (Nat.le_of_ble_eq_true rfl) noT (kkR ?_)
  refine s_ifne_t (tgt := 17) X dX12_putDay_5 (by omega) (fun c5 => ?_) (fun c6 => ?_)
  · replace h := ite_pos h c5
    refine s_const X (by unfold InR; omega) dX12_putDay_17 ?_
    exact s_zret X (Or.inl rfl) (Nat.le_of_ble_eq_true rfl) (Nat.le_of_ble_eq_true rfl) (by cases h; exact hO) dX12_putDay_18
  · replace h := ite_neg h c6
    refine s_load0 X 0 rfl dX12_putDay_8 ?_
    refine s_iload_n X 2 rfl dX12_putDay_9 ?_
    refine s_const X (by unfold InR; omega) dX12_putDay_10 ?_
    obtain ⟨r_2, m_2, hq9, h⟩ := bq2_some h
    refine s_callV (As := [VI day_, VI 2]) X cw_X12_154 SHM_0 rfl dX12_putDay_11 (L_M_isNoDay G day_ 2 m_ (r_2, m_2) hq9) rfl ⟨Nat.le_of_ble_eq_true rfl, Nat.le_of_ble_eq_true rfl⟩ ⟨Nat.le_of_ble_eq_true rfl, Nat.le_of_ble_eq_true rfl⟩ (Nat.le_of_ble_eq_true rfl) noT (kkR ?_)
    refine s_ifeq_f (tgt := 19) X dX12_putDay_14 (by omega) (fun c12 => ?_) (fun c13 => ?_)
    · replace h := ite_neg h c12
      obtain ⟨g14, h⟩ := grd_some h
      refine s_load0 X 0 rfl dX12_putDay_19 ?_
      refine s_getR (id := 4) X fk_X12_23 SHM_0 rfl dX12_putDay_20 ?_
      refine s_bipush X (by omega) dX12_putDay_23 ?_
      refine s_iload_n X 1 rfl dX12_putDay_25 ?_
      refine s_imul X g14.1 dX12_putDay_26 ?_
      refine s_iload_n X 2 rfl dX12_putDay_27 ?_
      refine s_iadd X g14.2.1 dX12_putDay_28 ?_
      refine s_bald X SHM_4 g14.2.2.1 g14.2.2.2 dX12_putDay_29 ?_
      obtain ⟨had_, e15, h⟩ := ltv_elim h
      refine s_istore X e15 rfl (by omega) dX12_putDay_30 ?_
      obtain ⟨g16, h⟩ := grd_some h
      refine s_load0 X 1 rfl dX12_putDay_32 ?_
      refine s_getR (id := 4) X fk_X12_23 SHM_0 rfl dX12_putDay_33 ?_
      refine s_bipush X (by omega) dX12_putDay_36 ?_
      refine s_iload_n X 2 rfl dX12_putDay_38 ?_
      refine s_imul X g14.1 dX12_putDay_39 ?_
      refine s_iload_n X 3 rfl dX12_putDay_40 ?_
      refine s_iadd X g14.2.1 dX12_putDay_41 ?_
      refine s_iload_n X 4 rfl dX12_putDay_42 ?_
      obtain ⟨m_3, e17, h⟩ := ltv_elim h
      refine s_bast X e17 SHM_4 g14.2.2.1 g14.2.2.2 g16 dX12_putDay_43 ?_
      obtain ⟨g18, h⟩ := grd_some h
      refine s_iload X 0 rfl dX12_putDay_44 ?_
      exact s_zret X g18 (Nat.le_of_ble_eq_true rfl) (Nat.le_of_ble_eq_true rfl) (by cases h; exact hO) dX12_putDay_46
    · replace h := ite_pos h c13
      refine s_const X (by unfold InR; omega) dX12_putDay_17 ?_
      exact s_zret X (Or.inl rfl) (Nat.le_of_ble_eq_true rfl) (Nat.le_of_ble_eq_true rfl) (by cases h; exact hO) dX12_putDay_18
set_option maxRecDepth 20000 in
set_option maxHeartbeats 4000000 in
theorem L_M_runsOn (G : Gl) (service_ : Int) (day_ : Int) (m : Mem) (r : (Int × Mem))  (h : M_runsOn service_ day_ m = some r) : Con SHM G yX12_runsOn cX12_runsOn 3 (some .boolean) rm_X12_runsOn [VR 0, VI service_, VI day_] m (((.inl (some (VI r.1)), r.2) : Res × Mem)) := by
  refine con_of (own := "LastbusModel") (by decide) rfl (Nat.le_of_ble_eq_true rfl) (fun C X => ?_)
  obtain ⟨O, hO⟩ : ∃ O : Res × Mem, O = (((.inl (some (VI r.1)), r.2) : Res × Mem)) := ⟨_, rfl⟩
  rw [← hO]
  show J SHM G rm_X12_runsOn (.inl O) C 0 0 0 [(0, VR 0), (1, VI service_), (2, VI day_)] [] m
  unfold M_runsOn at h
  refine s_load0 X 0 rfl dX12_runsOn_0 ?_
  refine s_iload_n X 1 rfl dX12_runsOn_1 ?_
  obtain ⟨r_, m_, hq2, h⟩ := bq2_some h
  refine s_callV (As := [VI service_]) X cw_X12_151 SHM_0 rfl dX12_runsOn_2 (L_M_isNoService G service_ m (r_, m_) hq2) rfl ⟨Nat.le_of_ble_eq_true rfl, Nat.le_of_ble_eq_true rfl⟩ ⟨Nat.le_of_ble_eq_true rfl, Nat.le_of_ble_eq_true rfl⟩ (Nat.le_of_ble_eq_true rfl) noT (kkR ?_)
  refine s_ifne_t (tgt := 35) X dX12_runsOn_5 (by omega) (fun c5 => ?_) (fun c6 => ?_)
  · replace h := ite_pos h c5
    refine s_const X (by unfold InR; omega) dX12_runsOn_35 ?_
    exact s_zret X (Or.inl rfl) (Nat.le_of_ble_eq_true rfl) (Nat.le_of_ble_eq_true rfl) (by cases h; exact hO) dX12_runsOn_36
  · replace h := ite_neg h c6
    refine s_load0 X 0 rfl dX12_runsOn_8 ?_
    refine s_iload_n X 2 rfl dX12_runsOn_9 ?_
    refine s_const X (by unfold InR; omega) dX12_runsOn_10 ?_
    obtain ⟨r_2, m_2, hq9, h⟩ := bq2_some h
    refine s_callV (As := [VI day_, VI 2]) X cw_X12_154 SHM_0 rfl dX12_runsOn_11 (L_M_isNoDay G day_ 2 m_ (r_2, m_2) hq9) rfl ⟨Nat.le_of_ble_eq_true rfl, Nat.le_of_ble_eq_true rfl⟩ ⟨Nat.le_of_ble_eq_true rfl, Nat.le_of_ble_eq_true rfl⟩ (Nat.le_of_ble_eq_true rfl) noT (kkR ?_)
    refine s_ifne_t (tgt := 35) X dX12_runsOn_14 (by omega) (fun c12 => ?_) (fun c13 => ?_)
    · replace h := ite_pos h c12
      refine s_const X (by unfold InR; omega) dX12_runsOn_35 ?_
      exact s_zret X (Or.inl rfl) (Nat.le_of_ble_eq_true rfl) (Nat.le_of_ble_eq_true rfl) (by cases h; exact hO) dX12_runsOn_36
    · replace h := ite_neg h c13
      obtain ⟨g15, h⟩ := grd_some h
      refine s_load0 X 0 rfl dX12_runsOn_17 ?_
      refine s_getR (id := 4) X fk_X12_23 SHM_0 rfl dX12_runsOn_18 ?_
      refine s_bipush X (by omega) dX12_runsOn_21 ?_
      refine s_iload_n X 1 rfl dX12_runsOn_23 ?_
      refine s_imul X g15.1 dX12_runsOn_24 ?_
      refine s_iload_n X 2 rfl dX12_runsOn_25 ?_
      refine s_iadd X g15.2.1 dX12_runsOn_26 ?_
      refine s_bald X SHM_4 g15.2.2.1 g15.2.2.2 dX12_runsOn_27 ?_
      refine s_ifeq_f (tgt := 35) X dX12_runsOn_28 (by omega) (fun c18 => ?_) (fun c19 => ?_)
      · replace h := ite_neg h c18
        refine s_const X (by unfold InR; omega) dX12_runsOn_35 ?_
        exact s_zret X (Or.inl rfl) (Nat.le_of_ble_eq_true rfl) (Nat.le_of_ble_eq_true rfl) (by cases h; exact hO) dX12_runsOn_36
      · replace h := ite_pos h c19
        refine s_const X (by unfold InR; omega) dX12_runsOn_31 ?_
        refine s_goto (tgt := 36) X dX12_runsOn_32 (by omega) ?_
        exact s_zret X (Or.inr rfl) (Nat.le_of_ble_eq_true rfl) (Nat.le_of_ble_eq_true rfl) (by cases h; exact hO) dX12_runsOn_36
set_option maxRecDepth 20000 in
set_option maxHeartbeats 4000000 in
theorem L_M_nextDay (G : Gl) (service_ : Int) (day_ : Int) (m : Mem) (r : (Int × Mem))  (h : M_nextDay service_ day_ m = some r) : Con SHM G yX12_nextDay cX12_nextDay 4 (some .int) rm_X12_nextDay [VR 0, VI service_, VI day_] m (((.inl (some (VI r.1)), r.2) : Res × Mem)) := by
  refine con_of (own := "LastbusModel") (by decide) rfl (Nat.le_of_ble_eq_true rfl) (fun C X => ?_)
  obtain ⟨O, hO⟩ : ∃ O : Res × Mem, O = (((.inl (some (VI r.1)), r.2) : Res × Mem)) := ⟨_, rfl⟩
  rw [← hO]
  show J SHM G rm_X12_nextDay (.inl O) C 0 0 0 [(0, VR 0), (1, VI service_), (2, VI day_)] [] m
  unfold M_nextDay at h
  refine s_load0 X 0 rfl dX12_nextDay_0 ?_
  refine s_iload_n X 1 rfl dX12_nextDay_1 ?_
  obtain ⟨r_, m_, hq2, h⟩ := bq2_some h
  refine s_callV (As := [VI service_]) X cw_X12_151 SHM_0 rfl dX12_nextDay_2 (L_M_isNoService G service_ m (r_, m_) hq2) rfl ⟨Nat.le_of_ble_eq_true rfl, Nat.le_of_ble_eq_true rfl⟩ ⟨Nat.le_of_ble_eq_true rfl, Nat.le_of_ble_eq_true rfl⟩ (Nat.le_of_ble_eq_true rfl) noT (kkR ?_)
  refine s_ifne_t (tgt := 17) X dX12_nextDay_5 (by omega) (fun c5 => ?_) (fun c6 => ?_)
  · replace h := ite_pos h c5
    refine s_const X (by unfold InR; omega) dX12_nextDay_17 ?_
    exact s_iret X (Nat.le_of_ble_eq_true rfl) (Nat.le_of_ble_eq_true rfl) (by cases h; exact hO) dX12_nextDay_18
  · replace h := ite_neg h c6
    refine s_load0 X 0 rfl dX12_nextDay_8 ?_
    refine s_iload_n X 2 rfl dX12_nextDay_9 ?_
    refine s_const X (by unfold InR; omega) dX12_nextDay_10 ?_
    obtain ⟨r_2, m_2, hq9, h⟩ := bq2_some h
    refine s_callV (As := [VI day_, VI 2]) X cw_X12_154 SHM_0 rfl dX12_nextDay_11 (L_M_isNoDay G day_ 2 m_ (r_2, m_2) hq9) rfl ⟨Nat.le_of_ble_eq_true rfl, Nat.le_of_ble_eq_true rfl⟩ ⟨Nat.le_of_ble_eq_true rfl, Nat.le_of_ble_eq_true rfl⟩ (Nat.le_of_ble_eq_true rfl) noT (kkR ?_)
    refine s_ifeq_f (tgt := 19) X dX12_nextDay_14 (by omega) (fun c12 => ?_) (fun c13 => ?_)
    · replace h := ite_neg h c12
      refine s_iload_n X 2 rfl dX12_nextDay_19 ?_
      obtain ⟨d_, e15, h⟩ := ltv_elim h
      refine s_istore_n X e15 rfl (by omega) dX12_nextDay_20 ?_
      obtain ⟨d_4, hl25, h⟩ := bq1_some h
      obtain ⟨fu160, hl26⟩ := loop_iter hl25
      have KX22 : ∀ q9 : Int, q9 = d_4 → J SHM G rm_X12_nextDay (.inl O) C 0 0 47 [(3, VI q9), (0, VR 0), (1, VI service_), (2, VI day_)] [] m_2 := by
        intro q9 e9
        rw [e9]
        show J SHM G rm_X12_nextDay (.inl O) C 0 0 47 [(3, VI d_4), (0, VR 0), (1, VI service_), (2, VI day_)] [] m_2
        refine s_load0 X 1 rfl dX12_nextDay_47 ?_
        have kM39 : J SHM G rm_X12_nextDay (.inl O) C 0 0 59 [(3, VI d_4), (0, VR 0), (1, VI service_), (2, VI day_)] [VI (if d_4 = 28 then 1 else 0), VR 0] m_2 := by
          refine s_const X (by unfold InR; omega) dX12_nextDay_59 ?_
          obtain ⟨r_3, m_3, hq42, h⟩ := bq2_some h
          refine s_callV (As := [VI (if d_4 = 28 then 1 else 0), VI 3]) X cw_X12_130 SHM_0 rfl dX12_nextDay_60 (L_M_isThrown G (if d_4 = 28 then 1 else 0) 3 m_2 (r_3, m_3) hq42) rfl ⟨Nat.le_of_ble_eq_true rfl, Nat.le_of_ble_eq_true rfl⟩ ⟨Nat.le_of_ble_eq_true rfl, Nat.le_of_ble_eq_true rfl⟩ (Nat.le_of_ble_eq_true rfl) noT (kkR ?_)
          refine s_ifeq_f (tgt := 70) X dX12_nextDay_63 (by omega) (fun c45 => ?_) (fun c46 => ?_)
          · replace h := ite_neg h c45
            refine s_iload_n X 0 rfl dX12_nextDay_70 ?_
            exact s_iret X (Nat.le_of_ble_eq_true rfl) (Nat.le_of_ble_eq_true rfl) (by cases h; exact hO) dX12_nextDay_71
          · replace h := ite_pos h c46
            refine s_const X (by unfold InR; omega) dX12_nextDay_66 ?_
            refine s_goto (tgt := 71) X dX12_nextDay_67 (by omega) ?_
            exact s_iret X (Nat.le_of_ble_eq_true rfl) (Nat.le_of_ble_eq_true rfl) (by cases h; exact hO) dX12_nextDay_71
        refine s_iload_n X 0 rfl dX12_nextDay_48 ?_
        refine s_bipush X (by omega) dX12_nextDay_49 ?_
        refine s_icmpne_f (tgt := 58) X dX12_nextDay_51 (by omega) (fun c40 => ?_) (fun c41 => ?_)
        · refine s_const X (by unfold InR; omega) dX12_nextDay_58 ?_
          exact s_eqt (if_neg c40) kM39
        · refine s_const X (by unfold InR; omega) dX12_nextDay_54 ?_
          refine s_goto (tgt := 59) X dX12_nextDay_55 (by omega) ?_
          exact s_eqt (if_pos c41) kM39
      have LP21 : ∀ (fu16 : Nat) (d_2 : Int), iter (fun s => M_nextDay_b1 service_ m_2 s) fu16 d_2 = some d_4 → J SHM G rm_X12_nextDay (.inl O) C 0 0 21 [(3, VI d_2), (0, VR 0), (1, VI service_), (2, VI day_)] [] m_2 := by
        intro fu16
        induction fu16 with
        | zero => intro d_2 hn17; exact absurd hn17 (by simp [iter])
        | succ fu16 ih20 =>
          intro d_2 hn17
          obtain ⟨x18, h, hc19⟩ := iter_succ hn17
          replace h : M_nextDay_b1 service_ m_2 d_2 = some x18 := h
          unfold M_nextDay_b1 at h
          obtain ⟨g27, h⟩ := grd_some h
          have kF29 : ¬ ((d_2 < 28) ∧ (m_2 4 (28 * service_ + d_2).toNat = 0)) → J SHM G rm_X12_nextDay (.inl O) C 0 0 47 [(3, VI d_2), (0, VR 0), (1, VI service_), (2, VI day_)] [] m_2 := by
            intro c32
            replace h := ite_neg h c32
            exact KX22 _ (iter_exit h hc19)
          refine s_iload_n X 0 rfl dX12_nextDay_21 ?_
          refine s_bipush X (by omega) dX12_nextDay_22 ?_
          refine s_icmpge_f (tgt := 47) X dX12_nextDay_24 (by omega) (fun c30 => ?_) (fun c31 => ?_)
          · exact kF29 (fun q => c30 q.1)
          · have a33 : d_2 < 28 := c31
            refine s_load0 X 1 rfl dX12_nextDay_27 ?_
            refine s_getR (id := 4) X fk_X12_23 SHM_0 rfl dX12_nextDay_28 ?_
            refine s_bipush X (by omega) dX12_nextDay_31 ?_
            refine s_iload_n X 2 rfl dX12_nextDay_33 ?_
            refine s_imul X (g27.1 a33) dX12_nextDay_34 ?_
            refine s_iload_n X 0 rfl dX12_nextDay_35 ?_
            refine s_iadd X (g27.2.1 a33) dX12_nextDay_36 ?_
            refine s_bald X SHM_4 (g27.2.2.1 a33) (g27.2.2.2 a33) dX12_nextDay_37 ?_
            refine s_ifne_f (tgt := 47) X dX12_nextDay_38 (by omega) (fun c34 => ?_) (fun c35 => ?_)
            · exact kF29 (fun q => c34 q.2)
            · replace h := ite_pos h ⟨a33, c35⟩
              obtain ⟨g36, h⟩ := grd_some h
              obtain ⟨d_3, e37, h⟩ := ltv_elim h
              refine s_iinc X 0 rfl g36 e37 rfl (by omega) dX12_nextDay_41 ?_
              refine s_goto (tgt := 21) X dX12_nextDay_44 (by omega) ?_
              exact ih20 _ (iter_next h hc19)
      exact LP21 _ _ hl26
    · replace h := ite_pos h c13
      refine s_const X (by unfold InR; omega) dX12_nextDay_17 ?_
      exact s_iret X (Nat.le_of_ble_eq_true rfl) (Nat.le_of_ble_eq_true rfl) (by cases h; exact hO) dX12_nextDay_18
set_option maxRecDepth 20000 in
set_option maxHeartbeats 4000000 in
theorem L_M_added (G : Gl) (service_ : Int) (stop_ : Int) (time_ : Int) (m : Mem) (r : (Int × Mem))  (h : M_added service_ stop_ time_ m = some r) : Con SHM G yX12_added cX12_added 4 (some .int) rm_X12_added [VR 0, VI service_, VI stop_, VI time_] m (((.inl (some (VI r.1)), r.2) : Res × Mem)) := by
  refine con_of (own := "LastbusModel") (by decide) rfl (Nat.le_of_ble_eq_true rfl) (fun C X => ?_)
  obtain ⟨O, hO⟩ : ∃ O : Res × Mem, O = (((.inl (some (VI r.1)), r.2) : Res × Mem)) := ⟨_, rfl⟩
  rw [← hO]
  show J SHM G rm_X12_added (.inl O) C 0 0 0 [(0, VR 0), (1, VI service_), (2, VI stop_), (3, VI time_)] [] m
  unfold M_added at h
  obtain ⟨g1, h⟩ := grd_some h
  refine s_load0 X 0 rfl dX12_added_0 ?_
  refine s_getR (id := 5) X fk_X12_27 SHM_0 rfl dX12_added_1 ?_
  refine s_load0 X 0 rfl dX12_added_4 ?_
  refine s_getI X fk_X12_137 SHM_0 rfl dX12_added_5 ?_
  refine s_iload_n X 1 rfl dX12_added_8 ?_
  obtain ⟨m_, e2, h⟩ := ltv_elim h
  refine s_iast X e2 SHM_5 g1.1 g1.2 dX12_added_9 ?_
  obtain ⟨g3, h⟩ := grd_some h
  refine s_load0 X 0 rfl dX12_added_10 ?_
  refine s_getR (id := 6) X fk_X12_30 SHM_0 rfl dX12_added_11 ?_
  refine s_load0 X 0 rfl dX12_added_14 ?_
  refine s_getI X fk_X12_137 SHM_0 rfl dX12_added_15 ?_
  refine s_const X (by unfold InR; omega) dX12_added_18 ?_
  obtain ⟨m_2, e4, h⟩ := ltv_elim h
  refine s_iast X e4 SHM_6 g3.1 g3.2 dX12_added_19 ?_
  obtain ⟨g5, h⟩ := grd_some h
  refine s_load0 X 0 rfl dX12_added_20 ?_
  refine s_getR (id := 7) X fk_X12_33 SHM_0 rfl dX12_added_21 ?_
  refine s_bipush X (by omega) dX12_added_24 ?_
  refine s_load0 X 0 rfl dX12_added_26 ?_
  refine s_getI X fk_X12_137 SHM_0 rfl dX12_added_27 ?_
  refine s_imul X g5.1 dX12_added_30 ?_
  refine s_iload_n X 2 rfl dX12_added_31 ?_
  obtain ⟨m_3, e6, h⟩ := ltv_elim h
  refine s_iast X e6 SHM_7 g5.2.1 g5.2.2 dX12_added_32 ?_
  obtain ⟨g7, h⟩ := grd_some h
  refine s_load0 X 0 rfl dX12_added_33 ?_
  refine s_getR (id := 8) X fk_X12_36 SHM_0 rfl dX12_added_34 ?_
  refine s_bipush X (by omega) dX12_added_37 ?_
  refine s_load0 X 0 rfl dX12_added_39 ?_
  refine s_getI X fk_X12_137 SHM_0 rfl dX12_added_40 ?_
  refine s_imul X g7.1 dX12_added_43 ?_
  refine s_iload_n X 3 rfl dX12_added_44 ?_
  obtain ⟨m_4, e8, h⟩ := ltv_elim h
  refine s_iast X e8 SHM_8 g7.2.1 g7.2.2 dX12_added_45 ?_
  obtain ⟨g9, h⟩ := grd_some h
  refine s_load0 X 0 rfl dX12_added_46 ?_
  refine s_getR (id := 9) X fk_X12_39 SHM_0 rfl dX12_added_47 ?_
  refine s_bipush X (by omega) dX12_added_50 ?_
  refine s_load0 X 0 rfl dX12_added_52 ?_
  refine s_getI X fk_X12_137 SHM_0 rfl dX12_added_53 ?_
  refine s_imul X g9.1 dX12_added_56 ?_
  refine s_iload_n X 3 rfl dX12_added_57 ?_
  obtain ⟨m_5, e10, h⟩ := ltv_elim h
  refine s_iast X e10 SHM_9 g9.2.1 g9.2.2 dX12_added_58 ?_
  obtain ⟨g11, h⟩ := grd_some h
  refine s_load0 X 0 rfl dX12_added_59 ?_
  refine s_dup X rfl dX12_added_60 ?_
  refine s_getI X fk_X12_137 SHM_0 rfl dX12_added_61 ?_
  refine s_const X (by unfold InR; omega) dX12_added_64 ?_
  refine s_iadd X g11 dX12_added_65 ?_
  obtain ⟨m_6, e12, h⟩ := ltv_elim h
  refine s_putI X e12 fp_X12_137 SHM_0 rfl trivial dX12_added_66 ?_
  obtain ⟨g13, h⟩ := grd_some h
  refine s_load0 X 0 rfl dX12_added_69 ?_
  refine s_getI X fk_X12_137 SHM_0 rfl dX12_added_70 ?_
  refine s_const X (by unfold InR; omega) dX12_added_73 ?_
  refine s_isub X g13 dX12_added_74 ?_
  exact s_iret X (Nat.le_of_ble_eq_true rfl) (Nat.le_of_ble_eq_true rfl) (by cases h; exact hO) dX12_added_75
set_option maxRecDepth 20000 in
set_option maxHeartbeats 4000000 in
theorem L_M_trip (G : Gl) (service_ : Int) (stop_ : Int) (time_ : Int) (m : Mem) (r : (Int × Mem))  (h : M_trip service_ stop_ time_ m = some r) : Con SHM G yX12_trip cX12_trip 4 (some .int) rm_X12_trip [VR 0, VI service_, VI stop_, VI time_] m (((.inl (some (VI r.1)), r.2) : Res × Mem)) := by
  refine con_of (own := "LastbusModel") (by decide) rfl (Nat.le_of_ble_eq_true rfl) (fun C X => ?_)
  obtain ⟨O, hO⟩ : ∃ O : Res × Mem, O = (((.inl (some (VI r.1)), r.2) : Res × Mem)) := ⟨_, rfl⟩
  rw [← hO]
  show J SHM G rm_X12_trip (.inl O) C 0 0 0 [(0, VR 0), (1, VI service_), (2, VI stop_), (3, VI time_)] [] m
  unfold M_trip at h
  refine s_load0 X 0 rfl dX12_trip_0 ?_
  refine s_iload_n X 1 rfl dX12_trip_1 ?_
  obtain ⟨r_, m_, hq2, h⟩ := bq2_some h
  refine s_callV (As := [VI service_]) X cw_X12_151 SHM_0 rfl dX12_trip_2 (L_M_isNoService G service_ m (r_, m_) hq2) rfl ⟨Nat.le_of_ble_eq_true rfl, Nat.le_of_ble_eq_true rfl⟩ ⟨Nat.le_of_ble_eq_true rfl, Nat.le_of_ble_eq_true rfl⟩ (Nat.le_of_ble_eq_true rfl) noT (kkR ?_)
  refine s_ifne_t (tgt := 62) X dX12_trip_5 (by omega) (fun c5 => ?_) (fun c6 => ?_)
  · replace h := ite_pos h c5
    refine s_const X (by unfold InR; omega) dX12_trip_62 ?_
    exact s_iret X (Nat.le_of_ble_eq_true rfl) (Nat.le_of_ble_eq_true rfl) (by cases h; exact hO) dX12_trip_63
  · replace h := ite_neg h c6
    refine s_load0 X 0 rfl dX12_trip_8 ?_
    refine s_iload_n X 2 rfl dX12_trip_9 ?_
    obtain ⟨r_2, m_2, hq9, h⟩ := bq2_some h
    refine s_callV (As := [VI stop_]) X cw_X12_147 SHM_0 rfl dX12_trip_10 (L_M_isNoStop G stop_ m_ (r_2, m_2) hq9) rfl ⟨Nat.le_of_ble_eq_true rfl, Nat.le_of_ble_eq_true rfl⟩ ⟨Nat.le_of_ble_eq_true rfl, Nat.le_of_ble_eq_true rfl⟩ (Nat.le_of_ble_eq_true rfl) noT (kkR ?_)
    refine s_ifne_t (tgt := 62) X dX12_trip_13 (by omega) (fun c12 => ?_) (fun c13 => ?_)
    · replace h := ite_pos h c12
      refine s_const X (by unfold InR; omega) dX12_trip_62 ?_
      exact s_iret X (Nat.le_of_ble_eq_true rfl) (Nat.le_of_ble_eq_true rfl) (by cases h; exact hO) dX12_trip_63
    · replace h := ite_neg h c13
      refine s_load0 X 0 rfl dX12_trip_16 ?_
      have kM16 : J SHM G rm_X12_trip (.inl O) C 0 0 33 [(0, VR 0), (1, VI service_), (2, VI stop_), (3, VI time_)] [VI (if M_isIn time_ 0 2879 = 0 then 1 else 0), VR 0] m_2 := by
        refine s_const X (by unfold InR; omega) dX12_trip_33 ?_
        obtain ⟨r_3, m_3, hq19, h⟩ := bq2_some h
        refine s_callV (As := [VI (if M_isIn time_ 0 2879 = 0 then 1 else 0), VI 2]) X cw_X12_130 SHM_0 rfl dX12_trip_34 (L_M_isThrown G (if M_isIn time_ 0 2879 = 0 then 1 else 0) 2 m_2 (r_3, m_3) hq19) rfl ⟨Nat.le_of_ble_eq_true rfl, Nat.le_of_ble_eq_true rfl⟩ ⟨Nat.le_of_ble_eq_true rfl, Nat.le_of_ble_eq_true rfl⟩ (Nat.le_of_ble_eq_true rfl) noT (kkR ?_)
        refine s_ifne_t (tgt := 62) X dX12_trip_37 (by omega) (fun c22 => ?_) (fun c23 => ?_)
        · replace h := ite_pos h c22
          refine s_const X (by unfold InR; omega) dX12_trip_62 ?_
          exact s_iret X (Nat.le_of_ble_eq_true rfl) (Nat.le_of_ble_eq_true rfl) (by cases h; exact hO) dX12_trip_63
        · replace h := ite_neg h c23
          refine s_load0 X 0 rfl dX12_trip_40 ?_
          have kM26 : J SHM G rm_X12_trip (.inl O) C 0 0 55 [(0, VR 0), (1, VI service_), (2, VI stop_), (3, VI time_)] [VI (if m_3 0 8 = 24 then 1 else 0), VR 0] m_3 := by
            refine s_const X (by unfold InR; omega) dX12_trip_55 ?_
            obtain ⟨r_4, m_4, hq29, h⟩ := bq2_some h
            refine s_callV (As := [VI (if m_3 0 8 = 24 then 1 else 0), VI 3]) X cw_X12_130 SHM_0 rfl dX12_trip_56 (L_M_isThrown G (if m_3 0 8 = 24 then 1 else 0) 3 m_3 (r_4, m_4) hq29) rfl ⟨Nat.le_of_ble_eq_true rfl, Nat.le_of_ble_eq_true rfl⟩ ⟨Nat.le_of_ble_eq_true rfl, Nat.le_of_ble_eq_true rfl⟩ (Nat.le_of_ble_eq_true rfl) noT (kkR ?_)
            refine s_ifeq_f (tgt := 64) X dX12_trip_59 (by omega) (fun c32 => ?_) (fun c33 => ?_)
            · replace h := ite_neg h c32
              refine s_load0 X 0 rfl dX12_trip_64 ?_
              refine s_iload_n X 1 rfl dX12_trip_65 ?_
              refine s_iload_n X 2 rfl dX12_trip_66 ?_
              refine s_iload_n X 3 rfl dX12_trip_67 ?_
              obtain ⟨r_5, m_5, hq35, h⟩ := bq2_some h
              refine s_callV (As := [VI service_, VI stop_, VI time_]) X cw_X12_158 SHM_0 rfl dX12_trip_68 (L_M_added G service_ stop_ time_ m_4 (r_5, m_5) hq35) rfl ⟨Nat.le_of_ble_eq_true rfl, Nat.le_of_ble_eq_true rfl⟩ ⟨Nat.le_of_ble_eq_true rfl, Nat.le_of_ble_eq_true rfl⟩ (Nat.le_of_ble_eq_true rfl) noT (kkR ?_)
              exact s_iret X (Nat.le_of_ble_eq_true rfl) (Nat.le_of_ble_eq_true rfl) (by cases h; exact hO) dX12_trip_71
            · replace h := ite_pos h c33
              refine s_const X (by unfold InR; omega) dX12_trip_62 ?_
              exact s_iret X (Nat.le_of_ble_eq_true rfl) (Nat.le_of_ble_eq_true rfl) (by cases h; exact hO) dX12_trip_63
          refine s_load0 X 0 rfl dX12_trip_41 ?_
          refine s_getI X fk_X12_137 SHM_0 rfl dX12_trip_42 ?_
          refine s_bipush X (by omega) dX12_trip_45 ?_
          refine s_icmpne_f (tgt := 54) X dX12_trip_47 (by omega) (fun c27 => ?_) (fun c28 => ?_)
          · refine s_const X (by unfold InR; omega) dX12_trip_54 ?_
            exact s_eqt (if_neg c27) kM26
          · refine s_const X (by unfold InR; omega) dX12_trip_50 ?_
            refine s_goto (tgt := 55) X dX12_trip_51 (by omega) ?_
            exact s_eqt (if_pos c28) kM26
      refine s_iload_n X 3 rfl dX12_trip_17 ?_
      refine s_const X (by unfold InR; omega) dX12_trip_18 ?_
      refine s_sipush X (by omega) dX12_trip_19 ?_
      refine s_callS (As := [VI time_, VI 0, VI 2879]) X cw_X12_126 dX12_trip_22 (L_M_isIn G time_ 0 2879 m_2) rfl ⟨Nat.le_of_ble_eq_true rfl, Nat.le_of_ble_eq_true rfl⟩ ⟨Nat.le_of_ble_eq_true rfl, Nat.le_of_ble_eq_true rfl⟩ (Nat.le_of_ble_eq_true rfl) noT (kkR ?_)
      refine s_ifne_f (tgt := 32) X dX12_trip_25 (by omega) (fun c17 => ?_) (fun c18 => ?_)
      · refine s_const X (by unfold InR; omega) dX12_trip_32 ?_
        exact s_eqt (if_neg c17) kM16
      · refine s_const X (by unfold InR; omega) dX12_trip_28 ?_
        refine s_goto (tgt := 33) X dX12_trip_29 (by omega) ?_
        exact s_eqt (if_pos c18) kM16
set_option maxRecDepth 20000 in
set_option maxHeartbeats 4000000 in
theorem L_M_call (G : Gl) (trip_ : Int) (stop_ : Int) (comes_ : Int) (goes_ : Int) (m : Mem) (r : (Int × Mem))  (h : M_call trip_ stop_ comes_ goes_ m = some r) : Con SHM G yX12_call cX12_call 7 (some .int) rm_X12_call [VR 0, VI trip_, VI stop_, VI comes_, VI goes_] m (((.inl (some (VI r.1)), r.2) : Res × Mem)) := by
  refine con_of (own := "LastbusModel") (by decide) rfl (Nat.le_of_ble_eq_true rfl) (fun C X => ?_)
  obtain ⟨O, hO⟩ : ∃ O : Res × Mem, O = (((.inl (some (VI r.1)), r.2) : Res × Mem)) := ⟨_, rfl⟩
  rw [← hO]
  show J SHM G rm_X12_call (.inl O) C 0 0 0 [(0, VR 0), (1, VI trip_), (2, VI stop_), (3, VI comes_), (4, VI goes_)] [] m
  unfold M_call at h
  refine s_load0 X 0 rfl dX12_call_0 ?_
  refine s_iload_n X 1 rfl dX12_call_1 ?_
  obtain ⟨r_, m_, hq2, h⟩ := bq2_some h
  refine s_callV (As := [VI trip_]) X cw_X12_140 SHM_0 rfl dX12_call_2 (L_M_isNoTrip G trip_ m (r_, m_) hq2) rfl ⟨Nat.le_of_ble_eq_true rfl, Nat.le_of_ble_eq_true rfl⟩ ⟨Nat.le_of_ble_eq_true rfl, Nat.le_of_ble_eq_true rfl⟩ (Nat.le_of_ble_eq_true rfl) noT (kkR ?_)
  refine s_ifne_t (tgt := 16) X dX12_call_5 (by omega) (fun c5 => ?_) (fun c6 => ?_)
  · replace h := ite_pos h c5
    refine s_const X (by unfold InR; omega) dX12_call_16 ?_
    exact s_iret X (Nat.le_of_ble_eq_true rfl) (Nat.le_of_ble_eq_true rfl) (by cases h; exact hO) dX12_call_17
  · replace h := ite_neg h c6
    refine s_load0 X 0 rfl dX12_call_8 ?_
    refine s_iload_n X 2 rfl dX12_call_9 ?_
    obtain ⟨r_2, m_2, hq9, h⟩ := bq2_some h
    refine s_callV (As := [VI stop_]) X cw_X12_147 SHM_0 rfl dX12_call_10 (L_M_isNoStop G stop_ m_ (r_2, m_2) hq9) rfl ⟨Nat.le_of_ble_eq_true rfl, Nat.le_of_ble_eq_true rfl⟩ ⟨Nat.le_of_ble_eq_true rfl, Nat.le_of_ble_eq_true rfl⟩ (Nat.le_of_ble_eq_true rfl) noT (kkR ?_)
    refine s_ifeq_f (tgt := 18) X dX12_call_13 (by omega) (fun c12 => ?_) (fun c13 => ?_)
    · replace h := ite_neg h c12
      obtain ⟨g14, h⟩ := grd_some h
      refine s_bipush X (by omega) dX12_call_18 ?_
      refine s_iload_n X 1 rfl dX12_call_20 ?_
      refine s_imul X g14.1 dX12_call_21 ?_
      refine s_load0 X 0 rfl dX12_call_22 ?_
      refine s_getR (id := 6) X fk_X12_30 SHM_0 rfl dX12_call_23 ?_
      refine s_iload_n X 1 rfl dX12_call_26 ?_
      refine s_iald X SHM_6 g14.2.1 g14.2.2.1 dX12_call_27 ?_
      refine s_iadd X g14.2.2.2 dX12_call_28 ?_
      obtain ⟨at_, e15, h⟩ := ltv_elim h
      refine s_istore X e15 rfl (by omega) dX12_call_29 ?_
      obtain ⟨g16, h⟩ := grd_some h
      have kM17 : J SHM G rm_X12_call (.inl O) C 0 0 91 [(5, VI at_), (0, VR 0), (1, VI trip_), (2, VI stop_), (3, VI comes_), (4, VI goes_)] [VI (if ((((M_isIn comes_ 0 2879 = 0) ∨ (M_isIn goes_ 0 2879 = 0)) ∨ (comes_ ≤ m_2 9 (at_ - 1).toNat)) ∨ (goes_ < comes_)) ∨ (stop_ = m_2 7 (at_ - 1).toNat) then 1 else 0)] m_2 := by
        obtain ⟨isWrong_, e32, h⟩ := ltv_elim h
        refine s_istore X e32 rfl (by omega) dX12_call_91 ?_
        refine s_load0 X 2 rfl dX12_call_93 ?_
        refine s_iload X 0 rfl dX12_call_94 ?_
        refine s_const X (by unfold InR; omega) dX12_call_96 ?_
        obtain ⟨r_3, m_3, hq34, h⟩ := bq2_some h
        refine s_callV (As := [VI isWrong_, VI 2]) X cw_X12_130 SHM_0 rfl dX12_call_97 (L_M_isThrown G isWrong_ 2 m_2 (r_3, m_3) hq34) rfl ⟨Nat.le_of_ble_eq_true rfl, Nat.le_of_ble_eq_true rfl⟩ ⟨Nat.le_of_ble_eq_true rfl, Nat.le_of_ble_eq_true rfl⟩ (Nat.le_of_ble_eq_true rfl) noT (kkR ?_)
        refine s_ifne_t (tgt := 127) X dX12_call_100 (by omega) (fun c37 => ?_) (fun c38 => ?_)
        · replace h := ite_pos h c37
          refine s_const X (by unfold InR; omega) dX12_call_127 ?_
          exact s_iret X (Nat.le_of_ble_eq_true rfl) (Nat.le_of_ble_eq_true rfl) (by cases h; exact hO) dX12_call_128
        · replace h := ite_neg h c38
          refine s_load0 X 2 rfl dX12_call_103 ?_
          have kM41 : J SHM G rm_X12_call (.inl O) C 0 0 120 [(6, VI isWrong_), (5, VI at_), (0, VR 0), (1, VI trip_), (2, VI stop_), (3, VI comes_), (4, VI goes_)] [VI (if m_3 6 trip_.toNat = 8 then 1 else 0), VR 0] m_3 := by
            refine s_const X (by unfold InR; omega) dX12_call_120 ?_
            obtain ⟨r_4, m_4, hq44, h⟩ := bq2_some h
            refine s_callV (As := [VI (if m_3 6 trip_.toNat = 8 then 1 else 0), VI 3]) X cw_X12_130 SHM_0 rfl dX12_call_121 (L_M_isThrown G (if m_3 6 trip_.toNat = 8 then 1 else 0) 3 m_3 (r_4, m_4) hq44) rfl ⟨Nat.le_of_ble_eq_true rfl, Nat.le_of_ble_eq_true rfl⟩ ⟨Nat.le_of_ble_eq_true rfl, Nat.le_of_ble_eq_true rfl⟩ (Nat.le_of_ble_eq_true rfl) noT (kkR ?_)
            refine s_ifeq_f (tgt := 129) X dX12_call_124 (by omega) (fun c47 => ?_) (fun c48 => ?_)
            · replace h := ite_neg h c47
              obtain ⟨g49, h⟩ := grd_some h
              refine s_load0 X 2 rfl dX12_call_129 ?_
              refine s_getR (id := 7) X fk_X12_33 SHM_0 rfl dX12_call_130 ?_
              refine s_iload X 1 rfl dX12_call_133 ?_
              refine s_iload_n X 4 rfl dX12_call_135 ?_
              obtain ⟨m_5, e50, h⟩ := ltv_elim h
              refine s_iast X e50 SHM_7 g49.1 g49.2 dX12_call_136 ?_
              refine s_load0 X 2 rfl dX12_call_137 ?_
              refine s_getR (id := 8) X fk_X12_36 SHM_0 rfl dX12_call_138 ?_
              refine s_iload X 1 rfl dX12_call_141 ?_
              refine s_iload_n X 5 rfl dX12_call_143 ?_
              obtain ⟨m_6, e52, h⟩ := ltv_elim h
              refine s_iast X e52 SHM_8 g49.1 g49.2 dX12_call_144 ?_
              refine s_load0 X 2 rfl dX12_call_145 ?_
              refine s_getR (id := 9) X fk_X12_39 SHM_0 rfl dX12_call_146 ?_
              refine s_iload X 1 rfl dX12_call_149 ?_
              refine s_iload X 6 rfl dX12_call_151 ?_
              obtain ⟨m_7, e54, h⟩ := ltv_elim h
              refine s_iast X e54 SHM_9 g49.1 g49.2 dX12_call_153 ?_
              obtain ⟨g55, h⟩ := grd_some h
              refine s_load0 X 2 rfl dX12_call_154 ?_
              refine s_getR (id := 6) X fk_X12_30 SHM_0 rfl dX12_call_155 ?_
              refine s_iload_n X 3 rfl dX12_call_158 ?_
              refine s_dup2 X rfl rfl dX12_call_159 ?_
              refine s_iald X SHM_6 g14.2.1 g14.2.2.1 dX12_call_160 ?_
              refine s_const X (by unfold InR; omega) dX12_call_161 ?_
              refine s_iadd X g55 dX12_call_162 ?_
              obtain ⟨m_8, e56, h⟩ := ltv_elim h
              refine s_iast X e56 SHM_6 g14.2.1 g14.2.2.1 dX12_call_163 ?_
              refine s_load0 X 2 rfl dX12_call_164 ?_
              refine s_getR (id := 6) X fk_X12_30 SHM_0 rfl dX12_call_165 ?_
              refine s_iload_n X 3 rfl dX12_call_168 ?_
              refine s_iald X SHM_6 g14.2.1 g14.2.2.1 dX12_call_169 ?_
              exact s_iret X (Nat.le_of_ble_eq_true rfl) (Nat.le_of_ble_eq_true rfl) (by cases h; exact hO) dX12_call_170
            · replace h := ite_pos h c48
              refine s_const X (by unfold InR; omega) dX12_call_127 ?_
              exact s_iret X (Nat.le_of_ble_eq_true rfl) (Nat.le_of_ble_eq_true rfl) (by cases h; exact hO) dX12_call_128
          refine s_load0 X 2 rfl dX12_call_104 ?_
          refine s_getR (id := 6) X fk_X12_30 SHM_0 rfl dX12_call_105 ?_
          refine s_iload_n X 3 rfl dX12_call_108 ?_
          refine s_iald X SHM_6 g14.2.1 g14.2.2.1 dX12_call_109 ?_
          refine s_bipush X (by omega) dX12_call_110 ?_
          refine s_icmpne_f (tgt := 119) X dX12_call_112 (by omega) (fun c42 => ?_) (fun c43 => ?_)
          · refine s_const X (by unfold InR; omega) dX12_call_119 ?_
            exact s_eqt (if_neg c42) kM41
          · refine s_const X (by unfold InR; omega) dX12_call_115 ?_
            refine s_goto (tgt := 120) X dX12_call_116 (by omega) ?_
            exact s_eqt (if_pos c43) kM41
      refine s_iload_n X 4 rfl dX12_call_31 ?_
      refine s_const X (by unfold InR; omega) dX12_call_32 ?_
      refine s_sipush X (by omega) dX12_call_33 ?_
      refine s_callS (As := [VI comes_, VI 0, VI 2879]) X cw_X12_126 dX12_call_36 (L_M_isIn G comes_ 0 2879 m_2) rfl ⟨Nat.le_of_ble_eq_true rfl, Nat.le_of_ble_eq_true rfl⟩ ⟨Nat.le_of_ble_eq_true rfl, Nat.le_of_ble_eq_true rfl⟩ (Nat.le_of_ble_eq_true rfl) noT (kkR ?_)
      refine s_ifeq_t (tgt := 86) X dX12_call_39 (by omega) (fun c18 => ?_) (fun c19 => ?_)
      · refine s_const X (by unfold InR; omega) dX12_call_86 ?_
        refine s_goto (tgt := 91) X dX12_call_87 (by omega) ?_
        exact s_eqt (if_pos (Or.inl (Or.inl (Or.inl (Or.inl c18))))) kM17
      · have a20 : ¬ (M_isIn comes_ 0 2879 = 0) := c19
        refine s_iload X 5 rfl dX12_call_42 ?_
        refine s_const X (by unfold InR; omega) dX12_call_44 ?_
        refine s_sipush X (by omega) dX12_call_45 ?_
        refine s_callS (As := [VI goes_, VI 0, VI 2879]) X cw_X12_126 dX12_call_48 (L_M_isIn G goes_ 0 2879 m_2) rfl ⟨Nat.le_of_ble_eq_true rfl, Nat.le_of_ble_eq_true rfl⟩ ⟨Nat.le_of_ble_eq_true rfl, Nat.le_of_ble_eq_true rfl⟩ (Nat.le_of_ble_eq_true rfl) noT (kkR ?_)
        refine s_ifeq_t (tgt := 86) X dX12_call_51 (by omega) (fun c21 => ?_) (fun c22 => ?_)
        · refine s_const X (by unfold InR; omega) dX12_call_86 ?_
          refine s_goto (tgt := 91) X dX12_call_87 (by omega) ?_
          exact s_eqt (if_pos (Or.inl (Or.inl (Or.inl (Or.inr c21))))) kM17
        · have a23 : ¬ ((M_isIn comes_ 0 2879 = 0) ∨ (M_isIn goes_ 0 2879 = 0)) := (fun q => q.elim a20 c22)
          refine s_iload_n X 4 rfl dX12_call_54 ?_
          refine s_load0 X 1 rfl dX12_call_55 ?_
          refine s_getR (id := 9) X fk_X12_39 SHM_0 rfl dX12_call_56 ?_
          refine s_iload X 0 rfl dX12_call_59 ?_
          refine s_const X (by unfold InR; omega) dX12_call_61 ?_
          refine s_isub X (g16.1 a23) dX12_call_62 ?_
          refine s_iald X SHM_9 (g16.2.1 a23) (g16.2.2.1 a23) dX12_call_63 ?_
          refine s_icmple_t (tgt := 86) X dX12_call_64 (by omega) (fun c24 => ?_) (fun c25 => ?_)
          · refine s_const X (by unfold InR; omega) dX12_call_86 ?_
            refine s_goto (tgt := 91) X dX12_call_87 (by omega) ?_
            exact s_eqt (if_pos (Or.inl (Or.inl (Or.inr c24)))) kM17
          · have a26 : ¬ (((M_isIn comes_ 0 2879 = 0) ∨ (M_isIn goes_ 0 2879 = 0)) ∨ (comes_ ≤ m_2 9 (at_ - 1).toNat)) := (fun q => q.elim a23 c25)
            refine s_iload X 5 rfl dX12_call_67 ?_
            refine s_iload_n X 4 rfl dX12_call_69 ?_
            refine s_icmplt_t (tgt := 86) X dX12_call_70 (by omega) (fun c27 => ?_) (fun c28 => ?_)
            · refine s_const X (by unfold InR; omega) dX12_call_86 ?_
              refine s_goto (tgt := 91) X dX12_call_87 (by omega) ?_
              exact s_eqt (if_pos (Or.inl (Or.inr c27))) kM17
            · have a29 : ¬ ((((M_isIn comes_ 0 2879 = 0) ∨ (M_isIn goes_ 0 2879 = 0)) ∨ (comes_ ≤ m_2 9 (at_ - 1).toNat)) ∨ (goes_ < comes_)) := (fun q => q.elim a26 c28)
              refine s_iload_n X 3 rfl dX12_call_73 ?_
              refine s_load0 X 1 rfl dX12_call_74 ?_
              refine s_getR (id := 7) X fk_X12_33 SHM_0 rfl dX12_call_75 ?_
              refine s_iload X 0 rfl dX12_call_78 ?_
              refine s_const X (by unfold InR; omega) dX12_call_80 ?_
              refine s_isub X (g16.2.2.2.1 a29) dX12_call_81 ?_
              refine s_iald X SHM_7 (g16.2.2.2.2.1 a29) (g16.2.2.2.2.2 a29) dX12_call_82 ?_
              refine s_icmpne_f (tgt := 90) X dX12_call_83 (by omega) (fun c30 => ?_) (fun c31 => ?_)
              · refine s_const X (by unfold InR; omega) dX12_call_90 ?_
                exact s_eqt (if_neg (fun q => q.elim a29 c30)) kM17
              · refine s_const X (by unfold InR; omega) dX12_call_86 ?_
                refine s_goto (tgt := 91) X dX12_call_87 (by omega) ?_
                exact s_eqt (if_pos (Or.inr c31)) kM17
    · replace h := ite_pos h c13
      refine s_const X (by unfold InR; omega) dX12_call_16 ?_
      exact s_iret X (Nat.le_of_ble_eq_true rfl) (Nat.le_of_ble_eq_true rfl) (by cases h; exact hO) dX12_call_17
set_option maxRecDepth 20000 in
set_option maxHeartbeats 4000000 in
theorem L_M_trips (G : Gl)  (m : Mem) (r : (Int × Mem))  (h : M_trips  m = some r) : Con SHM G yX12_trips cX12_trips 1 (some .int) rm_X12_trips [VR 0] m (((.inl (some (VI r.1)), r.2) : Res × Mem)) := by
  refine con_of (own := "LastbusModel") (by decide) rfl (Nat.le_of_ble_eq_true rfl) (fun C X => ?_)
  obtain ⟨O, hO⟩ : ∃ O : Res × Mem, O = (((.inl (some (VI r.1)), r.2) : Res × Mem)) := ⟨_, rfl⟩
  rw [← hO]
  show J SHM G rm_X12_trips (.inl O) C 0 0 0 [(0, VR 0)] [] m
  unfold M_trips at h
  refine s_load0 X 0 rfl dX12_trips_0 ?_
  refine s_const X (by unfold InR; omega) dX12_trips_1 ?_
  obtain ⟨m_, e2, h⟩ := ltv_elim h
  refine s_putI X e2 fp_X12_120 SHM_0 rfl trivial dX12_trips_2 ?_
  refine s_load0 X 0 rfl dX12_trips_5 ?_
  refine s_getI X fk_X12_137 SHM_0 rfl dX12_trips_6 ?_
  exact s_iret X (Nat.le_of_ble_eq_true rfl) (Nat.le_of_ble_eq_true rfl) (by cases h; exact hO) dX12_trips_9
set_option maxRecDepth 20000 in
set_option maxHeartbeats 4000000 in
theorem L_M_calls (G : Gl) (trip_ : Int) (m : Mem) (r : (Int × Mem))  (h : M_calls trip_ m = some r) : Con SHM G yX12_calls cX12_calls 2 (some .int) rm_X12_calls [VR 0, VI trip_] m (((.inl (some (VI r.1)), r.2) : Res × Mem)) := by
  refine con_of (own := "LastbusModel") (by decide) rfl (Nat.le_of_ble_eq_true rfl) (fun C X => ?_)
  obtain ⟨O, hO⟩ : ∃ O : Res × Mem, O = (((.inl (some (VI r.1)), r.2) : Res × Mem)) := ⟨_, rfl⟩
  rw [← hO]
  show J SHM G rm_X12_calls (.inl O) C 0 0 0 [(0, VR 0), (1, VI trip_)] [] m
  unfold M_calls at h
  refine s_load0 X 0 rfl dX12_calls_0 ?_
  refine s_iload_n X 1 rfl dX12_calls_1 ?_
  obtain ⟨r_, m_, hq2, h⟩ := bq2_some h
  refine s_callV (As := [VI trip_]) X cw_X12_140 SHM_0 rfl dX12_calls_2 (L_M_isNoTrip G trip_ m (r_, m_) hq2) rfl ⟨Nat.le_of_ble_eq_true rfl, Nat.le_of_ble_eq_true rfl⟩ ⟨Nat.le_of_ble_eq_true rfl, Nat.le_of_ble_eq_true rfl⟩ (Nat.le_of_ble_eq_true rfl) noT (kkR ?_)
  refine s_ifeq_f (tgt := 12) X dX12_calls_5 (by omega) (fun c5 => ?_) (fun c6 => ?_)
  · replace h := ite_neg h c5
    obtain ⟨g7, h⟩ := grd_some h
    refine s_load0 X 0 rfl dX12_calls_12 ?_
    refine s_getR (id := 6) X fk_X12_30 SHM_0 rfl dX12_calls_13 ?_
    refine s_iload_n X 1 rfl dX12_calls_16 ?_
    refine s_iald X SHM_6 g7.1 g7.2 dX12_calls_17 ?_
    exact s_iret X (Nat.le_of_ble_eq_true rfl) (Nat.le_of_ble_eq_true rfl) (by cases h; exact hO) dX12_calls_18
  · replace h := ite_pos h c6
    refine s_const X (by unfold InR; omega) dX12_calls_8 ?_
    refine s_goto (tgt := 18) X dX12_calls_9 (by omega) ?_
    exact s_iret X (Nat.le_of_ble_eq_true rfl) (Nat.le_of_ble_eq_true rfl) (by cases h; exact hO) dX12_calls_18
set_option maxRecDepth 20000 in
set_option maxHeartbeats 4000000 in
theorem L_M_stopAt (G : Gl) (trip_ : Int) (call_ : Int) (m : Mem) (r : (Int × Mem))  (h : M_stopAt trip_ call_ m = some r) : Con SHM G yX12_stopAt cX12_stopAt 3 (some .int) rm_X12_stopAt [VR 0, VI trip_, VI call_] m (((.inl (some (VI r.1)), r.2) : Res × Mem)) := by
  refine con_of (own := "LastbusModel") (by decide) rfl (Nat.le_of_ble_eq_true rfl) (fun C X => ?_)
  obtain ⟨O, hO⟩ : ∃ O : Res × Mem, O = (((.inl (some (VI r.1)), r.2) : Res × Mem)) := ⟨_, rfl⟩
  rw [← hO]
  show J SHM G rm_X12_stopAt (.inl O) C 0 0 0 [(0, VR 0), (1, VI trip_), (2, VI call_)] [] m
  unfold M_stopAt at h
  refine s_load0 X 0 rfl dX12_stopAt_0 ?_
  refine s_iload_n X 1 rfl dX12_stopAt_1 ?_
  refine s_iload_n X 2 rfl dX12_stopAt_2 ?_
  obtain ⟨r_, m_, hq2, h⟩ := bq2_some h
  refine s_callV (As := [VI trip_, VI call_]) X cw_X12_162 SHM_0 rfl dX12_stopAt_3 (L_M_isNoCall G trip_ call_ m (r_, m_) hq2) rfl ⟨Nat.le_of_ble_eq_true rfl, Nat.le_of_ble_eq_true rfl⟩ ⟨Nat.le_of_ble_eq_true rfl, Nat.le_of_ble_eq_true rfl⟩ (Nat.le_of_ble_eq_true rfl) noT (kkR ?_)
  refine s_ifeq_f (tgt := 13) X dX12_stopAt_6 (by omega) (fun c5 => ?_) (fun c6 => ?_)
  · replace h := ite_neg h c5
    obtain ⟨g7, h⟩ := grd_some h
    refine s_load0 X 0 rfl dX12_stopAt_13 ?_
    refine s_getR (id := 7) X fk_X12_33 SHM_0 rfl dX12_stopAt_14 ?_
    refine s_bipush X (by omega) dX12_stopAt_17 ?_
    refine s_iload_n X 1 rfl dX12_stopAt_19 ?_
    refine s_imul X g7.1 dX12_stopAt_20 ?_
    refine s_iload_n X 2 rfl dX12_stopAt_21 ?_
    refine s_iadd X g7.2.1 dX12_stopAt_22 ?_
    refine s_iald X SHM_7 g7.2.2.1 g7.2.2.2 dX12_stopAt_23 ?_
    exact s_iret X (Nat.le_of_ble_eq_true rfl) (Nat.le_of_ble_eq_true rfl) (by cases h; exact hO) dX12_stopAt_24
  · replace h := ite_pos h c6
    refine s_const X (by unfold InR; omega) dX12_stopAt_9 ?_
    refine s_goto (tgt := 24) X dX12_stopAt_10 (by omega) ?_
    exact s_iret X (Nat.le_of_ble_eq_true rfl) (Nat.le_of_ble_eq_true rfl) (by cases h; exact hO) dX12_stopAt_24
