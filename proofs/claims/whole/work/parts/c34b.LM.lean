/-! ===== printed by a program out of the Java source and the decode rows: 34b.LM ===== -/
set_option maxRecDepth 20000 in
set_option maxHeartbeats 4000000 in
theorem L_M_timeAt (G : Gl) (trip_ : Int) (call_ : Int) (isArrival_ : Int) (m : Mem) (r : (Int × Mem))  (h : M_timeAt trip_ call_ isArrival_ m = some r) : Con SHM G yX12_timeAt cX12_timeAt 4 (some .int) rm_X12_timeAt [VR 0, VI trip_, VI call_, VI isArrival_] m (((.inl (some (VI r.1)), r.2) : Res × Mem)) := by
  refine con_of (own := "LastbusModel") (by decide) rfl (Nat.le_of_ble_eq_true rfl) (fun C X => ?_)
  obtain ⟨O, hO⟩ : ∃ O : Res × Mem, O = (((.inl (some (VI r.1)), r.2) : Res × Mem)) := ⟨_, rfl⟩
  rw [← hO]
  show J SHM G rm_X12_timeAt (.inl O) C 0 0 0 [(0, VR 0), (1, VI trip_), (2, VI call_), (3, VI isArrival_)] [] m
  unfold M_timeAt at h
  refine s_load0 X 0 rfl dX12_timeAt_0 ?_
  refine s_iload_n X 1 rfl dX12_timeAt_1 ?_
  refine s_iload_n X 2 rfl dX12_timeAt_2 ?_
  obtain ⟨r_, m_, hq2, h⟩ := bq2_some h
  refine s_callV (As := [VI trip_, VI call_]) X cw_X12_162 SHM_0 rfl dX12_timeAt_3 (L_M_isNoCall G trip_ call_ m (r_, m_) hq2) rfl ⟨Nat.le_of_ble_eq_true rfl, Nat.le_of_ble_eq_true rfl⟩ ⟨Nat.le_of_ble_eq_true rfl, Nat.le_of_ble_eq_true rfl⟩ (Nat.le_of_ble_eq_true rfl) noT (kkR ?_)
  refine s_ifeq_f (tgt := 13) X dX12_timeAt_6 (by omega) (fun c5 => ?_) (fun c6 => ?_)
  · replace h := ite_neg h c5
    obtain ⟨g7, h⟩ := grd_some h
    have kM8 : J SHM G rm_X12_timeAt (.inl O) C 0 0 42 [(0, VR 0), (1, VI trip_), (2, VI call_), (3, VI isArrival_)] [VI (if ¬ isArrival_ = 0 then m_ 8 (8 * trip_ + call_).toNat else m_ 9 (8 * trip_ + call_).toNat)] m_ := by
      exact s_iret X (Nat.le_of_ble_eq_true rfl) (Nat.le_of_ble_eq_true rfl) (by cases h; exact hO) dX12_timeAt_42
    refine s_iload_n X 3 rfl dX12_timeAt_13 ?_
    refine s_ifeq_f (tgt := 31) X dX12_timeAt_14 (by omega) (fun c9 => ?_) (fun c10 => ?_)
    · refine s_load0 X 0 rfl dX12_timeAt_31 ?_
      refine s_getR (id := 9) X fk_X12_39 SHM_0 rfl dX12_timeAt_32 ?_
      refine s_bipush X (by omega) dX12_timeAt_35 ?_
      refine s_iload_n X 1 rfl dX12_timeAt_37 ?_
      refine s_imul X (g7.1 c9) dX12_timeAt_38 ?_
      refine s_iload_n X 2 rfl dX12_timeAt_39 ?_
      refine s_iadd X (g7.2.1 c9) dX12_timeAt_40 ?_
      refine s_iald X SHM_9 (g7.2.2.1 c9) (g7.2.2.2.1 c9) dX12_timeAt_41 ?_
      exact s_eqt (if_neg c9) kM8
    · refine s_load0 X 0 rfl dX12_timeAt_17 ?_
      refine s_getR (id := 8) X fk_X12_36 SHM_0 rfl dX12_timeAt_18 ?_
      refine s_bipush X (by omega) dX12_timeAt_21 ?_
      refine s_iload_n X 1 rfl dX12_timeAt_23 ?_
      refine s_imul X (g7.2.2.2.2.1 c10) dX12_timeAt_24 ?_
      refine s_iload_n X 2 rfl dX12_timeAt_25 ?_
      refine s_iadd X (g7.2.2.2.2.2.1 c10) dX12_timeAt_26 ?_
      refine s_iald X SHM_8 (g7.2.2.2.2.2.2.1 c10) (g7.2.2.2.2.2.2.2 c10) dX12_timeAt_27 ?_
      refine s_goto (tgt := 42) X dX12_timeAt_28 (by omega) ?_
      exact s_eqt (if_pos c10) kM8
  · replace h := ite_pos h c6
    refine s_const X (by unfold InR; omega) dX12_timeAt_9 ?_
    refine s_goto (tgt := 42) X dX12_timeAt_10 (by omega) ?_
    exact s_iret X (Nat.le_of_ble_eq_true rfl) (Nat.le_of_ble_eq_true rfl) (by cases h; exact hO) dX12_timeAt_42
set_option maxRecDepth 20000 in
set_option maxHeartbeats 4000000 in
theorem L_M_isShiftWrong (G : Gl) (trip_ : Int) (minutes_ : Int) (m : Mem) (r : Int)  (h : M_isShiftWrong trip_ minutes_ m = some r) : Con SHM G yX12_isShiftWrong cX12_isShiftWrong 5 (some .boolean) rm_X12_isShiftWrong [VR 0, VI trip_, VI minutes_] m (((.inl (some (VI r)), m) : Res × Mem)) := by
  refine con_of (own := "LastbusModel") (by decide) rfl (Nat.le_of_ble_eq_true rfl) (fun C X => ?_)
  obtain ⟨O, hO⟩ : ∃ O : Res × Mem, O = (((.inl (some (VI r)), m) : Res × Mem)) := ⟨_, rfl⟩
  rw [← hO]
  show J SHM G rm_X12_isShiftWrong (.inl O) C 0 0 0 [(0, VR 0), (1, VI trip_), (2, VI minutes_)] [] m
  unfold M_isShiftWrong at h
  have kM2 : J SHM G rm_X12_isShiftWrong (.inl O) C 0 0 16 [(0, VR 0), (1, VI trip_), (2, VI minutes_)] [VI (if M_isIn minutes_ (-60) 60 = 0 then 1 else 0)] m := by
    obtain ⟨is_, e5, h⟩ := ltv_elim h
    refine s_istore_n X e5 rfl (by omega) dX12_isShiftWrong_16 ?_
    refine s_const X (by unfold InR; omega) dX12_isShiftWrong_17 ?_
    obtain ⟨c_, e7, h⟩ := ltv_elim h
    refine s_istore X e7 rfl (by omega) dX12_isShiftWrong_18 ?_
    obtain ⟨is_4, c_4, hl17, h⟩ := bq2_some h
    obtain ⟨fu80, hl18⟩ := loop_iter hl17
    have KX14 : ∀ q9 : Int × Int, q9 = (is_4, c_4) → J SHM G rm_X12_isShiftWrong (.inl O) C 0 0 93 [(4, VI q9.2), (3, VI q9.1), (0, VR 0), (1, VI trip_), (2, VI minutes_)] [] m := by
      intro q9 e9
      subst e9
      show J SHM G rm_X12_isShiftWrong (.inl O) C 0 0 93 [(4, VI c_4), (3, VI is_4), (0, VR 0), (1, VI trip_), (2, VI minutes_)] [] m
      obtain ⟨g34, h⟩ := grd_some h
      refine s_iload_n X 1 rfl dX12_isShiftWrong_93 ?_
      exact s_zret X g34 (Nat.le_of_ble_eq_true rfl) (Nat.le_of_ble_eq_true rfl) (by cases h; exact hO) dX12_isShiftWrong_94
    have LP13 : ∀ (fu8 : Nat) (is_2 : Int) (c_2 : Int), iter (fun s => M_isShiftWrong_b1 trip_ minutes_ m s.1 s.2) fu8 (is_2, c_2) = some (is_4, c_4) → J SHM G rm_X12_isShiftWrong (.inl O) C 0 0 20 [(4, VI c_2), (3, VI is_2), (0, VR 0), (1, VI trip_), (2, VI minutes_)] [] m := by
      intro fu8
      induction fu8 with
      | zero => intro is_2 c_2 hn9; exact absurd hn9 (by simp [iter])
      | succ fu8 ih12 =>
        intro is_2 c_2 hn9
        obtain ⟨x10, h, hc11⟩ := iter_succ hn9
        replace h : M_isShiftWrong_b1 trip_ minutes_ m is_2 c_2 = some x10 := h
        unfold M_isShiftWrong_b1 at h
        obtain ⟨g19, h⟩ := grd_some h
        refine s_iload X 0 rfl dX12_isShiftWrong_20 ?_
        refine s_load0 X 2 rfl dX12_isShiftWrong_22 ?_
        refine s_getR (id := 6) X fk_X12_30 SHM_0 rfl dX12_isShiftWrong_23 ?_
        refine s_iload_n X 3 rfl dX12_isShiftWrong_26 ?_
        refine s_iald X SHM_6 g19.1 g19.2 dX12_isShiftWrong_27 ?_
        refine s_icmpge_f (tgt := 93) X dX12_isShiftWrong_28 (by omega) (fun c22 => ?_) (fun c23 => ?_)
        · replace h := ite_neg h c22
          exact KX14 _ (iter_exit h hc11)
        · replace h := ite_pos h c23
          obtain ⟨g24, h⟩ := grd_some h
          refine s_iload_n X 1 rfl dX12_isShiftWrong_31 ?_
          have kM25 : J SHM G rm_X12_isShiftWrong (.inl O) C 0 0 85 [(4, VI c_2), (3, VI is_2), (0, VR 0), (1, VI trip_), (2, VI minutes_)] [VI (if (M_isIn (m 8 (8 * trip_ + c_2).toNat + minutes_) 0 2879 = 0) ∨ (M_isIn (m 9 (8 * trip_ + c_2).toNat + minutes_) 0 2879 = 0) then 1 else 0), VI is_2] m := by
            refine s_ior X dX12_isShiftWrong_85 ?_
            obtain ⟨is_3, e31, h⟩ := ltv_elim h
            refine s_istore_n X e31 rfl (by omega) dX12_isShiftWrong_86 ?_
            obtain ⟨g32, h⟩ := grd_some h
            obtain ⟨c_3, e33, h⟩ := ltv_elim h
            refine s_iinc X 1 rfl g32 e33 rfl (by omega) dX12_isShiftWrong_87 ?_
            refine s_goto (tgt := 20) X dX12_isShiftWrong_90 (by omega) ?_
            exact ih12 _ _ (iter_next h hc11)
          refine s_load0 X 2 rfl dX12_isShiftWrong_32 ?_
          refine s_getR (id := 8) X fk_X12_36 SHM_0 rfl dX12_isShiftWrong_33 ?_
          refine s_bipush X (by omega) dX12_isShiftWrong_36 ?_
          refine s_iload_n X 3 rfl dX12_isShiftWrong_38 ?_
          refine s_imul X g24.1 dX12_isShiftWrong_39 ?_
          refine s_iload X 0 rfl dX12_isShiftWrong_40 ?_
          refine s_iadd X g24.2.1 dX12_isShiftWrong_42 ?_
          refine s_iald X SHM_8 g24.2.2.1 g24.2.2.2.1 dX12_isShiftWrong_43 ?_
          refine s_iload_n X 4 rfl dX12_isShiftWrong_44 ?_
          refine s_iadd X g24.2.2.2.2.1 dX12_isShiftWrong_45 ?_
          refine s_const X (by unfold InR; omega) dX12_isShiftWrong_46 ?_
          refine s_sipush X (by omega) dX12_isShiftWrong_47 ?_
          refine s_callS (As := [VI (m 8 (8 * trip_ + c_2).toNat + minutes_), VI 0, VI 2879]) X cw_X12_126 dX12_isShiftWrong_50 (L_M_isIn G (m 8 (8 * trip_ + c_2).toNat + minutes_) 0 2879 m) rfl ⟨Nat.le_of_ble_eq_true rfl, Nat.le_of_ble_eq_true rfl⟩ ⟨Nat.le_of_ble_eq_true rfl, Nat.le_of_ble_eq_true rfl⟩ (Nat.le_of_ble_eq_true rfl) noT (kkR ?_)
          refine s_ifeq_t (tgt := 80) X dX12_isShiftWrong_53 (by omega) (fun c26 => ?_) (fun c27 => ?_)
          · refine s_const X (by unfold InR; omega) dX12_isShiftWrong_80 ?_
            refine s_goto (tgt := 85) X dX12_isShiftWrong_81 (by omega) ?_
            exact s_eqt (if_pos (Or.inl c26)) kM25
          · have a28 : ¬ (M_isIn (m 8 (8 * trip_ + c_2).toNat + minutes_) 0 2879 = 0) := c27
            refine s_load0 X 2 rfl dX12_isShiftWrong_56 ?_
            refine s_getR (id := 9) X fk_X12_39 SHM_0 rfl dX12_isShiftWrong_57 ?_
            refine s_bipush X (by omega) dX12_isShiftWrong_60 ?_
            refine s_iload_n X 3 rfl dX12_isShiftWrong_62 ?_
            refine s_imul X g24.1 dX12_isShiftWrong_63 ?_
            refine s_iload X 0 rfl dX12_isShiftWrong_64 ?_
            refine s_iadd X g24.2.1 dX12_isShiftWrong_66 ?_
            refine s_iald X SHM_9 g24.2.2.1 g24.2.2.2.1 dX12_isShiftWrong_67 ?_
            refine s_iload_n X 4 rfl dX12_isShiftWrong_68 ?_
            refine s_iadd X (g24.2.2.2.2.2 a28) dX12_isShiftWrong_69 ?_
            refine s_const X (by unfold InR; omega) dX12_isShiftWrong_70 ?_
            refine s_sipush X (by omega) dX12_isShiftWrong_71 ?_
            refine s_callS (As := [VI (m 9 (8 * trip_ + c_2).toNat + minutes_), VI 0, VI 2879]) X cw_X12_126 dX12_isShiftWrong_74 (L_M_isIn G (m 9 (8 * trip_ + c_2).toNat + minutes_) 0 2879 m) rfl ⟨Nat.le_of_ble_eq_true rfl, Nat.le_of_ble_eq_true rfl⟩ ⟨Nat.le_of_ble_eq_true rfl, Nat.le_of_ble_eq_true rfl⟩ (Nat.le_of_ble_eq_true rfl) noT (kkR ?_)
            refine s_ifne_f (tgt := 84) X dX12_isShiftWrong_77 (by omega) (fun c29 => ?_) (fun c30 => ?_)
            · refine s_const X (by unfold InR; omega) dX12_isShiftWrong_84 ?_
              exact s_eqt (if_neg (fun q => q.elim a28 c29)) kM25
            · refine s_const X (by unfold InR; omega) dX12_isShiftWrong_80 ?_
              refine s_goto (tgt := 85) X dX12_isShiftWrong_81 (by omega) ?_
              exact s_eqt (if_pos (Or.inr c30)) kM25
    exact LP13 _ _ _ hl18
  refine s_iload_n X 2 rfl dX12_isShiftWrong_0 ?_
  refine s_bipush X (by omega) dX12_isShiftWrong_1 ?_
  refine s_bipush X (by omega) dX12_isShiftWrong_3 ?_
  refine s_callS (As := [VI minutes_, VI (-60), VI 60]) X cw_X12_126 dX12_isShiftWrong_5 (L_M_isIn G minutes_ (-60) 60 m) rfl ⟨Nat.le_of_ble_eq_true rfl, Nat.le_of_ble_eq_true rfl⟩ ⟨Nat.le_of_ble_eq_true rfl, Nat.le_of_ble_eq_true rfl⟩ (Nat.le_of_ble_eq_true rfl) noT (kkR ?_)
  refine s_ifne_f (tgt := 15) X dX12_isShiftWrong_8 (by omega) (fun c3 => ?_) (fun c4 => ?_)
  · refine s_const X (by unfold InR; omega) dX12_isShiftWrong_15 ?_
    exact s_eqt (if_neg c3) kM2
  · refine s_const X (by unfold InR; omega) dX12_isShiftWrong_11 ?_
    refine s_goto (tgt := 16) X dX12_isShiftWrong_12 (by omega) ?_
    exact s_eqt (if_pos c4) kM2
set_option maxRecDepth 20000 in
set_option maxHeartbeats 4000000 in
theorem L_M_move (G : Gl) (trip_ : Int) (minutes_ : Int) (m : Mem) (r : Mem)  (h : M_move trip_ minutes_ m = some r) : Con SHM G yX12_move cX12_move 4 none rm_X12_move [VR 0, VI trip_, VI minutes_] m (((.inl none, r) : Res × Mem)) := by
  refine con_of (own := "LastbusModel") (by decide) rfl (Nat.le_of_ble_eq_true rfl) (fun C X => ?_)
  obtain ⟨O, hO⟩ : ∃ O : Res × Mem, O = (((.inl none, r) : Res × Mem)) := ⟨_, rfl⟩
  rw [← hO]
  show J SHM G rm_X12_move (.inl O) C 0 0 0 [(0, VR 0), (1, VI trip_), (2, VI minutes_)] [] m
  unfold M_move at h
  refine s_const X (by unfold InR; omega) dX12_move_0 ?_
  obtain ⟨c_, e2, h⟩ := ltv_elim h
  refine s_istore_n X e2 rfl (by omega) dX12_move_1 ?_
  obtain ⟨c_4, m_4, hl12, h⟩ := bq2_some h
  obtain ⟨fu30, hl13⟩ := loop_iter hl12
  have KX9 : ∀ q9 : Int × Mem, q9 = (c_4, m_4) → J SHM G rm_X12_move (.inl O) C 0 0 48 [(3, VI q9.1), (0, VR 0), (1, VI trip_), (2, VI minutes_)] [] (q9.2) := by
    intro q9 e9
    subst e9
    show J SHM G rm_X12_move (.inl O) C 0 0 48 [(3, VI c_4), (0, VR 0), (1, VI trip_), (2, VI minutes_)] [] m_4
    exact s_vret X (Nat.le_of_ble_eq_true rfl) (Nat.le_of_ble_eq_true rfl) (by cases h; exact hO) dX12_move_48
  have LP8 : ∀ (fu3 : Nat) (c_2 : Int) (m_ : Mem), iter (fun s => M_move_b1 trip_ minutes_ s.1 s.2) fu3 (c_2, m_) = some (c_4, m_4) → J SHM G rm_X12_move (.inl O) C 0 0 2 [(3, VI c_2), (0, VR 0), (1, VI trip_), (2, VI minutes_)] [] m_ := by
    intro fu3
    induction fu3 with
    | zero => intro c_2 m_ hn4; exact absurd hn4 (by simp [iter])
    | succ fu3 ih7 =>
      intro c_2 m_ hn4
      obtain ⟨x5, h, hc6⟩ := iter_succ hn4
      replace h : M_move_b1 trip_ minutes_ c_2 m_ = some x5 := h
      unfold M_move_b1 at h
      obtain ⟨g14, h⟩ := grd_some h
      refine s_iload_n X 0 rfl dX12_move_2 ?_
      refine s_load0 X 1 rfl dX12_move_3 ?_
      refine s_getR (id := 6) X fk_X12_30 SHM_0 rfl dX12_move_4 ?_
      refine s_iload_n X 2 rfl dX12_move_7 ?_
      refine s_iald X SHM_6 g14.1 g14.2 dX12_move_8 ?_
      refine s_icmpge_f (tgt := 48) X dX12_move_9 (by omega) (fun c17 => ?_) (fun c18 => ?_)
      · replace h := ite_neg h c17
        exact KX9 _ (iter_exit h hc6)
      · replace h := ite_pos h c18
        obtain ⟨g19, h⟩ := grd_some h
        refine s_load0 X 1 rfl dX12_move_12 ?_
        refine s_getR (id := 8) X fk_X12_36 SHM_0 rfl dX12_move_13 ?_
        refine s_bipush X (by omega) dX12_move_16 ?_
        refine s_iload_n X 2 rfl dX12_move_18 ?_
        refine s_imul X g19.1 dX12_move_19 ?_
        refine s_iload_n X 0 rfl dX12_move_20 ?_
        refine s_iadd X g19.2.1 dX12_move_21 ?_
        refine s_dup2 X rfl rfl dX12_move_22 ?_
        refine s_iald X SHM_8 g19.2.2.1 g19.2.2.2.1 dX12_move_23 ?_
        refine s_iload_n X 3 rfl dX12_move_24 ?_
        refine s_iadd X g19.2.2.2.2 dX12_move_25 ?_
        obtain ⟨m_2, e20, h⟩ := ltv_elim h
        refine s_iast X e20 SHM_8 g19.2.2.1 g19.2.2.2.1 dX12_move_26 ?_
        obtain ⟨g21, h⟩ := grd_some h
        refine s_load0 X 1 rfl dX12_move_27 ?_
        refine s_getR (id := 9) X fk_X12_39 SHM_0 rfl dX12_move_28 ?_
        refine s_bipush X (by omega) dX12_move_31 ?_
        refine s_iload_n X 2 rfl dX12_move_33 ?_
        refine s_imul X g19.1 dX12_move_34 ?_
        refine s_iload_n X 0 rfl dX12_move_35 ?_
        refine s_iadd X g19.2.1 dX12_move_36 ?_
        refine s_dup2 X rfl rfl dX12_move_37 ?_
        refine s_iald X SHM_9 g19.2.2.1 g19.2.2.2.1 dX12_move_38 ?_
        refine s_iload_n X 3 rfl dX12_move_39 ?_
        refine s_iadd X g21 dX12_move_40 ?_
        obtain ⟨m_3, e22, h⟩ := ltv_elim h
        refine s_iast X e22 SHM_9 g19.2.2.1 g19.2.2.2.1 dX12_move_41 ?_
        obtain ⟨g23, h⟩ := grd_some h
        obtain ⟨c_3, e24, h⟩ := ltv_elim h
        refine s_iinc X 0 rfl g23 e24 rfl (by omega) dX12_move_42 ?_
        refine s_goto (tgt := 2) X dX12_move_45 (by omega) ?_
        exact ih7 _ _ (iter_next h hc6)
  exact LP8 _ _ _ hl13
set_option maxRecDepth 20000 in
set_option maxHeartbeats 4000000 in
theorem L_M_shift (G : Gl) (trip_ : Int) (minutes_ : Int) (m : Mem) (r : (Int × Mem))  (h : M_shift trip_ minutes_ m = some r) : Con SHM G yX12_shift cX12_shift 3 (some .int) rm_X12_shift [VR 0, VI trip_, VI minutes_] m (((.inl (some (VI r.1)), r.2) : Res × Mem)) := by
  refine con_of (own := "LastbusModel") (by decide) rfl (Nat.le_of_ble_eq_true rfl) (fun C X => ?_)
  obtain ⟨O, hO⟩ : ∃ O : Res × Mem, O = (((.inl (some (VI r.1)), r.2) : Res × Mem)) := ⟨_, rfl⟩
  rw [← hO]
  show J SHM G rm_X12_shift (.inl O) C 0 0 0 [(0, VR 0), (1, VI trip_), (2, VI minutes_)] [] m
  unfold M_shift at h
  refine s_load0 X 0 rfl dX12_shift_0 ?_
  refine s_iload_n X 1 rfl dX12_shift_1 ?_
  obtain ⟨r_, m_, hq2, h⟩ := bq2_some h
  refine s_callV (As := [VI trip_]) X cw_X12_140 SHM_0 rfl dX12_shift_2 (L_M_isNoTrip G trip_ m (r_, m_) hq2) rfl ⟨Nat.le_of_ble_eq_true rfl, Nat.le_of_ble_eq_true rfl⟩ ⟨Nat.le_of_ble_eq_true rfl, Nat.le_of_ble_eq_true rfl⟩ (Nat.le_of_ble_eq_true rfl) noT (kkR ?_)
  refine s_ifne_t (tgt := 41) X dX12_shift_5 (by omega) (fun c5 => ?_) (fun c6 => ?_)
  · replace h := ite_pos h c5
    refine s_const X (by unfold InR; omega) dX12_shift_41 ?_
    exact s_iret X (Nat.le_of_ble_eq_true rfl) (Nat.le_of_ble_eq_true rfl) (by cases h; exact hO) dX12_shift_42
  · replace h := ite_neg h c6
    refine s_load0 X 0 rfl dX12_shift_8 ?_
    obtain ⟨kj_, hk9, h⟩ := ltv_elim h
    have K10 : ∀ (v_ : Int), kj_ v_ = some r → J SHM G rm_X12_shift (.inl O) C 0 0 34 [(0, VR 0), (1, VI trip_), (2, VI minutes_)] [VI v_, VR 0] m_ := by
      intro v_ h
      subst hk9
      dsimp only at h
      refine s_const X (by unfold InR; omega) dX12_shift_34 ?_
      obtain ⟨r_3, m_2, hq25, h⟩ := bq2_some h
      refine s_callV (As := [VI v_, VI 2]) X cw_X12_130 SHM_0 rfl dX12_shift_35 (L_M_isThrown G v_ 2 m_ (r_3, m_2) hq25) rfl ⟨Nat.le_of_ble_eq_true rfl, Nat.le_of_ble_eq_true rfl⟩ ⟨Nat.le_of_ble_eq_true rfl, Nat.le_of_ble_eq_true rfl⟩ (Nat.le_of_ble_eq_true rfl) noT (kkR ?_)
      refine s_ifeq_f (tgt := 43) X dX12_shift_38 (by omega) (fun c28 => ?_) (fun c29 => ?_)
      · replace h := ite_neg h c28
        refine s_load0 X 0 rfl dX12_shift_43 ?_
        refine s_iload_n X 1 rfl dX12_shift_44 ?_
        refine s_iload_n X 2 rfl dX12_shift_45 ?_
        obtain ⟨m_3, hq31, h⟩ := bnd_some h
        refine s_callV (As := [VI trip_, VI minutes_]) X cw_X12_168 SHM_0 rfl dX12_shift_46 (L_M_move G trip_ minutes_ m_2 m_3 hq31) rfl ⟨Nat.le_of_ble_eq_true rfl, Nat.le_of_ble_eq_true rfl⟩ ⟨Nat.le_of_ble_eq_true rfl, Nat.le_of_ble_eq_true rfl⟩ (Nat.le_of_ble_eq_true rfl) noT (kkU ?_)
        obtain ⟨g34, h⟩ := grd_some h
        refine s_load0 X 0 rfl dX12_shift_49 ?_
        refine s_getR (id := 9) X fk_X12_39 SHM_0 rfl dX12_shift_50 ?_
        refine s_bipush X (by omega) dX12_shift_53 ?_
        refine s_iload_n X 1 rfl dX12_shift_55 ?_
        refine s_imul X g34.1 dX12_shift_56 ?_
        refine s_iald X SHM_9 g34.2.1 g34.2.2 dX12_shift_57 ?_
        exact s_iret X (Nat.le_of_ble_eq_true rfl) (Nat.le_of_ble_eq_true rfl) (by cases h; exact hO) dX12_shift_58
      · replace h := ite_pos h c29
        refine s_const X (by unfold InR; omega) dX12_shift_41 ?_
        exact s_iret X (Nat.le_of_ble_eq_true rfl) (Nat.le_of_ble_eq_true rfl) (by cases h; exact hO) dX12_shift_42
    refine s_iload_n X 2 rfl dX12_shift_9 ?_
    refine s_bipush X (by omega) dX12_shift_10 ?_
    refine s_bipush X (by omega) dX12_shift_12 ?_
    refine s_callS (As := [VI minutes_, VI (-60), VI 60]) X cw_X12_126 dX12_shift_14 (L_M_isIn G minutes_ (-60) 60 m_) rfl ⟨Nat.le_of_ble_eq_true rfl, Nat.le_of_ble_eq_true rfl⟩ ⟨Nat.le_of_ble_eq_true rfl, Nat.le_of_ble_eq_true rfl⟩ (Nat.le_of_ble_eq_true rfl) noT (kkR ?_)
    refine s_ifeq_t (tgt := 29) X dX12_shift_17 (by omega) (fun c13 => ?_) (fun c14 => ?_)
    · replace h := ite_pos h c13
      refine s_const X (by unfold InR; omega) dX12_shift_29 ?_
      refine s_goto (tgt := 34) X dX12_shift_30 (by omega) ?_
      exact s_kn rfl rfl (K10 _ h)
    · replace h := ite_neg h c14
      refine s_load0 X 0 rfl dX12_shift_20 ?_
      refine s_iload_n X 1 rfl dX12_shift_21 ?_
      refine s_iload_n X 2 rfl dX12_shift_22 ?_
      obtain ⟨r_2, hq17, h⟩ := bnd_some h
      refine s_callV (As := [VI trip_, VI minutes_]) X cw_X12_165 SHM_0 rfl dX12_shift_23 (L_M_isShiftWrong G trip_ minutes_ m_ r_2 hq17) rfl ⟨Nat.le_of_ble_eq_true rfl, Nat.le_of_ble_eq_true rfl⟩ ⟨Nat.le_of_ble_eq_true rfl, Nat.le_of_ble_eq_true rfl⟩ (Nat.le_of_ble_eq_true rfl) noT (kkR ?_)
      refine s_ifeq_f (tgt := 33) X dX12_shift_26 (by omega) (fun c20 => ?_) (fun c21 => ?_)
      · replace h := ite_neg h c20
        refine s_const X (by unfold InR; omega) dX12_shift_33 ?_
        exact s_kn rfl rfl (K10 _ h)
      · replace h := ite_pos h c21
        refine s_const X (by unfold InR; omega) dX12_shift_29 ?_
        refine s_goto (tgt := 34) X dX12_shift_30 (by omega) ?_
        exact s_kn rfl rfl (K10 _ h)
set_option maxRecDepth 20000 in
set_option maxHeartbeats 4000000 in
theorem L_M_type (G : Gl) (sign_ : Int) (m : Mem) (r : (Int × Mem))  (h : M_type sign_ m = some r) : Con SHM G yX12_type cX12_type 2 (some .int) rm_X12_type [VR 0, VI sign_] m (((.inl (some (VI r.1)), r.2) : Res × Mem)) := by
  refine con_of (own := "LastbusModel") (by decide) rfl (Nat.le_of_ble_eq_true rfl) (fun C X => ?_)
  obtain ⟨O, hO⟩ : ∃ O : Res × Mem, O = (((.inl (some (VI r.1)), r.2) : Res × Mem)) := ⟨_, rfl⟩
  rw [← hO]
  show J SHM G rm_X12_type (.inl O) C 0 0 0 [(0, VR 0), (1, VI sign_)] [] m
  unfold M_type at h
  refine s_load0 X 0 rfl dX12_type_0 ?_
  have kM2 : J SHM G rm_X12_type (.inl O) C 0 0 15 [(0, VR 0), (1, VI sign_)] [VI (if m 0 19 = 80 then 1 else 0), VR 0] m := by
    refine s_const X (by unfold InR; omega) dX12_type_15 ?_
    obtain ⟨r_, m_, hq5, h⟩ := bq2_some h
    refine s_callV (As := [VI (if m 0 19 = 80 then 1 else 0), VI 1]) X cw_X12_130 SHM_0 rfl dX12_type_16 (L_M_isThrown G (if m 0 19 = 80 then 1 else 0) 1 m (r_, m_) hq5) rfl ⟨Nat.le_of_ble_eq_true rfl, Nat.le_of_ble_eq_true rfl⟩ ⟨Nat.le_of_ble_eq_true rfl, Nat.le_of_ble_eq_true rfl⟩ (Nat.le_of_ble_eq_true rfl) noT (kkR ?_)
    refine s_ifeq_f (tgt := 24) X dX12_type_19 (by omega) (fun c8 => ?_) (fun c9 => ?_)
    · replace h := ite_neg h c8
      obtain ⟨g10, h⟩ := grd_some h
      refine s_load0 X 0 rfl dX12_type_24 ?_
      refine s_getR (id := 14) X fk_X12_54 SHM_0 rfl dX12_type_25 ?_
      refine s_load0 X 0 rfl dX12_type_28 ?_
      refine s_getI X fk_X12_172 SHM_0 rfl dX12_type_29 ?_
      refine s_iload_n X 1 rfl dX12_type_32 ?_
      obtain ⟨m_2, e11, h⟩ := ltv_elim h
      refine s_iast X e11 SHM_14 g10.1 g10.2 dX12_type_33 ?_
      obtain ⟨g12, h⟩ := grd_some h
      refine s_load0 X 0 rfl dX12_type_34 ?_
      refine s_dup X rfl dX12_type_35 ?_
      refine s_getI X fk_X12_172 SHM_0 rfl dX12_type_36 ?_
      refine s_const X (by unfold InR; omega) dX12_type_39 ?_
      refine s_iadd X g12 dX12_type_40 ?_
      obtain ⟨m_3, e13, h⟩ := ltv_elim h
      refine s_putI X e13 fp_X12_172 SHM_0 rfl trivial dX12_type_41 ?_
      refine s_load0 X 0 rfl dX12_type_44 ?_
      refine s_getI X fk_X12_172 SHM_0 rfl dX12_type_45 ?_
      exact s_iret X (Nat.le_of_ble_eq_true rfl) (Nat.le_of_ble_eq_true rfl) (by cases h; exact hO) dX12_type_48
    · replace h := ite_pos h c9
      refine s_const X (by unfold InR; omega) dX12_type_22 ?_
      exact s_iret X (Nat.le_of_ble_eq_true rfl) (Nat.le_of_ble_eq_true rfl) (by cases h; exact hO) dX12_type_23
  refine s_load0 X 0 rfl dX12_type_1 ?_
  refine s_getI X fk_X12_172 SHM_0 rfl dX12_type_2 ?_
  refine s_bipush X (by omega) dX12_type_5 ?_
  refine s_icmpne_f (tgt := 14) X dX12_type_7 (by omega) (fun c3 => ?_) (fun c4 => ?_)
  · refine s_const X (by unfold InR; omega) dX12_type_14 ?_
    exact s_eqt (if_neg c3) kM2
  · refine s_const X (by unfold InR; omega) dX12_type_10 ?_
    refine s_goto (tgt := 15) X dX12_type_11 (by omega) ?_
    exact s_eqt (if_pos c4) kM2
set_option maxRecDepth 20000 in
set_option maxHeartbeats 4000000 in
theorem L_M_typeNumber (G : Gl) (number_ : Int) (m : Mem) (r : (Int × Mem))  (h : M_typeNumber number_ m = some r) : Con SHM G yX12_typeNumber cX12_typeNumber 5 (some .int) rm_X12_typeNumber [VR 0, VI number_] m (((.inl (some (VI r.1)), r.2) : Res × Mem)) := by
  refine con_of (own := "LastbusModel") (by decide) rfl (Nat.le_of_ble_eq_true rfl) (fun C X => ?_)
  obtain ⟨O, hO⟩ : ∃ O : Res × Mem, O = (((.inl (some (VI r.1)), r.2) : Res × Mem)) := ⟨_, rfl⟩
  rw [← hO]
  show J SHM G rm_X12_typeNumber (.inl O) C 0 0 0 [(0, VR 0), (1, VI number_)] [] m
  unfold M_typeNumber at h
  have kM2 : J SHM G rm_X12_typeNumber (.inl O) C 0 0 32 [(0, VR 0), (1, VI number_)] [VI (if 999 < number_ then 4 else (if 99 < number_ then 3 else (if 9 < number_ then 2 else 1)))] m := by
    obtain ⟨many_, e11, h⟩ := ltv_elim h
    refine s_istore_n X e11 rfl (by omega) dX12_typeNumber_32 ?_
    refine s_load0 X 1 rfl dX12_typeNumber_33 ?_
    have kM13 : J SHM G rm_X12_typeNumber (.inl O) C 0 0 50 [(2, VI many_), (0, VR 0), (1, VI number_)] [VI (if M_isIn number_ 0 9999 = 0 then 1 else 0), VR 0] m := by
      refine s_const X (by unfold InR; omega) dX12_typeNumber_50 ?_
      obtain ⟨r_, m_, hq16, h⟩ := bq2_some h
      refine s_callV (As := [VI (if M_isIn number_ 0 9999 = 0 then 1 else 0), VI 1]) X cw_X12_130 SHM_0 rfl dX12_typeNumber_51 (L_M_isThrown G (if M_isIn number_ 0 9999 = 0 then 1 else 0) 1 m (r_, m_) hq16) rfl ⟨Nat.le_of_ble_eq_true rfl, Nat.le_of_ble_eq_true rfl⟩ ⟨Nat.le_of_ble_eq_true rfl, Nat.le_of_ble_eq_true rfl⟩ (Nat.le_of_ble_eq_true rfl) noT (kkR ?_)
      refine s_ifne_t (tgt := 81) X dX12_typeNumber_54 (by omega) (fun c19 => ?_) (fun c20 => ?_)
      · replace h := ite_pos h c19
        refine s_const X (by unfold InR; omega) dX12_typeNumber_81 ?_
        exact s_iret X (Nat.le_of_ble_eq_true rfl) (Nat.le_of_ble_eq_true rfl) (by cases h; exact hO) dX12_typeNumber_82
      · replace h := ite_neg h c20
        obtain ⟨g22, h⟩ := grd_some h
        refine s_load0 X 1 rfl dX12_typeNumber_57 ?_
        have kM23 : J SHM G rm_X12_typeNumber (.inl O) C 0 0 74 [(2, VI many_), (0, VR 0), (1, VI number_)] [VI (if 80 < m_ 0 19 + many_ then 1 else 0), VR 0] m_ := by
          refine s_const X (by unfold InR; omega) dX12_typeNumber_74 ?_
          obtain ⟨r_2, m_2, hq26, h⟩ := bq2_some h
          refine s_callV (As := [VI (if 80 < m_ 0 19 + many_ then 1 else 0), VI 2]) X cw_X12_130 SHM_0 rfl dX12_typeNumber_75 (L_M_isThrown G (if 80 < m_ 0 19 + many_ then 1 else 0) 2 m_ (r_2, m_2) hq26) rfl ⟨Nat.le_of_ble_eq_true rfl, Nat.le_of_ble_eq_true rfl⟩ ⟨Nat.le_of_ble_eq_true rfl, Nat.le_of_ble_eq_true rfl⟩ (Nat.le_of_ble_eq_true rfl) noT (kkR ?_)
          refine s_ifeq_f (tgt := 83) X dX12_typeNumber_78 (by omega) (fun c29 => ?_) (fun c30 => ?_)
          · replace h := ite_neg h c29
            refine s_iload_n X 2 rfl dX12_typeNumber_83 ?_
            obtain ⟨left_, e32, h⟩ := ltv_elim h
            refine s_istore_n X e32 rfl (by omega) dX12_typeNumber_84 ?_
            obtain ⟨g33, h⟩ := grd_some h
            refine s_iload_n X 1 rfl dX12_typeNumber_85 ?_
            refine s_const X (by unfold InR; omega) dX12_typeNumber_86 ?_
            refine s_isub X g33 dX12_typeNumber_87 ?_
            obtain ⟨k_, e34, h⟩ := ltv_elim h
            refine s_istore X e34 rfl (by omega) dX12_typeNumber_88 ?_
            obtain ⟨left_4, k_4, m_5, hl44, h⟩ := bq3_some h
            obtain ⟨fu350, hl45⟩ := loop_iter hl44
            have KX41 : ∀ q9 : Int × Int × Mem, q9 = (left_4, k_4, m_5) → J SHM G rm_X12_typeNumber (.inl O) C 0 0 125 [(4, VI q9.2.1), (3, VI q9.1), (2, VI many_), (0, VR 0), (1, VI number_)] [] (q9.2.2) := by
              intro q9 e9
              subst e9
              show J SHM G rm_X12_typeNumber (.inl O) C 0 0 125 [(4, VI k_4), (3, VI left_4), (2, VI many_), (0, VR 0), (1, VI number_)] [] m_5
              obtain ⟨g57, h⟩ := grd_some h
              refine s_load0 X 3 rfl dX12_typeNumber_125 ?_
              refine s_dup X rfl dX12_typeNumber_126 ?_
              refine s_getI X fk_X12_172 SHM_0 rfl dX12_typeNumber_127 ?_
              refine s_iload_n X 2 rfl dX12_typeNumber_130 ?_
              refine s_iadd X g57 dX12_typeNumber_131 ?_
              obtain ⟨m_6, e58, h⟩ := ltv_elim h
              refine s_putI X e58 fp_X12_172 SHM_0 rfl trivial dX12_typeNumber_132 ?_
              refine s_load0 X 3 rfl dX12_typeNumber_135 ?_
              refine s_getI X fk_X12_172 SHM_0 rfl dX12_typeNumber_136 ?_
              exact s_iret X (Nat.le_of_ble_eq_true rfl) (Nat.le_of_ble_eq_true rfl) (by cases h; exact hO) dX12_typeNumber_139
            have LP40 : ∀ (fu35 : Nat) (left_2 : Int) (k_2 : Int) (m_3 : Mem), iter (fun s => M_typeNumber_b1 s.1 s.2.1 s.2.2) fu35 (left_2, k_2, m_3) = some (left_4, k_4, m_5) → J SHM G rm_X12_typeNumber (.inl O) C 0 0 90 [(4, VI k_2), (3, VI left_2), (2, VI many_), (0, VR 0), (1, VI number_)] [] m_3 := by
              intro fu35
              induction fu35 with
              | zero => intro left_2 k_2 m_3 hn36; exact absurd hn36 (by simp [iter])
              | succ fu35 ih39 =>
                intro left_2 k_2 m_3 hn36
                obtain ⟨x37, h, hc38⟩ := iter_succ hn36
                replace h : M_typeNumber_b1 left_2 k_2 m_3 = some x37 := h
                unfold M_typeNumber_b1 at h
                refine s_iload X 0 rfl dX12_typeNumber_90 ?_
                refine s_iflt_f (tgt := 125) X dX12_typeNumber_92 (by omega) (fun c49 => ?_) (fun c50 => ?_)
                · replace h := ite_neg h c49
                  exact KX41 _ (iter_exit h hc38)
                · replace h := ite_pos h c50
                  obtain ⟨g51, h⟩ := grd_some h
                  refine s_load0 X 3 rfl dX12_typeNumber_95 ?_
                  refine s_getR (id := 14) X fk_X12_54 SHM_0 rfl dX12_typeNumber_96 ?_
                  refine s_load0 X 3 rfl dX12_typeNumber_99 ?_
                  refine s_getI X fk_X12_172 SHM_0 rfl dX12_typeNumber_100 ?_
                  refine s_iload X 0 rfl dX12_typeNumber_103 ?_
                  refine s_iadd X g51.1 dX12_typeNumber_105 ?_
                  refine s_bipush X (by omega) dX12_typeNumber_106 ?_
                  refine s_iload_n X 1 rfl dX12_typeNumber_108 ?_
                  refine s_bipush X (by omega) dX12_typeNumber_109 ?_
                  refine s_irem X (by omega) dX12_typeNumber_111 ?_
                  refine s_iadd X g51.2.2.2 dX12_typeNumber_112 ?_
                  obtain ⟨m_4, e52, h⟩ := ltv_elim h
                  refine s_iast X e52 SHM_14 g51.2.1 g51.2.2.1 dX12_typeNumber_113 ?_
                  refine s_iload_n X 1 rfl dX12_typeNumber_114 ?_
                  refine s_bipush X (by omega) dX12_typeNumber_115 ?_
                  refine s_idiv X (by omega) dX12_typeNumber_117 ?_
                  obtain ⟨left_3, e54, h⟩ := ltv_elim h
                  refine s_istore_n X e54 rfl (by omega) dX12_typeNumber_118 ?_
                  obtain ⟨g55, h⟩ := grd_some h
                  obtain ⟨k_3, e56, h⟩ := ltv_elim h
                  refine s_iinc X 1 rfl g55 e56 rfl (by omega) dX12_typeNumber_119 ?_
                  refine s_goto (tgt := 90) X dX12_typeNumber_122 (by omega) ?_
                  exact ih39 _ _ _ (iter_next h hc38)
            exact LP40 _ _ _ _ hl45
          · replace h := ite_pos h c30
            refine s_const X (by unfold InR; omega) dX12_typeNumber_81 ?_
            exact s_iret X (Nat.le_of_ble_eq_true rfl) (Nat.le_of_ble_eq_true rfl) (by cases h; exact hO) dX12_typeNumber_82
        refine s_load0 X 1 rfl dX12_typeNumber_58 ?_
        refine s_getI X fk_X12_172 SHM_0 rfl dX12_typeNumber_59 ?_
        refine s_iload_n X 0 rfl dX12_typeNumber_62 ?_
        refine s_iadd X g22 dX12_typeNumber_63 ?_
        refine s_bipush X (by omega) dX12_typeNumber_64 ?_
        refine s_icmple_f (tgt := 73) X dX12_typeNumber_66 (by omega) (fun c24 => ?_) (fun c25 => ?_)
        · refine s_const X (by unfold InR; omega) dX12_typeNumber_73 ?_
          exact s_eqt (if_neg c24) kM23
        · refine s_const X (by unfold InR; omega) dX12_typeNumber_69 ?_
          refine s_goto (tgt := 74) X dX12_typeNumber_70 (by omega) ?_
          exact s_eqt (if_pos c25) kM23
    refine s_iload_n X 2 rfl dX12_typeNumber_34 ?_
    refine s_const X (by unfold InR; omega) dX12_typeNumber_35 ?_
    refine s_sipush X (by omega) dX12_typeNumber_36 ?_
    refine s_callS (As := [VI number_, VI 0, VI 9999]) X cw_X12_126 dX12_typeNumber_39 (L_M_isIn G number_ 0 9999 m) rfl ⟨Nat.le_of_ble_eq_true rfl, Nat.le_of_ble_eq_true rfl⟩ ⟨Nat.le_of_ble_eq_true rfl, Nat.le_of_ble_eq_true rfl⟩ (Nat.le_of_ble_eq_true rfl) noT (kkR ?_)
    refine s_ifne_f (tgt := 49) X dX12_typeNumber_42 (by omega) (fun c14 => ?_) (fun c15 => ?_)
    · refine s_const X (by unfold InR; omega) dX12_typeNumber_49 ?_
      exact s_eqt (if_neg c14) kM13
    · refine s_const X (by unfold InR; omega) dX12_typeNumber_45 ?_
      refine s_goto (tgt := 50) X dX12_typeNumber_46 (by omega) ?_
      exact s_eqt (if_pos c15) kM13
  refine s_iload_n X 1 rfl dX12_typeNumber_0 ?_
  refine s_sipush X (by omega) dX12_typeNumber_1 ?_
  refine s_icmple_f (tgt := 11) X dX12_typeNumber_4 (by omega) (fun c3 => ?_) (fun c4 => ?_)
  · have kM5 : J SHM G rm_X12_typeNumber (.inl O) C 0 0 32 [(0, VR 0), (1, VI number_)] [VI (if 99 < number_ then 3 else (if 9 < number_ then 2 else 1))] m := by
      exact s_eqt (if_neg c3) kM2
    refine s_iload_n X 1 rfl dX12_typeNumber_11 ?_
    refine s_bipush X (by omega) dX12_typeNumber_12 ?_
    refine s_icmple_f (tgt := 21) X dX12_typeNumber_14 (by omega) (fun c6 => ?_) (fun c7 => ?_)
    · have kM8 : J SHM G rm_X12_typeNumber (.inl O) C 0 0 32 [(0, VR 0), (1, VI number_)] [VI (if 9 < number_ then 2 else 1)] m := by
        exact s_eqt (if_neg c6) kM5
      refine s_iload_n X 1 rfl dX12_typeNumber_21 ?_
      refine s_bipush X (by omega) dX12_typeNumber_22 ?_
      refine s_icmple_f (tgt := 31) X dX12_typeNumber_24 (by omega) (fun c9 => ?_) (fun c10 => ?_)
      · refine s_const X (by unfold InR; omega) dX12_typeNumber_31 ?_
        exact s_eqt (if_neg c9) kM8
      · refine s_const X (by unfold InR; omega) dX12_typeNumber_27 ?_
        refine s_goto (tgt := 32) X dX12_typeNumber_28 (by omega) ?_
        exact s_eqt (if_pos c10) kM8
    · refine s_const X (by unfold InR; omega) dX12_typeNumber_17 ?_
      refine s_goto (tgt := 32) X dX12_typeNumber_18 (by omega) ?_
      exact s_eqt (if_pos c7) kM5
  · refine s_const X (by unfold InR; omega) dX12_typeNumber_7 ?_
    refine s_goto (tgt := 32) X dX12_typeNumber_8 (by omega) ?_
    exact s_eqt (if_pos c4) kM2
set_option maxRecDepth 20000 in
set_option maxHeartbeats 4000000 in
theorem L_M_erase (G : Gl)  (m : Mem) (r : (Int × Mem))  (h : M_erase  m = some r) : Con SHM G yX12_erase cX12_erase 2 (some .int) rm_X12_erase [VR 0] m (((.inl (some (VI r.1)), r.2) : Res × Mem)) := by
  refine con_of (own := "LastbusModel") (by decide) rfl (Nat.le_of_ble_eq_true rfl) (fun C X => ?_)
  obtain ⟨O, hO⟩ : ∃ O : Res × Mem, O = (((.inl (some (VI r.1)), r.2) : Res × Mem)) := ⟨_, rfl⟩
  rw [← hO]
  show J SHM G rm_X12_erase (.inl O) C 0 0 0 [(0, VR 0)] [] m
  unfold M_erase at h
  refine s_load0 X 0 rfl dX12_erase_0 ?_
  refine s_const X (by unfold InR; omega) dX12_erase_1 ?_
  obtain ⟨m_, e2, h⟩ := ltv_elim h
  refine s_putI X e2 fp_X12_120 SHM_0 rfl trivial dX12_erase_2 ?_
  refine s_load0 X 0 rfl dX12_erase_5 ?_
  refine s_getI X fk_X12_172 SHM_0 rfl dX12_erase_6 ?_
  obtain ⟨had_, e4, h⟩ := ltv_elim h
  refine s_istore_n X e4 rfl (by omega) dX12_erase_9 ?_
  refine s_load0 X 1 rfl dX12_erase_10 ?_
  refine s_const X (by unfold InR; omega) dX12_erase_11 ?_
  obtain ⟨m_2, e6, h⟩ := ltv_elim h
  refine s_putI X e6 fp_X12_172 SHM_0 rfl trivial dX12_erase_12 ?_
  refine s_iload_n X 0 rfl dX12_erase_15 ?_
  exact s_iret X (Nat.le_of_ble_eq_true rfl) (Nat.le_of_ble_eq_true rfl) (by cases h; exact hO) dX12_erase_16
set_option maxRecDepth 20000 in
set_option maxHeartbeats 4000000 in
theorem L_M_told (G : Gl) (state_ : Int) (number_ : Int) (m : Mem) (r : Mem)  (h : M_told state_ number_ m = some r) : Con SHM G yX12_told cX12_told 3 none rm_X12_told [VR 0, VI state_, VI number_] m (((.inl none, r) : Res × Mem)) := by
  refine con_of (own := "LastbusModel") (by decide) rfl (Nat.le_of_ble_eq_true rfl) (fun C X => ?_)
  obtain ⟨O, hO⟩ : ∃ O : Res × Mem, O = (((.inl none, r) : Res × Mem)) := ⟨_, rfl⟩
  rw [← hO]
  show J SHM G rm_X12_told (.inl O) C 0 0 0 [(0, VR 0), (1, VI state_), (2, VI number_)] [] m
  unfold M_told at h
  refine s_load0 X 0 rfl dX12_told_0 ?_
  refine s_getI X fk_X12_175 SHM_0 rfl dX12_told_1 ?_
  refine s_bipush X (by omega) dX12_told_4 ?_
  refine s_icmple_f (tgt := 10) X dX12_told_6 (by omega) (fun c4 => ?_) (fun c5 => ?_)
  · replace h := ite_neg h c4
    refine s_iload_n X 1 rfl dX12_told_10 ?_
    refine s_const X (by unfold InR; omega) dX12_told_11 ?_
    refine s_icmpne_f (tgt := 28) X dX12_told_12 (by omega) (fun c9 => ?_) (fun c10 => ?_)
    · replace h := ite_neg h c9
      obtain ⟨g11, h⟩ := grd_some h
      refine s_load0 X 0 rfl dX12_told_28 ?_
      refine s_getR (id := 31) X fk_X12_111 SHM_0 rfl dX12_told_29 ?_
      refine s_load0 X 0 rfl dX12_told_32 ?_
      refine s_getI X fk_X12_175 SHM_0 rfl dX12_told_33 ?_
      refine s_iload_n X 2 rfl dX12_told_36 ?_
      obtain ⟨m_, e12, h⟩ := ltv_elim h
      refine s_iast X e12 SHM_31 g11.1 g11.2 dX12_told_37 ?_
      obtain ⟨g13, h⟩ := grd_some h
      refine s_load0 X 0 rfl dX12_told_38 ?_
      refine s_dup X rfl dX12_told_39 ?_
      refine s_getI X fk_X12_175 SHM_0 rfl dX12_told_40 ?_
      refine s_const X (by unfold InR; omega) dX12_told_43 ?_
      refine s_iadd X g13 dX12_told_44 ?_
      obtain ⟨m_2, e14, h⟩ := ltv_elim h
      refine s_putI X e14 fp_X12_175 SHM_0 rfl trivial dX12_told_45 ?_
      have kT16 : (state_ = 2) ∨ (state_ = 3) → J SHM G rm_X12_told (.inl O) C 0 0 58 [(0, VR 0), (1, VI state_), (2, VI number_)] [] m_2 := by
        intro c24
        replace h := ite_pos h c24
        obtain ⟨g20, h⟩ := grd_some h
        refine s_load0 X 0 rfl dX12_told_58 ?_
        refine s_getR (id := 31) X fk_X12_111 SHM_0 rfl dX12_told_59 ?_
        refine s_load0 X 0 rfl dX12_told_62 ?_
        refine s_getI X fk_X12_175 SHM_0 rfl dX12_told_63 ?_
        refine s_iload_n X 2 rfl dX12_told_66 ?_
        obtain ⟨m_3, e21, h⟩ := ltv_elim h
        refine s_iast X e21 SHM_31 g20.1 g20.2 dX12_told_67 ?_
        obtain ⟨g22, h⟩ := grd_some h
        refine s_load0 X 0 rfl dX12_told_68 ?_
        refine s_dup X rfl dX12_told_69 ?_
        refine s_getI X fk_X12_175 SHM_0 rfl dX12_told_70 ?_
        refine s_const X (by unfold InR; omega) dX12_told_73 ?_
        refine s_iadd X g22 dX12_told_74 ?_
        obtain ⟨m_4, e23, h⟩ := ltv_elim h
        refine s_putI X e23 fp_X12_175 SHM_0 rfl trivial dX12_told_75 ?_
        exact s_vret X (Nat.le_of_ble_eq_true rfl) (Nat.le_of_ble_eq_true rfl) (by cases h; exact hO) dX12_told_78
      refine s_iload_n X 1 rfl dX12_told_48 ?_
      refine s_const X (by unfold InR; omega) dX12_told_49 ?_
      refine s_icmpeq_t (tgt := 58) X dX12_told_50 (by omega) (fun c18 => ?_) (fun c19 => ?_)
      · exact kT16 (Or.inl c18)
      · have a25 : ¬ (state_ = 2) := c19
        refine s_iload_n X 1 rfl dX12_told_53 ?_
        refine s_const X (by unfold InR; omega) dX12_told_54 ?_
        refine s_icmpne_f (tgt := 78) X dX12_told_55 (by omega) (fun c26 => ?_) (fun c27 => ?_)
        · replace h := ite_neg h (fun q => q.elim a25 c26)
          exact s_vret X (Nat.le_of_ble_eq_true rfl) (Nat.le_of_ble_eq_true rfl) (by cases h; exact hO) dX12_told_78
        · exact kT16 (Or.inr c27)
    · replace h := ite_pos h c10
      obtain ⟨g28, h⟩ := grd_some h
      refine s_load0 X 0 rfl dX12_told_15 ?_
      refine s_getR (id := 31) X fk_X12_111 SHM_0 rfl dX12_told_16 ?_
      refine s_load0 X 0 rfl dX12_told_19 ?_
      refine s_getI X fk_X12_175 SHM_0 rfl dX12_told_20 ?_
      refine s_const X (by unfold InR; omega) dX12_told_23 ?_
      refine s_isub X g28.1 dX12_told_24 ?_
      refine s_iload_n X 2 rfl dX12_told_25 ?_
      obtain ⟨m_5, e29, h⟩ := ltv_elim h
      refine s_iast X e29 SHM_31 g28.2.1 g28.2.2 dX12_told_26 ?_
      exact s_vret X (Nat.le_of_ble_eq_true rfl) (Nat.le_of_ble_eq_true rfl) (by cases h; exact hO) dX12_told_27
  · replace h := ite_pos h c5
    exact s_vret X (Nat.le_of_ble_eq_true rfl) (Nat.le_of_ble_eq_true rfl) (by cases h; exact hO) dX12_told_9
set_option maxRecDepth 20000 in
set_option maxHeartbeats 4000000 in
theorem L_M_read (G : Gl)  (m : Mem) (r : (Int × Mem))  (h : M_read  m = some r) : Con SHM G yX12_read cX12_read 7 (some .int) rm_X12_read [VR 0] m (((.inl (some (VI r.1)), r.2) : Res × Mem)) := by
  refine con_of (own := "LastbusModel") (by decide) rfl (Nat.le_of_ble_eq_true rfl) (fun C X => ?_)
  obtain ⟨O, hO⟩ : ∃ O : Res × Mem, O = (((.inl (some (VI r.1)), r.2) : Res × Mem)) := ⟨_, rfl⟩
  rw [← hO]
  show J SHM G rm_X12_read (.inl O) C 0 0 0 [(0, VR 0)] [] m
  unfold M_read at h
  refine s_const X (by unfold InR; omega) dX12_read_0 ?_
  obtain ⟨state_, e2, h⟩ := ltv_elim h
  refine s_istore_n X e2 rfl (by omega) dX12_read_1 ?_
  refine s_const X (by unfold InR; omega) dX12_read_2 ?_
  obtain ⟨digits_, e4, h⟩ := ltv_elim h
  refine s_istore_n X e4 rfl (by omega) dX12_read_3 ?_
  refine s_const X (by unfold InR; omega) dX12_read_4 ?_
  obtain ⟨number_, e6, h⟩ := ltv_elim h
  refine s_istore_n X e6 rfl (by omega) dX12_read_5 ?_
  refine s_load0 X 3 rfl dX12_read_6 ?_
  refine s_const X (by unfold InR; omega) dX12_read_7 ?_
  obtain ⟨m_, e8, h⟩ := ltv_elim h
  refine s_putI X e8 fp_X12_175 SHM_0 rfl trivial dX12_read_8 ?_
  refine s_const X (by unfold InR; omega) dX12_read_11 ?_
  obtain ⟨k_, e10, h⟩ := ltv_elim h
  refine s_istore X e10 rfl (by omega) dX12_read_12 ?_
  obtain ⟨s18, hl20, h⟩ := br5_some h
  obtain ⟨fu110, hl21⟩ := loop_iter hl20
  have KR19 : ∀ q9 : (Int × Mem), .inr q9 = s18 → O = ((.inl (some (VI q9.1)), q9.2) : Res × Mem) := by
    intro q9 e9
    subst e9
    replace h := brm5_inr h
    exact (by cases h; exact hO)
  have KX17 : ∀ q9 : Int × Int × Int × Int × Mem, .inl q9 = s18 → J SHM G rm_X12_read (.inl O) C 0 0 195 [(4, VI q9.2.2.2.1), (3, VI q9.2.2.1), (2, VI q9.2.1), (1, VI q9.1), (0, VR 0)] [] (q9.2.2.2.2) := by
    intro q9 e9
    subst e9
    obtain ⟨state_4, digits_5, number_5, k_5, m_4⟩ := q9
    replace h := brm5_inl h
    show J SHM G rm_X12_read (.inl O) C 0 0 195 [(4, VI k_5), (3, VI number_5), (2, VI digits_5), (1, VI state_4), (0, VR 0)] [] m_4
    have kT170 : (digits_5 = 0) ∨ (state_4 < 2) → J SHM G rm_X12_read (.inl O) C 0 0 204 [(4, VI k_5), (3, VI number_5), (2, VI digits_5), (1, VI state_4), (0, VR 0)] [] m_4 := by
      intro c175
      replace h := ite_pos h c175
      refine s_load0 X 4 rfl dX12_read_204 ?_
      refine s_getI X fk_X12_172 SHM_0 rfl dX12_read_205 ?_
      exact s_iret X (Nat.le_of_ble_eq_true rfl) (Nat.le_of_ble_eq_true rfl) (by cases h; exact hO) dX12_read_208
    refine s_iload_n X 2 rfl dX12_read_195 ?_
    refine s_ifeq_t (tgt := 204) X dX12_read_196 (by omega) (fun c172 => ?_) (fun c173 => ?_)
    · exact kT170 (Or.inl c172)
    · have a176 : ¬ (digits_5 = 0) := c173
      refine s_iload_n X 3 rfl dX12_read_199 ?_
      refine s_const X (by unfold InR; omega) dX12_read_200 ?_
      refine s_icmpge_f (tgt := 209) X dX12_read_201 (by omega) (fun c177 => ?_) (fun c178 => ?_)
      · replace h := ite_neg h (fun q => q.elim a176 c177)
        refine s_load0 X 4 rfl dX12_read_209 ?_
        refine s_iload_n X 3 rfl dX12_read_210 ?_
        refine s_iload_n X 1 rfl dX12_read_211 ?_
        obtain ⟨m_5, hq180, h⟩ := bnd_some h
        refine s_callV (As := [VI state_4, VI number_5]) X cw_X12_178 SHM_0 rfl dX12_read_212 (L_M_told G state_4 number_5 m_4 m_5 hq180) rfl ⟨Nat.le_of_ble_eq_true rfl, Nat.le_of_ble_eq_true rfl⟩ ⟨Nat.le_of_ble_eq_true rfl, Nat.le_of_ble_eq_true rfl⟩ (Nat.le_of_ble_eq_true rfl) noT (kkU ?_)
        refine s_const X (by unfold InR; omega) dX12_read_215 ?_
        exact s_iret X (Nat.le_of_ble_eq_true rfl) (Nat.le_of_ble_eq_true rfl) (by cases h; exact hO) dX12_read_216
      · exact kT170 (Or.inr c178)
  have LP16 : ∀ (fu11 : Nat) (state_2 : Int) (digits_2 : Int) (number_2 : Int) (k_2 : Int) (m_2 : Mem), iter (fun s => M_read_b1 s.1 s.2.1 s.2.2.1 s.2.2.2.1 s.2.2.2.2) fu11 (state_2, digits_2, number_2, k_2, m_2) = some s18 → J SHM G rm_X12_read (.inl O) C 0 0 14 [(4, VI k_2), (3, VI number_2), (2, VI digits_2), (1, VI state_2), (0, VR 0)] [] m_2 := by
    intro fu11
    induction fu11 with
    | zero => intro state_2 digits_2 number_2 k_2 m_2 hn12; exact absurd hn12 (by simp [iter])
    | succ fu11 ih15 =>
      intro state_2 digits_2 number_2 k_2 m_2 hn12
      obtain ⟨x13, h, hc14⟩ := iter_succ hn12
      replace h : M_read_b1 state_2 digits_2 number_2 k_2 m_2 = some x13 := h
      unfold M_read_b1 at h
      refine s_iload X 0 rfl dX12_read_14 ?_
      refine s_load0 X 4 rfl dX12_read_16 ?_
      refine s_getI X fk_X12_172 SHM_0 rfl dX12_read_17 ?_
      refine s_icmpge_f (tgt := 195) X dX12_read_20 (by omega) (fun c25 => ?_) (fun c26 => ?_)
      · replace h := ite_neg h c25
        exact KX17 _ (iter_exit h hc14)
      · replace h := ite_pos h c26
        obtain ⟨g27, h⟩ := grd_some h
        refine s_load0 X 4 rfl dX12_read_23 ?_
        refine s_getR (id := 14) X fk_X12_54 SHM_0 rfl dX12_read_24 ?_
        refine s_iload X 0 rfl dX12_read_27 ?_
        refine s_iald X SHM_14 g27.1 g27.2 dX12_read_29 ?_
        obtain ⟨sign_, e28, h⟩ := ltv_elim h
        refine s_istore X e28 rfl (by omega) dX12_read_30 ?_
        have kF31 : ¬ ((¬ M_isIn sign_ 48 57 = 0) ∧ (digits_2 < 4)) → J SHM G rm_X12_read (.inl O) C 0 0 66 [(5, VI sign_), (4, VI k_2), (3, VI number_2), (2, VI digits_2), (1, VI state_2), (0, VR 0)] [] m_2 := by
          intro c159
          replace h := ite_neg h c159
          have kM35 : J SHM G rm_X12_read (.inl O) C 0 0 122 [(5, VI sign_), (4, VI k_2), (3, VI number_2), (2, VI digits_2), (1, VI state_2), (0, VR 0)] [VI (if (0 < digits_2) ∧ (((((sign_ = 58) ∧ (state_2 = 0)) ∨ ((sign_ = 64) ∧ (state_2 = 1))) ∨ ((sign_ = 44) ∧ (2 ≤ state_2))) ∨ ((sign_ = 45) ∧ (state_2 = 3))) then 1 else 0)] m_2 := by
            obtain ⟨goes_, e128, h⟩ := ltv_elim h
            refine s_istore X e128 rfl (by omega) dX12_read_122 ?_
            refine s_iload X 0 rfl dX12_read_124 ?_
            refine s_ifne_f (tgt := 132) X dX12_read_126 (by omega) (fun c132 => ?_) (fun c133 => ?_)
            · replace h := ite_neg h c132
              refine s_load0 X 6 rfl dX12_read_132 ?_
              refine s_iload_n X 5 rfl dX12_read_133 ?_
              refine s_iload_n X 3 rfl dX12_read_134 ?_
              obtain ⟨m_3, hq135, h⟩ := bnd_some h
              refine s_callV (As := [VI state_2, VI number_2]) X cw_X12_178 SHM_0 rfl dX12_read_135 (L_M_told G state_2 number_2 m_2 m_3 hq135) rfl ⟨Nat.le_of_ble_eq_true rfl, Nat.le_of_ble_eq_true rfl⟩ ⟨Nat.le_of_ble_eq_true rfl, Nat.le_of_ble_eq_true rfl⟩ (Nat.le_of_ble_eq_true rfl) noT (kkU ?_)
              have kM139 : J SHM G rm_X12_read (.inl O) C 0 0 184 [(6, VI goes_), (5, VI sign_), (4, VI k_2), (3, VI number_2), (2, VI digits_2), (1, VI state_2), (0, VR 0)] [VI (if sign_ = 58 then 1 else (if sign_ = 64 then (if m_3 0 45 = 2 then 2 else 3) else (if sign_ = 44 then 1 else 4)))] m_3 := by
                obtain ⟨state_3, e151, h⟩ := ltv_elim h
                refine s_istore_n X e151 rfl (by omega) dX12_read_184 ?_
                refine s_const X (by unfold InR; omega) dX12_read_185 ?_
                obtain ⟨number_3, e153, h⟩ := ltv_elim h
                refine s_istore_n X e153 rfl (by omega) dX12_read_186 ?_
                refine s_const X (by unfold InR; omega) dX12_read_187 ?_
                obtain ⟨digits_3, e155, h⟩ := ltv_elim h
                refine s_istore_n X e155 rfl (by omega) dX12_read_188 ?_
                obtain ⟨g156, h⟩ := grd_some h
                obtain ⟨k_3, e157, h⟩ := ltv_elim h
                refine s_iinc X 5 rfl g156 e157 rfl (by omega) dX12_read_189 ?_
                refine s_goto (tgt := 14) X dX12_read_192 (by omega) ?_
                refine s_loc [0, 2, 1, 3, 6] rfl ?_
                exact ih15 _ _ _ _ _ (iter_next h hc14)
              refine s_iload X 1 rfl dX12_read_138 ?_
              refine s_bipush X (by omega) dX12_read_140 ?_
              refine s_icmpne_f (tgt := 149) X dX12_read_142 (by omega) (fun c140 => ?_) (fun c141 => ?_)
              · have kM142 : J SHM G rm_X12_read (.inl O) C 0 0 184 [(6, VI goes_), (5, VI sign_), (4, VI k_2), (3, VI number_2), (2, VI digits_2), (1, VI state_2), (0, VR 0)] [VI (if sign_ = 64 then (if m_3 0 45 = 2 then 2 else 3) else (if sign_ = 44 then 1 else 4))] m_3 := by
                  exact s_eqt (if_neg c140) kM139
                refine s_iload X 1 rfl dX12_read_149 ?_
                refine s_bipush X (by omega) dX12_read_151 ?_
                refine s_icmpne_f (tgt := 172) X dX12_read_153 (by omega) (fun c143 => ?_) (fun c144 => ?_)
                · have kM145 : J SHM G rm_X12_read (.inl O) C 0 0 184 [(6, VI goes_), (5, VI sign_), (4, VI k_2), (3, VI number_2), (2, VI digits_2), (1, VI state_2), (0, VR 0)] [VI (if sign_ = 44 then 1 else 4)] m_3 := by
                    exact s_eqt (if_neg c143) kM142
                  refine s_iload X 1 rfl dX12_read_172 ?_
                  refine s_bipush X (by omega) dX12_read_174 ?_
                  refine s_icmpne_f (tgt := 183) X dX12_read_176 (by omega) (fun c146 => ?_) (fun c147 => ?_)
                  · refine s_const X (by unfold InR; omega) dX12_read_183 ?_
                    exact s_eqt (if_neg c146) kM145
                  · refine s_const X (by unfold InR; omega) dX12_read_179 ?_
                    refine s_goto (tgt := 184) X dX12_read_180 (by omega) ?_
                    exact s_eqt (if_pos c147) kM145
                · have kM148 : J SHM G rm_X12_read (.inl O) C 0 0 184 [(6, VI goes_), (5, VI sign_), (4, VI k_2), (3, VI number_2), (2, VI digits_2), (1, VI state_2), (0, VR 0)] [VI (if m_3 0 45 = 2 then 2 else 3)] m_3 := by
                    exact s_eqt (if_pos c144) kM142
                  refine s_load0 X 6 rfl dX12_read_156 ?_
                  refine s_getI X fk_X12_175 SHM_0 rfl dX12_read_157 ?_
                  refine s_const X (by unfold InR; omega) dX12_read_160 ?_
                  refine s_icmpne_f (tgt := 168) X dX12_read_161 (by omega) (fun c149 => ?_) (fun c150 => ?_)
                  · refine s_const X (by unfold InR; omega) dX12_read_168 ?_
                    refine s_goto (tgt := 184) X dX12_read_169 (by omega) ?_
                    exact s_eqt (if_neg c149) kM148
                  · refine s_const X (by unfold InR; omega) dX12_read_164 ?_
                    refine s_goto (tgt := 184) X dX12_read_165 (by omega) ?_
                    exact s_eqt (if_pos c150) kM148
              · refine s_const X (by unfold InR; omega) dX12_read_145 ?_
                refine s_goto (tgt := 184) X dX12_read_146 (by omega) ?_
                exact s_eqt (if_pos c141) kM139
            · replace h := ite_pos h c133
              refine s_iload X 2 rfl dX12_read_129 ?_
              exact s_iret X (Nat.le_of_ble_eq_true rfl) (Nat.le_of_ble_eq_true rfl) (KR19 _ (iter_exit h hc14)) dX12_read_131
          refine s_iload_n X 3 rfl dX12_read_66 ?_
          refine s_ifle_f (tgt := 121) X dX12_read_67 (by omega) (fun c36 => ?_) (fun c37 => ?_)
          · refine s_const X (by unfold InR; omega) dX12_read_121 ?_
            exact s_eqt (if_neg (fun q => c36 q.1)) kM35
          · have a38 : 0 < digits_2 := c37
            refine s_iload X 0 rfl dX12_read_70 ?_
            refine s_bipush X (by omega) dX12_read_72 ?_
            refine s_icmpne_f (tgt := 81) X dX12_read_74 (by omega) (fun c39 => ?_) (fun c40 => ?_)
            · have a41 : ¬ ((sign_ = 58) ∧ (state_2 = 0)) := (fun q => c39 q.1)
              refine s_iload X 0 rfl dX12_read_81 ?_
              refine s_bipush X (by omega) dX12_read_83 ?_
              refine s_icmpne_f (tgt := 93) X dX12_read_85 (by omega) (fun c42 => ?_) (fun c43 => ?_)
              · have a44 : ¬ (((sign_ = 58) ∧ (state_2 = 0)) ∨ ((sign_ = 64) ∧ (state_2 = 1))) := (fun q => q.elim a41 (fun q => c42 q.1))
                refine s_iload X 0 rfl dX12_read_93 ?_
                refine s_bipush X (by omega) dX12_read_95 ?_
                refine s_icmpne_f (tgt := 105) X dX12_read_97 (by omega) (fun c45 => ?_) (fun c46 => ?_)
                · have a47 : ¬ ((((sign_ = 58) ∧ (state_2 = 0)) ∨ ((sign_ = 64) ∧ (state_2 = 1))) ∨ ((sign_ = 44) ∧ (2 ≤ state_2))) := (fun q => q.elim a44 (fun q => c45 q.1))
                  refine s_iload X 0 rfl dX12_read_105 ?_
                  refine s_bipush X (by omega) dX12_read_107 ?_
                  refine s_icmpne_f (tgt := 121) X dX12_read_109 (by omega) (fun c48 => ?_) (fun c49 => ?_)
                  · refine s_const X (by unfold InR; omega) dX12_read_121 ?_
                    exact s_eqt (if_neg (fun q => (fun q => q.elim a47 (fun q => c48 q.1)) q.2)) kM35
                  · have a50 : sign_ = 45 := c49
                    refine s_iload_n X 4 rfl dX12_read_112 ?_
                    refine s_const X (by unfold InR; omega) dX12_read_113 ?_
                    refine s_icmpne_f (tgt := 121) X dX12_read_114 (by omega) (fun c51 => ?_) (fun c52 => ?_)
                    · refine s_const X (by unfold InR; omega) dX12_read_121 ?_
                      exact s_eqt (if_neg (fun q => (fun q => q.elim a47 (fun q => c51 q.2)) q.2)) kM35
                    · refine s_const X (by unfold InR; omega) dX12_read_117 ?_
                      refine s_goto (tgt := 122) X dX12_read_118 (by omega) ?_
                      exact s_eqt (if_pos ⟨a38, (Or.inr ⟨a50, c52⟩)⟩) kM35
                · have a53 : sign_ = 44 := c46
                  refine s_iload_n X 4 rfl dX12_read_100 ?_
                  refine s_const X (by unfold InR; omega) dX12_read_101 ?_
                  refine s_icmpge_t (tgt := 117) X dX12_read_102 (by omega) (fun c54 => ?_) (fun c55 => ?_)
                  · refine s_const X (by unfold InR; omega) dX12_read_117 ?_
                    refine s_goto (tgt := 122) X dX12_read_118 (by omega) ?_
                    exact s_eqt (if_pos ⟨a38, (Or.inl (Or.inr ⟨a53, c54⟩))⟩) kM35
                  · have a56 : ¬ ((((sign_ = 58) ∧ (state_2 = 0)) ∨ ((sign_ = 64) ∧ (state_2 = 1))) ∨ ((sign_ = 44) ∧ (2 ≤ state_2))) := (fun q => q.elim a44 (fun q => c55 q.2))
                    refine s_iload X 0 rfl dX12_read_105 ?_
                    refine s_bipush X (by omega) dX12_read_107 ?_
                    refine s_icmpne_f (tgt := 121) X dX12_read_109 (by omega) (fun c57 => ?_) (fun c58 => ?_)
                    · refine s_const X (by unfold InR; omega) dX12_read_121 ?_
                      exact s_eqt (if_neg (fun q => (fun q => q.elim a56 (fun q => c57 q.1)) q.2)) kM35
                    · have a59 : sign_ = 45 := c58
                      refine s_iload_n X 4 rfl dX12_read_112 ?_
                      refine s_const X (by unfold InR; omega) dX12_read_113 ?_
                      refine s_icmpne_f (tgt := 121) X dX12_read_114 (by omega) (fun c60 => ?_) (fun c61 => ?_)
                      · refine s_const X (by unfold InR; omega) dX12_read_121 ?_
                        exact s_eqt (if_neg (fun q => (fun q => q.elim a56 (fun q => c60 q.2)) q.2)) kM35
                      · refine s_const X (by unfold InR; omega) dX12_read_117 ?_
                        refine s_goto (tgt := 122) X dX12_read_118 (by omega) ?_
                        exact s_eqt (if_pos ⟨a38, (Or.inr ⟨a59, c61⟩)⟩) kM35
              · have a62 : sign_ = 64 := c43
                refine s_iload_n X 4 rfl dX12_read_88 ?_
                refine s_const X (by unfold InR; omega) dX12_read_89 ?_
                refine s_icmpeq_t (tgt := 117) X dX12_read_90 (by omega) (fun c63 => ?_) (fun c64 => ?_)
                · refine s_const X (by unfold InR; omega) dX12_read_117 ?_
                  refine s_goto (tgt := 122) X dX12_read_118 (by omega) ?_
                  exact s_eqt (if_pos ⟨a38, (Or.inl (Or.inl (Or.inr ⟨a62, c63⟩)))⟩) kM35
                · have a65 : ¬ (((sign_ = 58) ∧ (state_2 = 0)) ∨ ((sign_ = 64) ∧ (state_2 = 1))) := (fun q => q.elim a41 (fun q => c64 q.2))
                  refine s_iload X 0 rfl dX12_read_93 ?_
                  refine s_bipush X (by omega) dX12_read_95 ?_
                  refine s_icmpne_f (tgt := 105) X dX12_read_97 (by omega) (fun c66 => ?_) (fun c67 => ?_)
                  · have a68 : ¬ ((((sign_ = 58) ∧ (state_2 = 0)) ∨ ((sign_ = 64) ∧ (state_2 = 1))) ∨ ((sign_ = 44) ∧ (2 ≤ state_2))) := (fun q => q.elim a65 (fun q => c66 q.1))
                    refine s_iload X 0 rfl dX12_read_105 ?_
                    refine s_bipush X (by omega) dX12_read_107 ?_
                    refine s_icmpne_f (tgt := 121) X dX12_read_109 (by omega) (fun c69 => ?_) (fun c70 => ?_)
                    · refine s_const X (by unfold InR; omega) dX12_read_121 ?_
                      exact s_eqt (if_neg (fun q => (fun q => q.elim a68 (fun q => c69 q.1)) q.2)) kM35
                    · have a71 : sign_ = 45 := c70
                      refine s_iload_n X 4 rfl dX12_read_112 ?_
                      refine s_const X (by unfold InR; omega) dX12_read_113 ?_
                      refine s_icmpne_f (tgt := 121) X dX12_read_114 (by omega) (fun c72 => ?_) (fun c73 => ?_)
                      · refine s_const X (by unfold InR; omega) dX12_read_121 ?_
                        exact s_eqt (if_neg (fun q => (fun q => q.elim a68 (fun q => c72 q.2)) q.2)) kM35
                      · refine s_const X (by unfold InR; omega) dX12_read_117 ?_
                        refine s_goto (tgt := 122) X dX12_read_118 (by omega) ?_
                        exact s_eqt (if_pos ⟨a38, (Or.inr ⟨a71, c73⟩)⟩) kM35
                  · have a74 : sign_ = 44 := c67
                    refine s_iload_n X 4 rfl dX12_read_100 ?_
                    refine s_const X (by unfold InR; omega) dX12_read_101 ?_
                    refine s_icmpge_t (tgt := 117) X dX12_read_102 (by omega) (fun c75 => ?_) (fun c76 => ?_)
                    · refine s_const X (by unfold InR; omega) dX12_read_117 ?_
                      refine s_goto (tgt := 122) X dX12_read_118 (by omega) ?_
                      exact s_eqt (if_pos ⟨a38, (Or.inl (Or.inr ⟨a74, c75⟩))⟩) kM35
                    · have a77 : ¬ ((((sign_ = 58) ∧ (state_2 = 0)) ∨ ((sign_ = 64) ∧ (state_2 = 1))) ∨ ((sign_ = 44) ∧ (2 ≤ state_2))) := (fun q => q.elim a65 (fun q => c76 q.2))
                      refine s_iload X 0 rfl dX12_read_105 ?_
                      refine s_bipush X (by omega) dX12_read_107 ?_
                      refine s_icmpne_f (tgt := 121) X dX12_read_109 (by omega) (fun c78 => ?_) (fun c79 => ?_)
                      · refine s_const X (by unfold InR; omega) dX12_read_121 ?_
                        exact s_eqt (if_neg (fun q => (fun q => q.elim a77 (fun q => c78 q.1)) q.2)) kM35
                      · have a80 : sign_ = 45 := c79
                        refine s_iload_n X 4 rfl dX12_read_112 ?_
                        refine s_const X (by unfold InR; omega) dX12_read_113 ?_
                        refine s_icmpne_f (tgt := 121) X dX12_read_114 (by omega) (fun c81 => ?_) (fun c82 => ?_)
                        · refine s_const X (by unfold InR; omega) dX12_read_121 ?_
                          exact s_eqt (if_neg (fun q => (fun q => q.elim a77 (fun q => c81 q.2)) q.2)) kM35
                        · refine s_const X (by unfold InR; omega) dX12_read_117 ?_
                          refine s_goto (tgt := 122) X dX12_read_118 (by omega) ?_
                          exact s_eqt (if_pos ⟨a38, (Or.inr ⟨a80, c82⟩)⟩) kM35
            · have a83 : sign_ = 58 := c40
              refine s_iload_n X 4 rfl dX12_read_77 ?_
              refine s_ifeq_t (tgt := 117) X dX12_read_78 (by omega) (fun c84 => ?_) (fun c85 => ?_)
              · refine s_const X (by unfold InR; omega) dX12_read_117 ?_
                refine s_goto (tgt := 122) X dX12_read_118 (by omega) ?_
                exact s_eqt (if_pos ⟨a38, (Or.inl (Or.inl (Or.inl ⟨a83, c84⟩)))⟩) kM35
              · have a86 : ¬ ((sign_ = 58) ∧ (state_2 = 0)) := (fun q => c85 q.2)
                refine s_iload X 0 rfl dX12_read_81 ?_
                refine s_bipush X (by omega) dX12_read_83 ?_
                refine s_icmpne_f (tgt := 93) X dX12_read_85 (by omega) (fun c87 => ?_) (fun c88 => ?_)
                · have a89 : ¬ (((sign_ = 58) ∧ (state_2 = 0)) ∨ ((sign_ = 64) ∧ (state_2 = 1))) := (fun q => q.elim a86 (fun q => c87 q.1))
                  refine s_iload X 0 rfl dX12_read_93 ?_
                  refine s_bipush X (by omega) dX12_read_95 ?_
                  refine s_icmpne_f (tgt := 105) X dX12_read_97 (by omega) (fun c90 => ?_) (fun c91 => ?_)
                  · have a92 : ¬ ((((sign_ = 58) ∧ (state_2 = 0)) ∨ ((sign_ = 64) ∧ (state_2 = 1))) ∨ ((sign_ = 44) ∧ (2 ≤ state_2))) := (fun q => q.elim a89 (fun q => c90 q.1))
                    refine s_iload X 0 rfl dX12_read_105 ?_
                    refine s_bipush X (by omega) dX12_read_107 ?_
                    refine s_icmpne_f (tgt := 121) X dX12_read_109 (by omega) (fun c93 => ?_) (fun c94 => ?_)
                    · refine s_const X (by unfold InR; omega) dX12_read_121 ?_
                      exact s_eqt (if_neg (fun q => (fun q => q.elim a92 (fun q => c93 q.1)) q.2)) kM35
                    · have a95 : sign_ = 45 := c94
                      refine s_iload_n X 4 rfl dX12_read_112 ?_
                      refine s_const X (by unfold InR; omega) dX12_read_113 ?_
                      refine s_icmpne_f (tgt := 121) X dX12_read_114 (by omega) (fun c96 => ?_) (fun c97 => ?_)
                      · refine s_const X (by unfold InR; omega) dX12_read_121 ?_
                        exact s_eqt (if_neg (fun q => (fun q => q.elim a92 (fun q => c96 q.2)) q.2)) kM35
                      · refine s_const X (by unfold InR; omega) dX12_read_117 ?_
                        refine s_goto (tgt := 122) X dX12_read_118 (by omega) ?_
                        exact s_eqt (if_pos ⟨a38, (Or.inr ⟨a95, c97⟩)⟩) kM35
                  · have a98 : sign_ = 44 := c91
                    refine s_iload_n X 4 rfl dX12_read_100 ?_
                    refine s_const X (by unfold InR; omega) dX12_read_101 ?_
                    refine s_icmpge_t (tgt := 117) X dX12_read_102 (by omega) (fun c99 => ?_) (fun c100 => ?_)
                    · refine s_const X (by unfold InR; omega) dX12_read_117 ?_
                      refine s_goto (tgt := 122) X dX12_read_118 (by omega) ?_
                      exact s_eqt (if_pos ⟨a38, (Or.inl (Or.inr ⟨a98, c99⟩))⟩) kM35
                    · have a101 : ¬ ((((sign_ = 58) ∧ (state_2 = 0)) ∨ ((sign_ = 64) ∧ (state_2 = 1))) ∨ ((sign_ = 44) ∧ (2 ≤ state_2))) := (fun q => q.elim a89 (fun q => c100 q.2))
                      refine s_iload X 0 rfl dX12_read_105 ?_
                      refine s_bipush X (by omega) dX12_read_107 ?_
                      refine s_icmpne_f (tgt := 121) X dX12_read_109 (by omega) (fun c102 => ?_) (fun c103 => ?_)
                      · refine s_const X (by unfold InR; omega) dX12_read_121 ?_
                        exact s_eqt (if_neg (fun q => (fun q => q.elim a101 (fun q => c102 q.1)) q.2)) kM35
                      · have a104 : sign_ = 45 := c103
                        refine s_iload_n X 4 rfl dX12_read_112 ?_
                        refine s_const X (by unfold InR; omega) dX12_read_113 ?_
                        refine s_icmpne_f (tgt := 121) X dX12_read_114 (by omega) (fun c105 => ?_) (fun c106 => ?_)
                        · refine s_const X (by unfold InR; omega) dX12_read_121 ?_
                          exact s_eqt (if_neg (fun q => (fun q => q.elim a101 (fun q => c105 q.2)) q.2)) kM35
                        · refine s_const X (by unfold InR; omega) dX12_read_117 ?_
                          refine s_goto (tgt := 122) X dX12_read_118 (by omega) ?_
                          exact s_eqt (if_pos ⟨a38, (Or.inr ⟨a104, c106⟩)⟩) kM35
                · have a107 : sign_ = 64 := c88
                  refine s_iload_n X 4 rfl dX12_read_88 ?_
                  refine s_const X (by unfold InR; omega) dX12_read_89 ?_
                  refine s_icmpeq_t (tgt := 117) X dX12_read_90 (by omega) (fun c108 => ?_) (fun c109 => ?_)
                  · refine s_const X (by unfold InR; omega) dX12_read_117 ?_
                    refine s_goto (tgt := 122) X dX12_read_118 (by omega) ?_
                    exact s_eqt (if_pos ⟨a38, (Or.inl (Or.inl (Or.inr ⟨a107, c108⟩)))⟩) kM35
                  · have a110 : ¬ (((sign_ = 58) ∧ (state_2 = 0)) ∨ ((sign_ = 64) ∧ (state_2 = 1))) := (fun q => q.elim a86 (fun q => c109 q.2))
                    refine s_iload X 0 rfl dX12_read_93 ?_
                    refine s_bipush X (by omega) dX12_read_95 ?_
                    refine s_icmpne_f (tgt := 105) X dX12_read_97 (by omega) (fun c111 => ?_) (fun c112 => ?_)
                    · have a113 : ¬ ((((sign_ = 58) ∧ (state_2 = 0)) ∨ ((sign_ = 64) ∧ (state_2 = 1))) ∨ ((sign_ = 44) ∧ (2 ≤ state_2))) := (fun q => q.elim a110 (fun q => c111 q.1))
                      refine s_iload X 0 rfl dX12_read_105 ?_
                      refine s_bipush X (by omega) dX12_read_107 ?_
                      refine s_icmpne_f (tgt := 121) X dX12_read_109 (by omega) (fun c114 => ?_) (fun c115 => ?_)
                      · refine s_const X (by unfold InR; omega) dX12_read_121 ?_
                        exact s_eqt (if_neg (fun q => (fun q => q.elim a113 (fun q => c114 q.1)) q.2)) kM35
                      · have a116 : sign_ = 45 := c115
                        refine s_iload_n X 4 rfl dX12_read_112 ?_
                        refine s_const X (by unfold InR; omega) dX12_read_113 ?_
                        refine s_icmpne_f (tgt := 121) X dX12_read_114 (by omega) (fun c117 => ?_) (fun c118 => ?_)
                        · refine s_const X (by unfold InR; omega) dX12_read_121 ?_
                          exact s_eqt (if_neg (fun q => (fun q => q.elim a113 (fun q => c117 q.2)) q.2)) kM35
                        · refine s_const X (by unfold InR; omega) dX12_read_117 ?_
                          refine s_goto (tgt := 122) X dX12_read_118 (by omega) ?_
                          exact s_eqt (if_pos ⟨a38, (Or.inr ⟨a116, c118⟩)⟩) kM35
                    · have a119 : sign_ = 44 := c112
                      refine s_iload_n X 4 rfl dX12_read_100 ?_
                      refine s_const X (by unfold InR; omega) dX12_read_101 ?_
                      refine s_icmpge_t (tgt := 117) X dX12_read_102 (by omega) (fun c120 => ?_) (fun c121 => ?_)
                      · refine s_const X (by unfold InR; omega) dX12_read_117 ?_
                        refine s_goto (tgt := 122) X dX12_read_118 (by omega) ?_
                        exact s_eqt (if_pos ⟨a38, (Or.inl (Or.inr ⟨a119, c120⟩))⟩) kM35
                      · have a122 : ¬ ((((sign_ = 58) ∧ (state_2 = 0)) ∨ ((sign_ = 64) ∧ (state_2 = 1))) ∨ ((sign_ = 44) ∧ (2 ≤ state_2))) := (fun q => q.elim a110 (fun q => c121 q.2))
                        refine s_iload X 0 rfl dX12_read_105 ?_
                        refine s_bipush X (by omega) dX12_read_107 ?_
                        refine s_icmpne_f (tgt := 121) X dX12_read_109 (by omega) (fun c123 => ?_) (fun c124 => ?_)
                        · refine s_const X (by unfold InR; omega) dX12_read_121 ?_
                          exact s_eqt (if_neg (fun q => (fun q => q.elim a122 (fun q => c123 q.1)) q.2)) kM35
                        · have a125 : sign_ = 45 := c124
                          refine s_iload_n X 4 rfl dX12_read_112 ?_
                          refine s_const X (by unfold InR; omega) dX12_read_113 ?_
                          refine s_icmpne_f (tgt := 121) X dX12_read_114 (by omega) (fun c126 => ?_) (fun c127 => ?_)
                          · refine s_const X (by unfold InR; omega) dX12_read_121 ?_
                            exact s_eqt (if_neg (fun q => (fun q => q.elim a122 (fun q => c126 q.2)) q.2)) kM35
                          · refine s_const X (by unfold InR; omega) dX12_read_117 ?_
                            refine s_goto (tgt := 122) X dX12_read_118 (by omega) ?_
                            exact s_eqt (if_pos ⟨a38, (Or.inr ⟨a125, c127⟩)⟩) kM35
        refine s_iload X 0 rfl dX12_read_32 ?_
        refine s_bipush X (by omega) dX12_read_34 ?_
        refine s_bipush X (by omega) dX12_read_36 ?_
        refine s_callS (As := [VI sign_, VI 48, VI 57]) X cw_X12_126 dX12_read_38 (L_M_isIn G sign_ 48 57 m_2) rfl ⟨Nat.le_of_ble_eq_true rfl, Nat.le_of_ble_eq_true rfl⟩ ⟨Nat.le_of_ble_eq_true rfl, Nat.le_of_ble_eq_true rfl⟩ (Nat.le_of_ble_eq_true rfl) noT (kkR ?_)
        refine s_ifeq_f (tgt := 66) X dX12_read_41 (by omega) (fun c32 => ?_) (fun c33 => ?_)
        · exact kF31 (fun q => c32 q.1)
        · have a160 : ¬ M_isIn sign_ 48 57 = 0 := c33
          refine s_iload_n X 3 rfl dX12_read_44 ?_
          refine s_const X (by unfold InR; omega) dX12_read_45 ?_
          refine s_icmpge_f (tgt := 66) X dX12_read_46 (by omega) (fun c161 => ?_) (fun c162 => ?_)
          · exact kF31 (fun q => c161 q.2)
          · replace h := ite_pos h ⟨a160, c162⟩
            obtain ⟨g163, h⟩ := grd_some h
            refine s_bipush X (by omega) dX12_read_49 ?_
            refine s_iload_n X 2 rfl dX12_read_51 ?_
            refine s_imul X g163.1 dX12_read_52 ?_
            refine s_iload X 0 rfl dX12_read_53 ?_
            refine s_iadd X g163.2.1 dX12_read_55 ?_
            refine s_bipush X (by omega) dX12_read_56 ?_
            refine s_isub X g163.2.2 dX12_read_58 ?_
            obtain ⟨number_4, e164, h⟩ := ltv_elim h
            refine s_istore_n X e164 rfl (by omega) dX12_read_59 ?_
            obtain ⟨g165, h⟩ := grd_some h
            obtain ⟨digits_4, e166, h⟩ := ltv_elim h
            refine s_iinc X 3 rfl g165 e166 rfl (by omega) dX12_read_60 ?_
            refine s_goto (tgt := 189) X dX12_read_63 (by omega) ?_
            obtain ⟨g167, h⟩ := grd_some h
            obtain ⟨k_4, e168, h⟩ := ltv_elim h
            refine s_iinc X 3 rfl g167 e168 rfl (by omega) dX12_read_189 ?_
            refine s_goto (tgt := 14) X dX12_read_192 (by omega) ?_
            refine s_loc [0, 2, 1, 4, 5] rfl ?_
            exact ih15 _ _ _ _ _ (iter_next h hc14)
  exact LP16 _ _ _ _ _ _ hl21
set_option maxRecDepth 20000 in
set_option maxHeartbeats 4000000 in
theorem L_M_isRowWrong (G : Gl)  (m : Mem) (r : Int)  (h : M_isRowWrong  m = some r) : Con SHM G yX12_isRowWrong cX12_isRowWrong 5 (some .boolean) rm_X12_isRowWrong [VR 0] m (((.inl (some (VI r)), m) : Res × Mem)) := by
  refine con_of (own := "LastbusModel") (by decide) rfl (Nat.le_of_ble_eq_true rfl) (fun C X => ?_)
  obtain ⟨O, hO⟩ : ∃ O : Res × Mem, O = (((.inl (some (VI r)), m) : Res × Mem)) := ⟨_, rfl⟩
  rw [← hO]
  show J SHM G rm_X12_isRowWrong (.inl O) C 0 0 0 [(0, VR 0)] [] m
  unfold M_isRowWrong at h
  obtain ⟨g1, h⟩ := grd_some h
  refine s_load0 X 0 rfl dX12_isRowWrong_0 ?_
  refine s_getI X fk_X12_175 SHM_0 rfl dX12_isRowWrong_1 ?_
  refine s_const X (by unfold InR; omega) dX12_isRowWrong_4 ?_
  refine s_isub X g1 dX12_isRowWrong_5 ?_
  refine s_const X (by unfold InR; omega) dX12_isRowWrong_6 ?_
  refine s_idiv X (by omega) dX12_isRowWrong_7 ?_
  obtain ⟨many_, e2, h⟩ := ltv_elim h
  refine s_istore_n X e2 rfl (by omega) dX12_isRowWrong_8 ?_
  have kM4 : J SHM G rm_X12_isRowWrong (.inl O) C 0 0 33 [(1, VI many_), (0, VR 0)] [VI (if (m 0 6 ≤ m 31 0) ∨ (8 < many_) then 1 else 0)] m := by
    obtain ⟨is_, e10, h⟩ := ltv_elim h
    refine s_istore_n X e10 rfl (by omega) dX12_isRowWrong_33 ?_
    refine s_const X (by unfold InR; omega) dX12_isRowWrong_34 ?_
    obtain ⟨c_, e12, h⟩ := ltv_elim h
    refine s_istore_n X e12 rfl (by omega) dX12_isRowWrong_35 ?_
    obtain ⟨is_5, c_4, hl22, h⟩ := bq2_some h
    obtain ⟨fu130, hl23⟩ := loop_iter hl22
    have KX19 : ∀ q9 : Int × Int, q9 = (is_5, c_4) → J SHM G rm_X12_isRowWrong (.inl O) C 0 0 185 [(3, VI q9.2), (2, VI q9.1), (1, VI many_), (0, VR 0)] [] m := by
      intro q9 e9
      subst e9
      show J SHM G rm_X12_isRowWrong (.inl O) C 0 0 185 [(3, VI c_4), (2, VI is_5), (1, VI many_), (0, VR 0)] [] m
      obtain ⟨g62, h⟩ := grd_some h
      refine s_iload_n X 1 rfl dX12_isRowWrong_185 ?_
      exact s_zret X g62 (Nat.le_of_ble_eq_true rfl) (Nat.le_of_ble_eq_true rfl) (by cases h; exact hO) dX12_isRowWrong_186
    have LP18 : ∀ (fu13 : Nat) (is_2 : Int) (c_2 : Int), iter (fun s => M_isRowWrong_b1 m many_ s.1 s.2) fu13 (is_2, c_2) = some (is_5, c_4) → J SHM G rm_X12_isRowWrong (.inl O) C 0 0 36 [(3, VI c_2), (2, VI is_2), (1, VI many_), (0, VR 0)] [] m := by
      intro fu13
      induction fu13 with
      | zero => intro is_2 c_2 hn14; exact absurd hn14 (by simp [iter])
      | succ fu13 ih17 =>
        intro is_2 c_2 hn14
        obtain ⟨x15, h, hc16⟩ := iter_succ hn14
        replace h : M_isRowWrong_b1 m many_ is_2 c_2 = some x15 := h
        unfold M_isRowWrong_b1 at h
        have kF26 : ¬ ((c_2 < many_) ∧ (c_2 < 8)) → J SHM G rm_X12_isRowWrong (.inl O) C 0 0 185 [(3, VI c_2), (2, VI is_2), (1, VI many_), (0, VR 0)] [] m := by
          intro c29
          replace h := ite_neg h c29
          exact KX19 _ (iter_exit h hc16)
        refine s_iload_n X 0 rfl dX12_isRowWrong_36 ?_
        refine s_iload_n X 2 rfl dX12_isRowWrong_37 ?_
        refine s_icmpge_f (tgt := 185) X dX12_isRowWrong_38 (by omega) (fun c27 => ?_) (fun c28 => ?_)
        · exact kF26 (fun q => c27 q.1)
        · have a30 : c_2 < many_ := c28
          refine s_iload_n X 0 rfl dX12_isRowWrong_41 ?_
          refine s_bipush X (by omega) dX12_isRowWrong_42 ?_
          refine s_icmpge_f (tgt := 185) X dX12_isRowWrong_44 (by omega) (fun c31 => ?_) (fun c32 => ?_)
          · exact kF26 (fun q => c31 q.2)
          · replace h := ite_pos h ⟨a30, c32⟩
            obtain ⟨g33, h⟩ := grd_some h
            refine s_const X (by unfold InR; omega) dX12_isRowWrong_47 ?_
            refine s_const X (by unfold InR; omega) dX12_isRowWrong_48 ?_
            refine s_iload_n X 0 rfl dX12_isRowWrong_49 ?_
            refine s_imul X g33.1 dX12_isRowWrong_50 ?_
            refine s_iadd X g33.2 dX12_isRowWrong_51 ?_
            obtain ⟨at_, e34, h⟩ := ltv_elim h
            refine s_istore X e34 rfl (by omega) dX12_isRowWrong_52 ?_
            obtain ⟨g35, h⟩ := grd_some h
            refine s_iload_n X 2 rfl dX12_isRowWrong_54 ?_
            have kM36 : J SHM G rm_X12_isRowWrong (.inl O) C 0 0 125 [(4, VI at_), (3, VI c_2), (2, VI is_2), (1, VI many_), (0, VR 0)] [VI (if (((m 0 1 ≤ m 31 at_.toNat) ∨ (2879 < m 31 (at_ + 1).toNat)) ∨ (2879 < m 31 (at_ + 2).toNat)) ∨ (m 31 (at_ + 2).toNat < m 31 (at_ + 1).toNat) then 1 else 0), VI is_2] m := by
              refine s_ior X dX12_isRowWrong_125 ?_
              obtain ⟨is_3, e48, h⟩ := ltv_elim h
              refine s_istore_n X e48 rfl (by omega) dX12_isRowWrong_126 ?_
              obtain ⟨g49, h⟩ := grd_some h
              refine s_iload_n X 0 rfl dX12_isRowWrong_127 ?_
              have kM50 : J SHM G rm_X12_isRowWrong (.inl O) C 0 0 177 [(2, VI is_3), (4, VI at_), (3, VI c_2), (1, VI many_), (0, VR 0)] [VI (if (0 < c_2) ∧ ((m 31 (at_ + 1).toNat ≤ m 31 (at_ - 1).toNat) ∨ (m 31 at_.toNat = m 31 (at_ - 3).toNat)) then 1 else 0), VI is_3] m := by
                refine s_ior X dX12_isRowWrong_177 ?_
                obtain ⟨is_4, e59, h⟩ := ltv_elim h
                refine s_istore_n X e59 rfl (by omega) dX12_isRowWrong_178 ?_
                obtain ⟨g60, h⟩ := grd_some h
                obtain ⟨c_3, e61, h⟩ := ltv_elim h
                refine s_iinc X 2 rfl g60 e61 rfl (by omega) dX12_isRowWrong_179 ?_
                refine s_goto (tgt := 36) X dX12_isRowWrong_182 (by omega) ?_
                refine s_loc [0, 1, 3, 4] rfl ?_
                exact ih17 _ _ (iter_next h hc16)
              refine s_iload_n X 2 rfl dX12_isRowWrong_128 ?_
              refine s_ifle_f (tgt := 176) X dX12_isRowWrong_129 (by omega) (fun c51 => ?_) (fun c52 => ?_)
              · refine s_const X (by unfold InR; omega) dX12_isRowWrong_176 ?_
                exact s_eqt (if_neg (fun q => c51 q.1)) kM50
              · have a53 : 0 < c_2 := c52
                refine s_load0 X 4 rfl dX12_isRowWrong_132 ?_
                refine s_getR (id := 31) X fk_X12_111 SHM_0 rfl dX12_isRowWrong_133 ?_
                refine s_iload X 1 rfl dX12_isRowWrong_136 ?_
                refine s_const X (by unfold InR; omega) dX12_isRowWrong_138 ?_
                refine s_iadd X (g49.1 a53) dX12_isRowWrong_139 ?_
                refine s_iald X SHM_31 (g49.2.1 a53) (g49.2.2.1 a53) dX12_isRowWrong_140 ?_
                refine s_load0 X 4 rfl dX12_isRowWrong_141 ?_
                refine s_getR (id := 31) X fk_X12_111 SHM_0 rfl dX12_isRowWrong_142 ?_
                refine s_iload X 1 rfl dX12_isRowWrong_145 ?_
                refine s_const X (by unfold InR; omega) dX12_isRowWrong_147 ?_
                refine s_isub X (g49.2.2.2.1 a53) dX12_isRowWrong_148 ?_
                refine s_iald X SHM_31 (g49.2.2.2.2.1 a53) (g49.2.2.2.2.2.1 a53) dX12_isRowWrong_149 ?_
                refine s_icmple_t (tgt := 172) X dX12_isRowWrong_150 (by omega) (fun c54 => ?_) (fun c55 => ?_)
                · refine s_const X (by unfold InR; omega) dX12_isRowWrong_172 ?_
                  refine s_goto (tgt := 177) X dX12_isRowWrong_173 (by omega) ?_
                  exact s_eqt (if_pos ⟨a53, (Or.inl c54)⟩) kM50
                · have a56 : ¬ (m 31 (at_ + 1).toNat ≤ m 31 (at_ - 1).toNat) := c55
                  refine s_load0 X 4 rfl dX12_isRowWrong_153 ?_
                  refine s_getR (id := 31) X fk_X12_111 SHM_0 rfl dX12_isRowWrong_154 ?_
                  refine s_iload X 1 rfl dX12_isRowWrong_157 ?_
                  refine s_iald X SHM_31 (g49.2.2.2.2.2.2.1 a53 a56) (g49.2.2.2.2.2.2.2.1 a53 a56) dX12_isRowWrong_159 ?_
                  refine s_load0 X 4 rfl dX12_isRowWrong_160 ?_
                  refine s_getR (id := 31) X fk_X12_111 SHM_0 rfl dX12_isRowWrong_161 ?_
                  refine s_iload X 1 rfl dX12_isRowWrong_164 ?_
                  refine s_const X (by unfold InR; omega) dX12_isRowWrong_166 ?_
                  refine s_isub X (g49.2.2.2.2.2.2.2.2.1 a53 a56) dX12_isRowWrong_167 ?_
                  refine s_iald X SHM_31 (g49.2.2.2.2.2.2.2.2.2.1 a53 a56) (g49.2.2.2.2.2.2.2.2.2.2 a53 a56) dX12_isRowWrong_168 ?_
                  refine s_icmpne_f (tgt := 176) X dX12_isRowWrong_169 (by omega) (fun c57 => ?_) (fun c58 => ?_)
                  · refine s_const X (by unfold InR; omega) dX12_isRowWrong_176 ?_
                    exact s_eqt (if_neg (fun q => (fun q => q.elim a56 c57) q.2)) kM50
                  · refine s_const X (by unfold InR; omega) dX12_isRowWrong_172 ?_
                    refine s_goto (tgt := 177) X dX12_isRowWrong_173 (by omega) ?_
                    exact s_eqt (if_pos ⟨a53, (Or.inr c58)⟩) kM50
            refine s_load0 X 4 rfl dX12_isRowWrong_55 ?_
            refine s_getR (id := 31) X fk_X12_111 SHM_0 rfl dX12_isRowWrong_56 ?_
            refine s_iload X 0 rfl dX12_isRowWrong_59 ?_
            refine s_iald X SHM_31 g35.1 g35.2.1 dX12_isRowWrong_61 ?_
            refine s_load0 X 4 rfl dX12_isRowWrong_62 ?_
            refine s_getI X fk_X12_123 SHM_0 rfl dX12_isRowWrong_63 ?_
            refine s_icmpge_t (tgt := 120) X dX12_isRowWrong_66 (by omega) (fun c37 => ?_) (fun c38 => ?_)
            · refine s_const X (by unfold InR; omega) dX12_isRowWrong_120 ?_
              refine s_goto (tgt := 125) X dX12_isRowWrong_121 (by omega) ?_
              exact s_eqt (if_pos (Or.inl (Or.inl (Or.inl c37)))) kM36
            · have a39 : ¬ (m 0 1 ≤ m 31 at_.toNat) := c38
              refine s_load0 X 4 rfl dX12_isRowWrong_69 ?_
              refine s_getR (id := 31) X fk_X12_111 SHM_0 rfl dX12_isRowWrong_70 ?_
              refine s_iload X 0 rfl dX12_isRowWrong_73 ?_
              refine s_const X (by unfold InR; omega) dX12_isRowWrong_75 ?_
              refine s_iadd X (g35.2.2.1 a39) dX12_isRowWrong_76 ?_
              refine s_iald X SHM_31 (g35.2.2.2.1 a39) (g35.2.2.2.2.1 a39) dX12_isRowWrong_77 ?_
              refine s_sipush X (by omega) dX12_isRowWrong_78 ?_
              refine s_icmpgt_t (tgt := 120) X dX12_isRowWrong_81 (by omega) (fun c40 => ?_) (fun c41 => ?_)
              · refine s_const X (by unfold InR; omega) dX12_isRowWrong_120 ?_
                refine s_goto (tgt := 125) X dX12_isRowWrong_121 (by omega) ?_
                exact s_eqt (if_pos (Or.inl (Or.inl (Or.inr c40)))) kM36
              · have a42 : ¬ ((m 0 1 ≤ m 31 at_.toNat) ∨ (2879 < m 31 (at_ + 1).toNat)) := (fun q => q.elim a39 c41)
                refine s_load0 X 4 rfl dX12_isRowWrong_84 ?_
                refine s_getR (id := 31) X fk_X12_111 SHM_0 rfl dX12_isRowWrong_85 ?_
                refine s_iload X 0 rfl dX12_isRowWrong_88 ?_
                refine s_const X (by unfold InR; omega) dX12_isRowWrong_90 ?_
                refine s_iadd X (g35.2.2.2.2.2.1 a42) dX12_isRowWrong_91 ?_
                refine s_iald X SHM_31 (g35.2.2.2.2.2.2.1 a42) (g35.2.2.2.2.2.2.2.1 a42) dX12_isRowWrong_92 ?_
                refine s_sipush X (by omega) dX12_isRowWrong_93 ?_
                refine s_icmpgt_t (tgt := 120) X dX12_isRowWrong_96 (by omega) (fun c43 => ?_) (fun c44 => ?_)
                · refine s_const X (by unfold InR; omega) dX12_isRowWrong_120 ?_
                  refine s_goto (tgt := 125) X dX12_isRowWrong_121 (by omega) ?_
                  exact s_eqt (if_pos (Or.inl (Or.inr c43))) kM36
                · have a45 : ¬ (((m 0 1 ≤ m 31 at_.toNat) ∨ (2879 < m 31 (at_ + 1).toNat)) ∨ (2879 < m 31 (at_ + 2).toNat)) := (fun q => q.elim a42 c44)
                  refine s_load0 X 4 rfl dX12_isRowWrong_99 ?_
                  refine s_getR (id := 31) X fk_X12_111 SHM_0 rfl dX12_isRowWrong_100 ?_
                  refine s_iload X 0 rfl dX12_isRowWrong_103 ?_
                  refine s_const X (by unfold InR; omega) dX12_isRowWrong_105 ?_
                  refine s_iadd X (g35.2.2.2.2.2.2.2.2.1 a45) dX12_isRowWrong_106 ?_
                  refine s_iald X SHM_31 (g35.2.2.2.2.2.2.2.2.2.1 a45) (g35.2.2.2.2.2.2.2.2.2.2.1 a45) dX12_isRowWrong_107 ?_
                  refine s_load0 X 4 rfl dX12_isRowWrong_108 ?_
                  refine s_getR (id := 31) X fk_X12_111 SHM_0 rfl dX12_isRowWrong_109 ?_
                  refine s_iload X 0 rfl dX12_isRowWrong_112 ?_
                  refine s_const X (by unfold InR; omega) dX12_isRowWrong_114 ?_
                  refine s_iadd X (g35.2.2.2.2.2.2.2.2.2.2.2.1 a45) dX12_isRowWrong_115 ?_
                  refine s_iald X SHM_31 (g35.2.2.2.2.2.2.2.2.2.2.2.2.1 a45) (g35.2.2.2.2.2.2.2.2.2.2.2.2.2 a45) dX12_isRowWrong_116 ?_
                  refine s_icmpge_f (tgt := 124) X dX12_isRowWrong_117 (by omega) (fun c46 => ?_) (fun c47 => ?_)
                  · refine s_const X (by unfold InR; omega) dX12_isRowWrong_124 ?_
                    exact s_eqt (if_neg (fun q => q.elim a45 c46)) kM36
                  · refine s_const X (by unfold InR; omega) dX12_isRowWrong_120 ?_
                    refine s_goto (tgt := 125) X dX12_isRowWrong_121 (by omega) ?_
                    exact s_eqt (if_pos (Or.inr c47)) kM36
    exact LP18 _ _ _ hl23
  refine s_load0 X 1 rfl dX12_isRowWrong_9 ?_
  refine s_getR (id := 31) X fk_X12_111 SHM_0 rfl dX12_isRowWrong_10 ?_
  refine s_const X (by unfold InR; omega) dX12_isRowWrong_13 ?_
  refine s_iald X SHM_31 (by omega) (by omega) dX12_isRowWrong_14 ?_
  refine s_load0 X 1 rfl dX12_isRowWrong_15 ?_
  refine s_getI X fk_X12_134 SHM_0 rfl dX12_isRowWrong_16 ?_
  refine s_icmpge_t (tgt := 28) X dX12_isRowWrong_19 (by omega) (fun c5 => ?_) (fun c6 => ?_)
  · refine s_const X (by unfold InR; omega) dX12_isRowWrong_28 ?_
    refine s_goto (tgt := 33) X dX12_isRowWrong_29 (by omega) ?_
    exact s_eqt (if_pos (Or.inl c5)) kM4
  · have a7 : ¬ (m 0 6 ≤ m 31 0) := c6
    refine s_iload_n X 0 rfl dX12_isRowWrong_22 ?_
    refine s_bipush X (by omega) dX12_isRowWrong_23 ?_
    refine s_icmple_f (tgt := 32) X dX12_isRowWrong_25 (by omega) (fun c8 => ?_) (fun c9 => ?_)
    · refine s_const X (by unfold InR; omega) dX12_isRowWrong_32 ?_
      exact s_eqt (if_neg (fun q => q.elim a7 c8)) kM4
    · refine s_const X (by unfold InR; omega) dX12_isRowWrong_28 ?_
      refine s_goto (tgt := 33) X dX12_isRowWrong_29 (by omega) ?_
      exact s_eqt (if_pos (Or.inr c9)) kM4
set_option maxRecDepth 20000 in
set_option maxHeartbeats 4000000 in
theorem L_M_readRow (G : Gl)  (m : Mem) (r : (Int × Mem))  (h : M_readRow  m = some r) : Con SHM G yX12_readRow cX12_readRow 5 (some .int) rm_X12_readRow [VR 0] m (((.inl (some (VI r.1)), r.2) : Res × Mem)) := by
  refine con_of (own := "LastbusModel") (by decide) rfl (Nat.le_of_ble_eq_true rfl) (fun C X => ?_)
  obtain ⟨O, hO⟩ : ∃ O : Res × Mem, O = (((.inl (some (VI r.1)), r.2) : Res × Mem)) := ⟨_, rfl⟩
  rw [← hO]
  show J SHM G rm_X12_readRow (.inl O) C 0 0 0 [(0, VR 0)] [] m
  unfold M_readRow at h
  refine s_load0 X 0 rfl dX12_readRow_0 ?_
  obtain ⟨r_, m_, hq2, h⟩ := bq2_some h
  refine s_callV (As := []) X cw_X12_180 SHM_0 rfl dX12_readRow_1 (L_M_read G m (r_, m_) hq2) rfl ⟨Nat.le_of_ble_eq_true rfl, Nat.le_of_ble_eq_true rfl⟩ ⟨Nat.le_of_ble_eq_true rfl, Nat.le_of_ble_eq_true rfl⟩ (Nat.le_of_ble_eq_true rfl) noT (kkR ?_)
  obtain ⟨place_, e5, h⟩ := ltv_elim h
  refine s_istore_n X e5 rfl (by omega) dX12_readRow_4 ?_
  obtain ⟨kj_, hk6, h⟩ := ltv_elim h
  have K7 : ∀ (m_2 : Mem), kj_ m_2 = some r → J SHM G rm_X12_readRow (.inl O) C 0 0 15 [(1, VI place_), (0, VR 0)] [] m_2 := by
    intro m_2 h
    subst hk6
    dsimp only at h
    refine s_load0 X 1 rfl dX12_readRow_15 ?_
    have kM16 : J SHM G rm_X12_readRow (.inl O) C 0 0 26 [(1, VI place_), (0, VR 0)] [VI (if ¬ place_ = (-1) then 1 else 0), VR 0] m_2 := by
      refine s_const X (by unfold InR; omega) dX12_readRow_26 ?_
      obtain ⟨r_2, m_4, hq19, h⟩ := bq2_some h
      refine s_callV (As := [VI (if ¬ place_ = (-1) then 1 else 0), VI 1]) X cw_X12_130 SHM_0 rfl dX12_readRow_27 (L_M_isThrown G (if ¬ place_ = (-1) then 1 else 0) 1 m_2 (r_2, m_4) hq19) rfl ⟨Nat.le_of_ble_eq_true rfl, Nat.le_of_ble_eq_true rfl⟩ ⟨Nat.le_of_ble_eq_true rfl, Nat.le_of_ble_eq_true rfl⟩ (Nat.le_of_ble_eq_true rfl) noT (kkR ?_)
      refine s_ifne_t (tgt := 67) X dX12_readRow_30 (by omega) (fun c22 => ?_) (fun c23 => ?_)
      · replace h := ite_pos h c22
        refine s_const X (by unfold InR; omega) dX12_readRow_67 ?_
        exact s_iret X (Nat.le_of_ble_eq_true rfl) (Nat.le_of_ble_eq_true rfl) (by cases h; exact hO) dX12_readRow_68
      · replace h := ite_neg h c23
        refine s_load0 X 1 rfl dX12_readRow_33 ?_
        refine s_load0 X 1 rfl dX12_readRow_34 ?_
        obtain ⟨r_3, hq26, h⟩ := bnd_some h
        refine s_callV (As := []) X cw_X12_184 SHM_0 rfl dX12_readRow_35 (L_M_isRowWrong G m_4 r_3 hq26) rfl ⟨Nat.le_of_ble_eq_true rfl, Nat.le_of_ble_eq_true rfl⟩ ⟨Nat.le_of_ble_eq_true rfl, Nat.le_of_ble_eq_true rfl⟩ (Nat.le_of_ble_eq_true rfl) noT (kkR ?_)
        refine s_const X (by unfold InR; omega) dX12_readRow_38 ?_
        obtain ⟨r_4, m_5, hq29, h⟩ := bq2_some h
        refine s_callV (As := [VI r_3, VI 2]) X cw_X12_130 SHM_0 rfl dX12_readRow_39 (L_M_isThrown G r_3 2 m_4 (r_4, m_5) hq29) rfl ⟨Nat.le_of_ble_eq_true rfl, Nat.le_of_ble_eq_true rfl⟩ ⟨Nat.le_of_ble_eq_true rfl, Nat.le_of_ble_eq_true rfl⟩ (Nat.le_of_ble_eq_true rfl) noT (kkR ?_)
        refine s_ifne_t (tgt := 67) X dX12_readRow_42 (by omega) (fun c32 => ?_) (fun c33 => ?_)
        · replace h := ite_pos h c32
          refine s_const X (by unfold InR; omega) dX12_readRow_67 ?_
          exact s_iret X (Nat.le_of_ble_eq_true rfl) (Nat.le_of_ble_eq_true rfl) (by cases h; exact hO) dX12_readRow_68
        · replace h := ite_neg h c33
          refine s_load0 X 1 rfl dX12_readRow_45 ?_
          have kM36 : J SHM G rm_X12_readRow (.inl O) C 0 0 60 [(1, VI place_), (0, VR 0)] [VI (if m_5 0 8 = 24 then 1 else 0), VR 0] m_5 := by
            refine s_const X (by unfold InR; omega) dX12_readRow_60 ?_
            obtain ⟨r_5, m_6, hq39, h⟩ := bq2_some h
            refine s_callV (As := [VI (if m_5 0 8 = 24 then 1 else 0), VI 3]) X cw_X12_130 SHM_0 rfl dX12_readRow_61 (L_M_isThrown G (if m_5 0 8 = 24 then 1 else 0) 3 m_5 (r_5, m_6) hq39) rfl ⟨Nat.le_of_ble_eq_true rfl, Nat.le_of_ble_eq_true rfl⟩ ⟨Nat.le_of_ble_eq_true rfl, Nat.le_of_ble_eq_true rfl⟩ (Nat.le_of_ble_eq_true rfl) noT (kkR ?_)
            refine s_ifeq_f (tgt := 69) X dX12_readRow_64 (by omega) (fun c42 => ?_) (fun c43 => ?_)
            · replace h := ite_neg h c42
              refine s_load0 X 1 rfl dX12_readRow_69 ?_
              refine s_load0 X 1 rfl dX12_readRow_70 ?_
              refine s_getR (id := 31) X fk_X12_111 SHM_0 rfl dX12_readRow_71 ?_
              refine s_const X (by unfold InR; omega) dX12_readRow_74 ?_
              refine s_iald X SHM_31 (by omega) (by omega) dX12_readRow_75 ?_
              refine s_load0 X 1 rfl dX12_readRow_76 ?_
              refine s_getR (id := 31) X fk_X12_111 SHM_0 rfl dX12_readRow_77 ?_
              refine s_const X (by unfold InR; omega) dX12_readRow_80 ?_
              refine s_iald X SHM_31 (by omega) (by omega) dX12_readRow_81 ?_
              refine s_load0 X 1 rfl dX12_readRow_82 ?_
              refine s_getR (id := 31) X fk_X12_111 SHM_0 rfl dX12_readRow_83 ?_
              refine s_const X (by unfold InR; omega) dX12_readRow_86 ?_
              refine s_iald X SHM_31 (by omega) (by omega) dX12_readRow_87 ?_
              obtain ⟨r_6, m_7, hq45, h⟩ := bq2_some h
              refine s_callV (As := [VI (m_6 31 0), VI (m_6 31 1), VI (m_6 31 2)]) X cw_X12_158 SHM_0 rfl dX12_readRow_88 (L_M_added G (m_6 31 0) (m_6 31 1) (m_6 31 2) m_6 (r_6, m_7) hq45) rfl ⟨Nat.le_of_ble_eq_true rfl, Nat.le_of_ble_eq_true rfl⟩ ⟨Nat.le_of_ble_eq_true rfl, Nat.le_of_ble_eq_true rfl⟩ (Nat.le_of_ble_eq_true rfl) noT (kkR ?_)
              obtain ⟨trip_, e48, h⟩ := ltv_elim h
              refine s_istore_n X e48 rfl (by omega) dX12_readRow_91 ?_
              refine s_const X (by unfold InR; omega) dX12_readRow_92 ?_
              obtain ⟨at_, e50, h⟩ := ltv_elim h
              refine s_istore_n X e50 rfl (by omega) dX12_readRow_93 ?_
              obtain ⟨at_4, m_13, hl60, h⟩ := bq2_some h
              obtain ⟨fu510, hl61⟩ := loop_iter hl60
              have KX57 : ∀ q9 : Int × Mem, q9 = (at_4, m_13) → J SHM G rm_X12_readRow (.inl O) C 0 0 174 [(3, VI q9.1), (2, VI trip_), (1, VI place_), (0, VR 0)] [] (q9.2) := by
                intro q9 e9
                subst e9
                show J SHM G rm_X12_readRow (.inl O) C 0 0 174 [(3, VI at_4), (2, VI trip_), (1, VI place_), (0, VR 0)] [] m_13
                refine s_load0 X 3 rfl dX12_readRow_174 ?_
                refine s_const X (by unfold InR; omega) dX12_readRow_175 ?_
                obtain ⟨m_14, e80, h⟩ := ltv_elim h
                refine s_putI X e80 fp_X12_172 SHM_0 rfl trivial dX12_readRow_176 ?_
                refine s_iload_n X 1 rfl dX12_readRow_179 ?_
                exact s_iret X (Nat.le_of_ble_eq_true rfl) (Nat.le_of_ble_eq_true rfl) (by cases h; exact hO) dX12_readRow_180
              have LP56 : ∀ (fu51 : Nat) (at_2 : Int) (m_8 : Mem), iter (fun s => M_readRow_b1 trip_ s.1 s.2) fu51 (at_2, m_8) = some (at_4, m_13) → J SHM G rm_X12_readRow (.inl O) C 0 0 94 [(3, VI at_2), (2, VI trip_), (1, VI place_), (0, VR 0)] [] m_8 := by
                intro fu51
                induction fu51 with
                | zero => intro at_2 m_8 hn52; exact absurd hn52 (by simp [iter])
                | succ fu51 ih55 =>
                  intro at_2 m_8 hn52
                  obtain ⟨x53, h, hc54⟩ := iter_succ hn52
                  replace h : M_readRow_b1 trip_ at_2 m_8 = some x53 := h
                  unfold M_readRow_b1 at h
                  refine s_iload_n X 0 rfl dX12_readRow_94 ?_
                  refine s_load0 X 3 rfl dX12_readRow_95 ?_
                  refine s_getI X fk_X12_175 SHM_0 rfl dX12_readRow_96 ?_
                  refine s_icmpge_f (tgt := 174) X dX12_readRow_99 (by omega) (fun c65 => ?_) (fun c66 => ?_)
                  · replace h := ite_neg h c65
                    exact KX57 _ (iter_exit h hc54)
                  · replace h := ite_pos h c66
                    obtain ⟨g67, h⟩ := grd_some h
                    refine s_bipush X (by omega) dX12_readRow_102 ?_
                    refine s_iload_n X 1 rfl dX12_readRow_104 ?_
                    refine s_imul X g67.1 dX12_readRow_105 ?_
                    refine s_load0 X 3 rfl dX12_readRow_106 ?_
                    refine s_getR (id := 6) X fk_X12_30 SHM_0 rfl dX12_readRow_107 ?_
                    refine s_iload_n X 1 rfl dX12_readRow_110 ?_
                    refine s_iald X SHM_6 g67.2.1 g67.2.2.1 dX12_readRow_111 ?_
                    refine s_iadd X g67.2.2.2 dX12_readRow_112 ?_
                    obtain ⟨call_, e68, h⟩ := ltv_elim h
                    refine s_istore X e68 rfl (by omega) dX12_readRow_113 ?_
                    obtain ⟨g69, h⟩ := grd_some h
                    refine s_load0 X 4 rfl dX12_readRow_115 ?_
                    refine s_getR (id := 7) X fk_X12_33 SHM_0 rfl dX12_readRow_116 ?_
                    refine s_iload X 0 rfl dX12_readRow_119 ?_
                    refine s_load0 X 4 rfl dX12_readRow_121 ?_
                    refine s_getR (id := 31) X fk_X12_111 SHM_0 rfl dX12_readRow_122 ?_
                    refine s_iload_n X 1 rfl dX12_readRow_125 ?_
                    refine s_iald X SHM_31 g69.2.2.1 g69.2.2.2 dX12_readRow_126 ?_
                    obtain ⟨m_9, e70, h⟩ := ltv_elim h
                    refine s_iast X e70 SHM_7 g69.1 g69.2.1 dX12_readRow_127 ?_
                    obtain ⟨g71, h⟩ := grd_some h
                    refine s_load0 X 4 rfl dX12_readRow_128 ?_
                    refine s_getR (id := 8) X fk_X12_36 SHM_0 rfl dX12_readRow_129 ?_
                    refine s_iload X 0 rfl dX12_readRow_132 ?_
                    refine s_load0 X 4 rfl dX12_readRow_134 ?_
                    refine s_getR (id := 31) X fk_X12_111 SHM_0 rfl dX12_readRow_135 ?_
                    refine s_iload_n X 1 rfl dX12_readRow_138 ?_
                    refine s_const X (by unfold InR; omega) dX12_readRow_139 ?_
                    refine s_iadd X g71.1 dX12_readRow_140 ?_
                    refine s_iald X SHM_31 g71.2.1 g71.2.2 dX12_readRow_141 ?_
                    obtain ⟨m_10, e72, h⟩ := ltv_elim h
                    refine s_iast X e72 SHM_8 g69.1 g69.2.1 dX12_readRow_142 ?_
                    obtain ⟨g73, h⟩ := grd_some h
                    refine s_load0 X 4 rfl dX12_readRow_143 ?_
                    refine s_getR (id := 9) X fk_X12_39 SHM_0 rfl dX12_readRow_144 ?_
                    refine s_iload X 0 rfl dX12_readRow_147 ?_
                    refine s_load0 X 4 rfl dX12_readRow_149 ?_
                    refine s_getR (id := 31) X fk_X12_111 SHM_0 rfl dX12_readRow_150 ?_
                    refine s_iload_n X 1 rfl dX12_readRow_153 ?_
                    refine s_const X (by unfold InR; omega) dX12_readRow_154 ?_
                    refine s_iadd X g73.1 dX12_readRow_155 ?_
                    refine s_iald X SHM_31 g73.2.1 g73.2.2 dX12_readRow_156 ?_
                    obtain ⟨m_11, e74, h⟩ := ltv_elim h
                    refine s_iast X e74 SHM_9 g69.1 g69.2.1 dX12_readRow_157 ?_
                    obtain ⟨g75, h⟩ := grd_some h
                    refine s_load0 X 4 rfl dX12_readRow_158 ?_
                    refine s_getR (id := 6) X fk_X12_30 SHM_0 rfl dX12_readRow_159 ?_
                    refine s_iload_n X 2 rfl dX12_readRow_162 ?_
                    refine s_dup2 X rfl rfl dX12_readRow_163 ?_
                    refine s_iald X SHM_6 g67.2.1 g67.2.2.1 dX12_readRow_164 ?_
                    refine s_const X (by unfold InR; omega) dX12_readRow_165 ?_
                    refine s_iadd X g75 dX12_readRow_166 ?_
                    obtain ⟨m_12, e76, h⟩ := ltv_elim h
                    refine s_iast X e76 SHM_6 g67.2.1 g67.2.2.1 dX12_readRow_167 ?_
                    obtain ⟨g77, h⟩ := grd_some h
                    obtain ⟨at_3, e78, h⟩ := ltv_elim h
                    refine s_iinc X 1 rfl g77 e78 rfl (by omega) dX12_readRow_168 ?_
                    refine s_goto (tgt := 94) X dX12_readRow_171 (by omega) ?_
                    refine s_loc [0, 2, 3, 4] rfl ?_
                    exact ih55 _ _ (iter_next h hc54)
              exact LP56 _ _ _ hl61
            · replace h := ite_pos h c43
              refine s_const X (by unfold InR; omega) dX12_readRow_67 ?_
              exact s_iret X (Nat.le_of_ble_eq_true rfl) (Nat.le_of_ble_eq_true rfl) (by cases h; exact hO) dX12_readRow_68
          refine s_load0 X 1 rfl dX12_readRow_46 ?_
          refine s_getI X fk_X12_137 SHM_0 rfl dX12_readRow_47 ?_
          refine s_bipush X (by omega) dX12_readRow_50 ?_
          refine s_icmpne_f (tgt := 59) X dX12_readRow_52 (by omega) (fun c37 => ?_) (fun c38 => ?_)
          · refine s_const X (by unfold InR; omega) dX12_readRow_59 ?_
            exact s_eqt (if_neg c37) kM36
          · refine s_const X (by unfold InR; omega) dX12_readRow_55 ?_
            refine s_goto (tgt := 60) X dX12_readRow_56 (by omega) ?_
            exact s_eqt (if_pos c38) kM36
    refine s_iload_n X 0 rfl dX12_readRow_16 ?_
    refine s_const X (by unfold InR; omega) dX12_readRow_17 ?_
    refine s_icmpeq_f (tgt := 25) X dX12_readRow_18 (by omega) (fun c17 => ?_) (fun c18 => ?_)
    · refine s_const X (by unfold InR; omega) dX12_readRow_25 ?_
      exact s_eqt (if_neg c17) kM16
    · refine s_const X (by unfold InR; omega) dX12_readRow_21 ?_
      refine s_goto (tgt := 26) X dX12_readRow_22 (by omega) ?_
      exact s_eqt (if_pos c18) kM16
  refine s_iload_n X 0 rfl dX12_readRow_5 ?_
  refine s_const X (by unfold InR; omega) dX12_readRow_6 ?_
  refine s_icmpeq_f (tgt := 15) X dX12_readRow_7 (by omega) (fun c11 => ?_) (fun c12 => ?_)
  · replace h := ite_neg h c11
    exact s_kn rfl rfl (K7 _ h)
  · replace h := ite_pos h c12
    refine s_load0 X 1 rfl dX12_readRow_10 ?_
    refine s_iload_n X 0 rfl dX12_readRow_11 ?_
    obtain ⟨m_3, e14, h⟩ := ltv_elim h
    refine s_putI X e14 fp_X12_57 SHM_0 rfl trivial dX12_readRow_12 ?_
    exact s_kn rfl rfl (K7 _ h)
set_option maxRecDepth 20000 in
set_option maxHeartbeats 4000000 in
theorem L_M_faultAt (G : Gl)  (m : Mem) (r : (Int × Mem))  (h : M_faultAt  m = some r) : Con SHM G yX12_faultAt cX12_faultAt 1 (some .int) rm_X12_faultAt [VR 0] m (((.inl (some (VI r.1)), r.2) : Res × Mem)) := by
  refine con_of (own := "LastbusModel") (by decide) rfl (Nat.le_of_ble_eq_true rfl) (fun C X => ?_)
  obtain ⟨O, hO⟩ : ∃ O : Res × Mem, O = (((.inl (some (VI r.1)), r.2) : Res × Mem)) := ⟨_, rfl⟩
  rw [← hO]
  show J SHM G rm_X12_faultAt (.inl O) C 0 0 0 [(0, VR 0)] [] m
  unfold M_faultAt at h
  refine s_load0 X 0 rfl dX12_faultAt_0 ?_
  have kM2 : J SHM G rm_X12_faultAt (.inl O) C 0 0 14 [(0, VR 0)] [VI (if m 0 21 = (-1) then 1 else 0), VR 0] m := by
    refine s_const X (by unfold InR; omega) dX12_faultAt_14 ?_
    obtain ⟨r_, m_, hq5, h⟩ := bq2_some h
    refine s_callV (As := [VI (if m 0 21 = (-1) then 1 else 0), VI 1]) X cw_X12_130 SHM_0 rfl dX12_faultAt_15 (L_M_isThrown G (if m 0 21 = (-1) then 1 else 0) 1 m (r_, m_) hq5) rfl ⟨Nat.le_of_ble_eq_true rfl, Nat.le_of_ble_eq_true rfl⟩ ⟨Nat.le_of_ble_eq_true rfl, Nat.le_of_ble_eq_true rfl⟩ (Nat.le_of_ble_eq_true rfl) noT (kkR ?_)
    refine s_ifeq_f (tgt := 25) X dX12_faultAt_18 (by omega) (fun c8 => ?_) (fun c9 => ?_)
    · replace h := ite_neg h c8
      refine s_load0 X 0 rfl dX12_faultAt_25 ?_
      refine s_getI X fk_X12_57 SHM_0 rfl dX12_faultAt_26 ?_
      exact s_iret X (Nat.le_of_ble_eq_true rfl) (Nat.le_of_ble_eq_true rfl) (by cases h; exact hO) dX12_faultAt_29
    · replace h := ite_pos h c9
      refine s_const X (by unfold InR; omega) dX12_faultAt_21 ?_
      refine s_goto (tgt := 29) X dX12_faultAt_22 (by omega) ?_
      exact s_iret X (Nat.le_of_ble_eq_true rfl) (Nat.le_of_ble_eq_true rfl) (by cases h; exact hO) dX12_faultAt_29
  refine s_load0 X 0 rfl dX12_faultAt_1 ?_
  refine s_getI X fk_X12_57 SHM_0 rfl dX12_faultAt_2 ?_
  refine s_const X (by unfold InR; omega) dX12_faultAt_5 ?_
  refine s_icmpne_f (tgt := 13) X dX12_faultAt_6 (by omega) (fun c3 => ?_) (fun c4 => ?_)
  · refine s_const X (by unfold InR; omega) dX12_faultAt_13 ?_
    exact s_eqt (if_neg c3) kM2
  · refine s_const X (by unfold InR; omega) dX12_faultAt_9 ?_
    refine s_goto (tgt := 14) X dX12_faultAt_10 (by omega) ?_
    exact s_eqt (if_pos c4) kM2
set_option maxRecDepth 20000 in
set_option maxHeartbeats 4000000 in
theorem L_M_lateAt (G : Gl) (day_ : Int) (trip_ : Int) (m : Mem) (r : Int)  (h : M_lateAt day_ trip_ m = some r) : Con SHM G yX12_lateAt cX12_lateAt 5 (some .int) rm_X12_lateAt [VR 0, VI day_, VI trip_] m (((.inl (some (VI r)), m) : Res × Mem)) := by
  refine con_of (own := "LastbusModel") (by decide) rfl (Nat.le_of_ble_eq_true rfl) (fun C X => ?_)
  obtain ⟨O, hO⟩ : ∃ O : Res × Mem, O = (((.inl (some (VI r)), m) : Res × Mem)) := ⟨_, rfl⟩
  rw [← hO]
  show J SHM G rm_X12_lateAt (.inl O) C 0 0 0 [(0, VR 0), (1, VI day_), (2, VI trip_)] [] m
  unfold M_lateAt at h
  refine s_const X (by unfold InR; omega) dX12_lateAt_0 ?_
  obtain ⟨at_, e2, h⟩ := ltv_elim h
  refine s_istore_n X e2 rfl (by omega) dX12_lateAt_1 ?_
  refine s_const X (by unfold InR; omega) dX12_lateAt_2 ?_
  obtain ⟨k_, e4, h⟩ := ltv_elim h
  refine s_istore X e4 rfl (by omega) dX12_lateAt_3 ?_
  obtain ⟨at_4, k_4, hl14, h⟩ := bq2_some h
  obtain ⟨fu50, hl15⟩ := loop_iter hl14
  have KX11 : ∀ q9 : Int × Int, q9 = (at_4, k_4) → J SHM G rm_X12_lateAt (.inl O) C 0 0 49 [(4, VI q9.2), (3, VI q9.1), (0, VR 0), (1, VI day_), (2, VI trip_)] [] m := by
    intro q9 e9
    subst e9
    show J SHM G rm_X12_lateAt (.inl O) C 0 0 49 [(4, VI k_4), (3, VI at_4), (0, VR 0), (1, VI day_), (2, VI trip_)] [] m
    refine s_iload_n X 1 rfl dX12_lateAt_49 ?_
    exact s_iret X (Nat.le_of_ble_eq_true rfl) (Nat.le_of_ble_eq_true rfl) (by cases h; exact hO) dX12_lateAt_50
  have LP10 : ∀ (fu5 : Nat) (at_2 : Int) (k_2 : Int), iter (fun s => M_lateAt_b1 day_ trip_ m s.1 s.2) fu5 (at_2, k_2) = some (at_4, k_4) → J SHM G rm_X12_lateAt (.inl O) C 0 0 5 [(4, VI k_2), (3, VI at_2), (0, VR 0), (1, VI day_), (2, VI trip_)] [] m := by
    intro fu5
    induction fu5 with
    | zero => intro at_2 k_2 hn6; exact absurd hn6 (by simp [iter])
    | succ fu5 ih9 =>
      intro at_2 k_2 hn6
      obtain ⟨x7, h, hc8⟩ := iter_succ hn6
      replace h : M_lateAt_b1 day_ trip_ m at_2 k_2 = some x7 := h
      unfold M_lateAt_b1 at h
      refine s_iload X 0 rfl dX12_lateAt_5 ?_
      refine s_load0 X 2 rfl dX12_lateAt_7 ?_
      refine s_getI X fk_X12_188 SHM_0 rfl dX12_lateAt_8 ?_
      refine s_icmpge_f (tgt := 49) X dX12_lateAt_11 (by omega) (fun c19 => ?_) (fun c20 => ?_)
      · replace h := ite_neg h c19
        exact KX11 _ (iter_exit h hc8)
      · replace h := ite_pos h c20
        obtain ⟨g21, h⟩ := grd_some h
        have kM22 : J SHM G rm_X12_lateAt (.inl O) C 0 0 42 [(4, VI k_2), (3, VI at_2), (0, VR 0), (1, VI day_), (2, VI trip_)] [VI (if (m 10 k_2.toNat = day_) ∧ (m 11 k_2.toNat = trip_) then k_2 else at_2)] m := by
          obtain ⟨at_3, e28, h⟩ := ltv_elim h
          refine s_istore_n X e28 rfl (by omega) dX12_lateAt_42 ?_
          obtain ⟨g29, h⟩ := grd_some h
          obtain ⟨k_3, e30, h⟩ := ltv_elim h
          refine s_iinc X 1 rfl g29 e30 rfl (by omega) dX12_lateAt_43 ?_
          refine s_goto (tgt := 5) X dX12_lateAt_46 (by omega) ?_
          exact ih9 _ _ (iter_next h hc8)
        refine s_load0 X 2 rfl dX12_lateAt_14 ?_
        refine s_getR (id := 10) X fk_X12_42 SHM_0 rfl dX12_lateAt_15 ?_
        refine s_iload X 0 rfl dX12_lateAt_18 ?_
        refine s_iald X SHM_10 g21.1 g21.2 dX12_lateAt_20 ?_
        refine s_iload_n X 3 rfl dX12_lateAt_21 ?_
        refine s_icmpne_f (tgt := 41) X dX12_lateAt_22 (by omega) (fun c23 => ?_) (fun c24 => ?_)
        · refine s_iload_n X 1 rfl dX12_lateAt_41 ?_
          exact s_eqt (if_neg (fun q => c23 q.1)) kM22
        · have a25 : m 10 k_2.toNat = day_ := c24
          refine s_load0 X 2 rfl dX12_lateAt_25 ?_
          refine s_getR (id := 11) X fk_X12_45 SHM_0 rfl dX12_lateAt_26 ?_
          refine s_iload X 0 rfl dX12_lateAt_29 ?_
          refine s_iald X SHM_11 g21.1 g21.2 dX12_lateAt_31 ?_
          refine s_iload_n X 4 rfl dX12_lateAt_32 ?_
          refine s_icmpne_f (tgt := 41) X dX12_lateAt_33 (by omega) (fun c26 => ?_) (fun c27 => ?_)
          · refine s_iload_n X 1 rfl dX12_lateAt_41 ?_
            exact s_eqt (if_neg (fun q => c26 q.2)) kM22
          · refine s_iload X 0 rfl dX12_lateAt_36 ?_
            refine s_goto (tgt := 42) X dX12_lateAt_38 (by omega) ?_
            exact s_eqt (if_pos ⟨a25, c27⟩) kM22
  exact LP10 _ _ _ hl15
set_option maxRecDepth 20000 in
set_option maxHeartbeats 4000000 in
theorem L_M_late (G : Gl) (day_ : Int) (trip_ : Int) (call_ : Int) (minutes_ : Int) (m : Mem) (r : (Int × Mem))  (h : M_late day_ trip_ call_ minutes_ m = some r) : Con SHM G yX12_late cX12_late 7 (some .int) rm_X12_late [VR 0, VI day_, VI trip_, VI call_, VI minutes_] m (((.inl (some (VI r.1)), r.2) : Res × Mem)) := by
  refine con_of (own := "LastbusModel") (by decide) rfl (Nat.le_of_ble_eq_true rfl) (fun C X => ?_)
  obtain ⟨O, hO⟩ : ∃ O : Res × Mem, O = (((.inl (some (VI r.1)), r.2) : Res × Mem)) := ⟨_, rfl⟩
  rw [← hO]
  show J SHM G rm_X12_late (.inl O) C 0 0 0 [(0, VR 0), (1, VI day_), (2, VI trip_), (3, VI call_), (4, VI minutes_)] [] m
  unfold M_late at h
  refine s_load0 X 0 rfl dX12_late_0 ?_
  refine s_iload_n X 2 rfl dX12_late_1 ?_
  refine s_iload_n X 3 rfl dX12_late_2 ?_
  obtain ⟨r_, m_, hq2, h⟩ := bq2_some h
  refine s_callV (As := [VI trip_, VI call_]) X cw_X12_162 SHM_0 rfl dX12_late_3 (L_M_isNoCall G trip_ call_ m (r_, m_) hq2) rfl ⟨Nat.le_of_ble_eq_true rfl, Nat.le_of_ble_eq_true rfl⟩ ⟨Nat.le_of_ble_eq_true rfl, Nat.le_of_ble_eq_true rfl⟩ (Nat.le_of_ble_eq_true rfl) noT (kkR ?_)
  refine s_ifne_t (tgt := 43) X dX12_late_6 (by omega) (fun c5 => ?_) (fun c6 => ?_)
  · replace h := ite_pos h c5
    refine s_const X (by unfold InR; omega) dX12_late_43 ?_
    exact s_iret X (Nat.le_of_ble_eq_true rfl) (Nat.le_of_ble_eq_true rfl) (by cases h; exact hO) dX12_late_44
  · replace h := ite_neg h c6
    refine s_load0 X 0 rfl dX12_late_9 ?_
    have kM9 : J SHM G rm_X12_late (.inl O) C 0 0 36 [(0, VR 0), (1, VI day_), (2, VI trip_), (3, VI call_), (4, VI minutes_)] [VI (if (M_isIn day_ 0 27 = 0) ∨ (M_isIn minutes_ 0 120 = 0) then 1 else 0), VR 0] m_ := by
      refine s_const X (by unfold InR; omega) dX12_late_36 ?_
      obtain ⟨r_2, m_2, hq15, h⟩ := bq2_some h
      refine s_callV (As := [VI (if (M_isIn day_ 0 27 = 0) ∨ (M_isIn minutes_ 0 120 = 0) then 1 else 0), VI 2]) X cw_X12_130 SHM_0 rfl dX12_late_37 (L_M_isThrown G (if (M_isIn day_ 0 27 = 0) ∨ (M_isIn minutes_ 0 120 = 0) then 1 else 0) 2 m_ (r_2, m_2) hq15) rfl ⟨Nat.le_of_ble_eq_true rfl, Nat.le_of_ble_eq_true rfl⟩ ⟨Nat.le_of_ble_eq_true rfl, Nat.le_of_ble_eq_true rfl⟩ (Nat.le_of_ble_eq_true rfl) noT (kkR ?_)
      refine s_ifeq_f (tgt := 45) X dX12_late_40 (by omega) (fun c18 => ?_) (fun c19 => ?_)
      · replace h := ite_neg h c18
        refine s_load0 X 0 rfl dX12_late_45 ?_
        refine s_iload_n X 1 rfl dX12_late_46 ?_
        refine s_iload_n X 2 rfl dX12_late_47 ?_
        obtain ⟨r_3, hq21, h⟩ := bnd_some h
        refine s_callV (As := [VI day_, VI trip_]) X cw_X12_191 SHM_0 rfl dX12_late_48 (L_M_lateAt G day_ trip_ m_2 r_3 hq21) rfl ⟨Nat.le_of_ble_eq_true rfl, Nat.le_of_ble_eq_true rfl⟩ ⟨Nat.le_of_ble_eq_true rfl, Nat.le_of_ble_eq_true rfl⟩ (Nat.le_of_ble_eq_true rfl) noT (kkR ?_)
        obtain ⟨at_, e24, h⟩ := ltv_elim h
        refine s_istore X e24 rfl (by omega) dX12_late_51 ?_
        refine s_load0 X 1 rfl dX12_late_53 ?_
        have kM26 : J SHM G rm_X12_late (.inl O) C 0 0 79 [(5, VI at_), (0, VR 0), (1, VI day_), (2, VI trip_), (3, VI call_), (4, VI minutes_)] [VI (if ((at_ = (-1)) ∧ (m_2 0 14 = 12)) ∧ (¬ minutes_ = 0) then 1 else 0), VR 0] m_2 := by
          refine s_const X (by unfold InR; omega) dX12_late_79 ?_
          obtain ⟨r_4, m_3, hq35, h⟩ := bq2_some h
          refine s_callV (As := [VI (if ((at_ = (-1)) ∧ (m_2 0 14 = 12)) ∧ (¬ minutes_ = 0) then 1 else 0), VI 3]) X cw_X12_130 SHM_0 rfl dX12_late_80 (L_M_isThrown G (if ((at_ = (-1)) ∧ (m_2 0 14 = 12)) ∧ (¬ minutes_ = 0) then 1 else 0) 3 m_2 (r_4, m_3) hq35) rfl ⟨Nat.le_of_ble_eq_true rfl, Nat.le_of_ble_eq_true rfl⟩ ⟨Nat.le_of_ble_eq_true rfl, Nat.le_of_ble_eq_true rfl⟩ (Nat.le_of_ble_eq_true rfl) noT (kkR ?_)
          refine s_ifeq_f (tgt := 88) X dX12_late_83 (by omega) (fun c38 => ?_) (fun c39 => ?_)
          · replace h := ite_neg h c38
            obtain ⟨g40, h⟩ := grd_some h
            have kM41 : J SHM G rm_X12_late (.inl O) C 0 0 105 [(5, VI at_), (0, VR 0), (1, VI day_), (2, VI trip_), (3, VI call_), (4, VI minutes_)] [VI (if at_ = (-1) then 0 else m_3 13 at_.toNat)] m_3 := by
              obtain ⟨had_, e44, h⟩ := ltv_elim h
              refine s_istore X e44 rfl (by omega) dX12_late_105 ?_
              refine s_iload X 6 rfl dX12_late_107 ?_
              refine s_ifne_f (tgt := 195) X dX12_late_109 (by omega) (fun c48 => ?_) (fun c49 => ?_)
              · replace h := ite_neg h c48
                obtain ⟨kj_, hk50, h⟩ := ltv_elim h
                have K51 : ∀ (at_2 : Int) (m_4 : Mem), kj_ at_2 m_4 = some r → J SHM G rm_X12_late (.inl O) C 0 0 217 [(6, VI had_), (5, VI at_2), (0, VR 0), (1, VI day_), (2, VI trip_), (3, VI call_), (4, VI minutes_)] [] m_4 := by
                  intro at_2 m_4 h
                  subst hk50
                  dsimp only at h
                  obtain ⟨g61, h⟩ := grd_some h
                  refine s_load0 X 2 rfl dX12_late_217 ?_
                  refine s_getR (id := 10) X fk_X12_42 SHM_0 rfl dX12_late_218 ?_
                  refine s_iload X 1 rfl dX12_late_221 ?_
                  refine s_iload_n X 3 rfl dX12_late_223 ?_
                  obtain ⟨m_6, e62, h⟩ := ltv_elim h
                  refine s_iast X e62 SHM_10 g61.1 g61.2 dX12_late_224 ?_
                  refine s_load0 X 2 rfl dX12_late_225 ?_
                  refine s_getR (id := 11) X fk_X12_45 SHM_0 rfl dX12_late_226 ?_
                  refine s_iload X 1 rfl dX12_late_229 ?_
                  refine s_iload_n X 4 rfl dX12_late_231 ?_
                  obtain ⟨m_7, e64, h⟩ := ltv_elim h
                  refine s_iast X e64 SHM_11 g61.1 g61.2 dX12_late_232 ?_
                  refine s_load0 X 2 rfl dX12_late_233 ?_
                  refine s_getR (id := 12) X fk_X12_48 SHM_0 rfl dX12_late_234 ?_
                  refine s_iload X 1 rfl dX12_late_237 ?_
                  refine s_iload_n X 5 rfl dX12_late_239 ?_
                  obtain ⟨m_8, e66, h⟩ := ltv_elim h
                  refine s_iast X e66 SHM_12 g61.1 g61.2 dX12_late_240 ?_
                  refine s_load0 X 2 rfl dX12_late_241 ?_
                  refine s_getR (id := 13) X fk_X12_51 SHM_0 rfl dX12_late_242 ?_
                  refine s_iload X 1 rfl dX12_late_245 ?_
                  refine s_iload X 6 rfl dX12_late_247 ?_
                  obtain ⟨m_9, e68, h⟩ := ltv_elim h
                  refine s_iast X e68 SHM_13 g61.1 g61.2 dX12_late_249 ?_
                  refine s_iload X 0 rfl dX12_late_250 ?_
                  exact s_iret X (Nat.le_of_ble_eq_true rfl) (Nat.le_of_ble_eq_true rfl) (by cases h; exact hO) dX12_late_252
                refine s_iload X 1 rfl dX12_late_195 ?_
                refine s_const X (by unfold InR; omega) dX12_late_197 ?_
                refine s_icmpne_f (tgt := 217) X dX12_late_198 (by omega) (fun c55 => ?_) (fun c56 => ?_)
                · replace h := ite_neg h c55
                  exact s_kn rfl rfl (K51 _ _ h)
                · replace h := ite_pos h c56
                  refine s_load0 X 2 rfl dX12_late_201 ?_
                  refine s_getI X fk_X12_188 SHM_0 rfl dX12_late_202 ?_
                  obtain ⟨at_3, e58, h⟩ := ltv_elim h
                  refine s_istore X e58 rfl (by omega) dX12_late_205 ?_
                  obtain ⟨g59, h⟩ := grd_some h
                  refine s_load0 X 2 rfl dX12_late_207 ?_
                  refine s_dup X rfl dX12_late_208 ?_
                  refine s_getI X fk_X12_188 SHM_0 rfl dX12_late_209 ?_
                  refine s_const X (by unfold InR; omega) dX12_late_212 ?_
                  refine s_iadd X g59 dX12_late_213 ?_
                  obtain ⟨m_5, e60, h⟩ := ltv_elim h
                  refine s_putI X e60 fp_X12_188 SHM_0 rfl trivial dX12_late_214 ?_
                  refine s_loc [1, 0, 2, 3, 4, 5, 6] rfl ?_
                  exact s_kn rfl rfl (K51 _ _ h)
              · replace h := ite_pos h c49
                obtain ⟨kj_2, hk70, h⟩ := ltv_elim h
                have K71 : ∀ (m_10 : Mem), kj_2 m_10 = some r → J SHM G rm_X12_late (.inl O) C 0 0 192 [(6, VI had_), (5, VI at_), (0, VR 0), (1, VI day_), (2, VI trip_), (3, VI call_), (4, VI minutes_)] [] m_10 := by
                  intro m_10 h
                  subst hk70
                  dsimp only at h
                  refine s_iload X 0 rfl dX12_late_192 ?_
                  exact s_iret X (Nat.le_of_ble_eq_true rfl) (Nat.le_of_ble_eq_true rfl) (by cases h; exact hO) dX12_late_194
                refine s_iload X 1 rfl dX12_late_112 ?_
                refine s_const X (by unfold InR; omega) dX12_late_114 ?_
                refine s_icmpeq_f (tgt := 192) X dX12_late_115 (by omega) (fun c75 => ?_) (fun c76 => ?_)
                · replace h := ite_neg h c75
                  exact s_kn rfl rfl (K71 _ h)
                · replace h := ite_pos h c76
                  obtain ⟨g77, h⟩ := grd_some h
                  refine s_load0 X 2 rfl dX12_late_118 ?_
                  refine s_dup X rfl dX12_late_119 ?_
                  refine s_getI X fk_X12_188 SHM_0 rfl dX12_late_120 ?_
                  refine s_const X (by unfold InR; omega) dX12_late_123 ?_
                  refine s_isub X g77 dX12_late_124 ?_
                  obtain ⟨m_11, e78, h⟩ := ltv_elim h
                  refine s_putI X e78 fp_X12_188 SHM_0 rfl trivial dX12_late_125 ?_
                  obtain ⟨g79, h⟩ := grd_some h
                  refine s_load0 X 2 rfl dX12_late_128 ?_
                  refine s_getR (id := 10) X fk_X12_42 SHM_0 rfl dX12_late_129 ?_
                  refine s_iload X 1 rfl dX12_late_132 ?_
                  refine s_load0 X 2 rfl dX12_late_134 ?_
                  refine s_getR (id := 10) X fk_X12_42 SHM_0 rfl dX12_late_135 ?_
                  refine s_load0 X 2 rfl dX12_late_138 ?_
                  refine s_getI X fk_X12_188 SHM_0 rfl dX12_late_139 ?_
                  refine s_iald X SHM_10 g79.2.2.1 g79.2.2.2 dX12_late_142 ?_
                  obtain ⟨m_12, e80, h⟩ := ltv_elim h
                  refine s_iast X e80 SHM_10 g79.1 g79.2.1 dX12_late_143 ?_
                  obtain ⟨g81, h⟩ := grd_some h
                  refine s_load0 X 2 rfl dX12_late_144 ?_
                  refine s_getR (id := 11) X fk_X12_45 SHM_0 rfl dX12_late_145 ?_
                  refine s_iload X 1 rfl dX12_late_148 ?_
                  refine s_load0 X 2 rfl dX12_late_150 ?_
                  refine s_getR (id := 11) X fk_X12_45 SHM_0 rfl dX12_late_151 ?_
                  refine s_load0 X 2 rfl dX12_late_154 ?_
                  refine s_getI X fk_X12_188 SHM_0 rfl dX12_late_155 ?_
                  refine s_iald X SHM_11 g81.1 g81.2 dX12_late_158 ?_
                  obtain ⟨m_13, e82, h⟩ := ltv_elim h
                  refine s_iast X e82 SHM_11 g79.1 g79.2.1 dX12_late_159 ?_
                  obtain ⟨g83, h⟩ := grd_some h
                  refine s_load0 X 2 rfl dX12_late_160 ?_
                  refine s_getR (id := 12) X fk_X12_48 SHM_0 rfl dX12_late_161 ?_
                  refine s_iload X 1 rfl dX12_late_164 ?_
                  refine s_load0 X 2 rfl dX12_late_166 ?_
                  refine s_getR (id := 12) X fk_X12_48 SHM_0 rfl dX12_late_167 ?_
                  refine s_load0 X 2 rfl dX12_late_170 ?_
                  refine s_getI X fk_X12_188 SHM_0 rfl dX12_late_171 ?_
                  refine s_iald X SHM_12 g83.1 g83.2 dX12_late_174 ?_
                  obtain ⟨m_14, e84, h⟩ := ltv_elim h
                  refine s_iast X e84 SHM_12 g79.1 g79.2.1 dX12_late_175 ?_
                  obtain ⟨g85, h⟩ := grd_some h
                  refine s_load0 X 2 rfl dX12_late_176 ?_
                  refine s_getR (id := 13) X fk_X12_51 SHM_0 rfl dX12_late_177 ?_
                  refine s_iload X 1 rfl dX12_late_180 ?_
                  refine s_load0 X 2 rfl dX12_late_182 ?_
                  refine s_getR (id := 13) X fk_X12_51 SHM_0 rfl dX12_late_183 ?_
                  refine s_load0 X 2 rfl dX12_late_186 ?_
                  refine s_getI X fk_X12_188 SHM_0 rfl dX12_late_187 ?_
                  refine s_iald X SHM_13 g85.1 g85.2 dX12_late_190 ?_
                  obtain ⟨m_15, e86, h⟩ := ltv_elim h
                  refine s_iast X e86 SHM_13 g79.1 g79.2.1 dX12_late_191 ?_
                  exact s_kn rfl rfl (K71 _ h)
            refine s_iload X 0 rfl dX12_late_88 ?_
            refine s_const X (by unfold InR; omega) dX12_late_90 ?_
            refine s_icmpne_f (tgt := 98) X dX12_late_91 (by omega) (fun c42 => ?_) (fun c43 => ?_)
            · refine s_load0 X 1 rfl dX12_late_98 ?_
              refine s_getR (id := 13) X fk_X12_51 SHM_0 rfl dX12_late_99 ?_
              refine s_iload X 0 rfl dX12_late_102 ?_
              refine s_iald X SHM_13 (g40.1 c42) (g40.2 c42) dX12_late_104 ?_
              exact s_eqt (if_neg c42) kM41
            · refine s_const X (by unfold InR; omega) dX12_late_94 ?_
              refine s_goto (tgt := 105) X dX12_late_95 (by omega) ?_
              exact s_eqt (if_pos c43) kM41
          · replace h := ite_pos h c39
            refine s_const X (by unfold InR; omega) dX12_late_86 ?_
            exact s_iret X (Nat.le_of_ble_eq_true rfl) (Nat.le_of_ble_eq_true rfl) (by cases h; exact hO) dX12_late_87
        refine s_iload X 0 rfl dX12_late_54 ?_
        refine s_const X (by unfold InR; omega) dX12_late_56 ?_
        refine s_icmpne_f (tgt := 78) X dX12_late_57 (by omega) (fun c27 => ?_) (fun c28 => ?_)
        · refine s_const X (by unfold InR; omega) dX12_late_78 ?_
          exact s_eqt (if_neg (fun q => (fun q => c27 q.1) q.1)) kM26
        · have a29 : at_ = (-1) := c28
          refine s_load0 X 1 rfl dX12_late_60 ?_
          refine s_getI X fk_X12_188 SHM_0 rfl dX12_late_61 ?_
          refine s_bipush X (by omega) dX12_late_64 ?_
          refine s_icmpne_f (tgt := 78) X dX12_late_66 (by omega) (fun c30 => ?_) (fun c31 => ?_)
          · refine s_const X (by unfold InR; omega) dX12_late_78 ?_
            exact s_eqt (if_neg (fun q => (fun q => c30 q.2) q.1)) kM26
          · have a32 : (at_ = (-1)) ∧ (m_2 0 14 = 12) := ⟨a29, c31⟩
            refine s_iload X 5 rfl dX12_late_69 ?_
            refine s_ifeq_f (tgt := 78) X dX12_late_71 (by omega) (fun c33 => ?_) (fun c34 => ?_)
            · refine s_const X (by unfold InR; omega) dX12_late_78 ?_
              exact s_eqt (if_neg (fun q => c33 q.2)) kM26
            · refine s_const X (by unfold InR; omega) dX12_late_74 ?_
              refine s_goto (tgt := 79) X dX12_late_75 (by omega) ?_
              exact s_eqt (if_pos ⟨a32, c34⟩) kM26
      · replace h := ite_pos h c19
        refine s_const X (by unfold InR; omega) dX12_late_43 ?_
        exact s_iret X (Nat.le_of_ble_eq_true rfl) (Nat.le_of_ble_eq_true rfl) (by cases h; exact hO) dX12_late_44
    refine s_iload_n X 1 rfl dX12_late_10 ?_
    refine s_const X (by unfold InR; omega) dX12_late_11 ?_
    refine s_bipush X (by omega) dX12_late_12 ?_
    refine s_callS (As := [VI day_, VI 0, VI 27]) X cw_X12_126 dX12_late_14 (L_M_isIn G day_ 0 27 m_) rfl ⟨Nat.le_of_ble_eq_true rfl, Nat.le_of_ble_eq_true rfl⟩ ⟨Nat.le_of_ble_eq_true rfl, Nat.le_of_ble_eq_true rfl⟩ (Nat.le_of_ble_eq_true rfl) noT (kkR ?_)
    refine s_ifeq_t (tgt := 31) X dX12_late_17 (by omega) (fun c10 => ?_) (fun c11 => ?_)
    · refine s_const X (by unfold InR; omega) dX12_late_31 ?_
      refine s_goto (tgt := 36) X dX12_late_32 (by omega) ?_
      exact s_eqt (if_pos (Or.inl c10)) kM9
    · have a12 : ¬ (M_isIn day_ 0 27 = 0) := c11
      refine s_iload X 4 rfl dX12_late_20 ?_
      refine s_const X (by unfold InR; omega) dX12_late_22 ?_
      refine s_bipush X (by omega) dX12_late_23 ?_
      refine s_callS (As := [VI minutes_, VI 0, VI 120]) X cw_X12_126 dX12_late_25 (L_M_isIn G minutes_ 0 120 m_) rfl ⟨Nat.le_of_ble_eq_true rfl, Nat.le_of_ble_eq_true rfl⟩ ⟨Nat.le_of_ble_eq_true rfl, Nat.le_of_ble_eq_true rfl⟩ (Nat.le_of_ble_eq_true rfl) noT (kkR ?_)
      refine s_ifne_f (tgt := 35) X dX12_late_28 (by omega) (fun c13 => ?_) (fun c14 => ?_)
      · refine s_const X (by unfold InR; omega) dX12_late_35 ?_
        exact s_eqt (if_neg (fun q => q.elim a12 c13)) kM9
      · refine s_const X (by unfold InR; omega) dX12_late_31 ?_
        refine s_goto (tgt := 36) X dX12_late_32 (by omega) ?_
        exact s_eqt (if_pos (Or.inr c14)) kM9
