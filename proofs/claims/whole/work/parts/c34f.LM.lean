/-! ===== printed by a program out of the Java source and the decode rows: 34f.LM ===== -/
set_option maxRecDepth 20000 in
set_option maxHeartbeats 4000000 in
theorem L_M_lost (G : Gl) (stop_ : Int) (day_ : Int) (m : Mem) (r : (Int × Mem))  (h : M_lost stop_ day_ m = some r) : Con SHM G yX12_lost cX12_lost 3 (some .int) rm_X12_lost [VR 0, VI stop_, VI day_] m (((.inl (some (VI r.1)), r.2) : Res × Mem)) := by
  refine con_of (own := "LastbusModel") (by decide) rfl (Nat.le_of_ble_eq_true rfl) (fun C X => ?_)
  obtain ⟨O, hO⟩ : ∃ O : Res × Mem, O = (((.inl (some (VI r.1)), r.2) : Res × Mem)) := ⟨_, rfl⟩
  rw [← hO]
  show J SHM G rm_X12_lost (.inl O) C 0 0 0 [(0, VR 0), (1, VI stop_), (2, VI day_)] [] m
  unfold M_lost at h
  refine s_load0 X 0 rfl dX12_lost_0 ?_
  refine s_iload_n X 1 rfl dX12_lost_1 ?_
  obtain ⟨r_, m_, hq2, h⟩ := bq2_some h
  refine s_callV (As := [VI stop_]) X cw_X12_147 SHM_0 rfl dX12_lost_2 (L_M_isNoStop G stop_ m (r_, m_) hq2) rfl ⟨Nat.le_of_ble_eq_true rfl, Nat.le_of_ble_eq_true rfl⟩ ⟨Nat.le_of_ble_eq_true rfl, Nat.le_of_ble_eq_true rfl⟩ (Nat.le_of_ble_eq_true rfl) noT (kkR ?_)
  refine s_ifne_t (tgt := 17) X dX12_lost_5 (by omega) (fun c5 => ?_) (fun c6 => ?_)
  · replace h := ite_pos h c5
    refine s_const X (by unfold InR; omega) dX12_lost_17 ?_
    refine s_goto (tgt := 27) X dX12_lost_18 (by omega) ?_
    exact s_iret X (Nat.le_of_ble_eq_true rfl) (Nat.le_of_ble_eq_true rfl) (by cases h; exact hO) dX12_lost_27
  · replace h := ite_neg h c6
    refine s_load0 X 0 rfl dX12_lost_8 ?_
    refine s_iload_n X 2 rfl dX12_lost_9 ?_
    refine s_const X (by unfold InR; omega) dX12_lost_10 ?_
    obtain ⟨r_2, m_2, hq9, h⟩ := bq2_some h
    refine s_callV (As := [VI day_, VI 2]) X cw_X12_154 SHM_0 rfl dX12_lost_11 (L_M_isNoDay G day_ 2 m_ (r_2, m_2) hq9) rfl ⟨Nat.le_of_ble_eq_true rfl, Nat.le_of_ble_eq_true rfl⟩ ⟨Nat.le_of_ble_eq_true rfl, Nat.le_of_ble_eq_true rfl⟩ (Nat.le_of_ble_eq_true rfl) noT (kkR ?_)
    refine s_ifeq_f (tgt := 21) X dX12_lost_14 (by omega) (fun c12 => ?_) (fun c13 => ?_)
    · replace h := ite_neg h c12
      refine s_load0 X 0 rfl dX12_lost_21 ?_
      refine s_iload_n X 1 rfl dX12_lost_22 ?_
      refine s_iload_n X 2 rfl dX12_lost_23 ?_
      obtain ⟨r_3, m_3, hq15, h⟩ := bq2_some h
      refine s_callV (As := [VI stop_, VI day_]) X cw_X12_312 SHM_0 rfl dX12_lost_24 (L_M_lostBy G stop_ day_ m_2 (r_3, m_3) hq15) rfl ⟨Nat.le_of_ble_eq_true rfl, Nat.le_of_ble_eq_true rfl⟩ ⟨Nat.le_of_ble_eq_true rfl, Nat.le_of_ble_eq_true rfl⟩ (Nat.le_of_ble_eq_true rfl) noT (kkR ?_)
      exact s_iret X (Nat.le_of_ble_eq_true rfl) (Nat.le_of_ble_eq_true rfl) (by cases h; exact hO) dX12_lost_27
    · replace h := ite_pos h c13
      refine s_const X (by unfold InR; omega) dX12_lost_17 ?_
      refine s_goto (tgt := 27) X dX12_lost_18 (by omega) ?_
      exact s_iret X (Nat.le_of_ble_eq_true rfl) (Nat.le_of_ble_eq_true rfl) (by cases h; exact hO) dX12_lost_27
set_option maxRecDepth 20000 in
set_option maxHeartbeats 4000000 in
theorem L_M_bridges (G : Gl) (day_ : Int) (m : Mem) (r : (Int × Mem))  (h : M_bridges day_ m = some r) : Con SHM G yX12_bridges cX12_bridges 4 (some .int) rm_X12_bridges [VR 0, VI day_] m (((.inl (some (VI r.1)), r.2) : Res × Mem)) := by
  refine con_of (own := "LastbusModel") (by decide) rfl (Nat.le_of_ble_eq_true rfl) (fun C X => ?_)
  obtain ⟨O, hO⟩ : ∃ O : Res × Mem, O = (((.inl (some (VI r.1)), r.2) : Res × Mem)) := ⟨_, rfl⟩
  rw [← hO]
  show J SHM G rm_X12_bridges (.inl O) C 0 0 0 [(0, VR 0), (1, VI day_)] [] m
  unfold M_bridges at h
  refine s_load0 X 0 rfl dX12_bridges_0 ?_
  refine s_iload_n X 1 rfl dX12_bridges_1 ?_
  refine s_const X (by unfold InR; omega) dX12_bridges_2 ?_
  obtain ⟨r_, m_, hq2, h⟩ := bq2_some h
  refine s_callV (As := [VI day_, VI 1]) X cw_X12_154 SHM_0 rfl dX12_bridges_3 (L_M_isNoDay G day_ 1 m (r_, m_) hq2) rfl ⟨Nat.le_of_ble_eq_true rfl, Nat.le_of_ble_eq_true rfl⟩ ⟨Nat.le_of_ble_eq_true rfl, Nat.le_of_ble_eq_true rfl⟩ (Nat.le_of_ble_eq_true rfl) noT (kkR ?_)
  refine s_ifeq_f (tgt := 11) X dX12_bridges_6 (by omega) (fun c5 => ?_) (fun c6 => ?_)
  · replace h := ite_neg h c5
    refine s_const X (by unfold InR; omega) dX12_bridges_11 ?_
    obtain ⟨set_, e8, h⟩ := ltv_elim h
    refine s_istore_n X e8 rfl (by omega) dX12_bridges_12 ?_
    refine s_const X (by unfold InR; omega) dX12_bridges_13 ?_
    obtain ⟨v_, e10, h⟩ := ltv_elim h
    refine s_istore_n X e10 rfl (by omega) dX12_bridges_14 ?_
    obtain ⟨set_4, v_5, m_5, hl20, h⟩ := bq3_some h
    obtain ⟨fu110, hl21⟩ := loop_iter hl20
    have KX17 : ∀ q9 : Int × Int × Mem, q9 = (set_4, v_5, m_5) → J SHM G rm_X12_bridges (.inl O) C 0 0 48 [(3, VI q9.2.1), (2, VI q9.1), (0, VR 0), (1, VI day_)] [] (q9.2.2) := by
      intro q9 e9
      subst e9
      show J SHM G rm_X12_bridges (.inl O) C 0 0 48 [(3, VI v_5), (2, VI set_4), (0, VR 0), (1, VI day_)] [] m_5
      refine s_iload_n X 1 rfl dX12_bridges_48 ?_
      exact s_iret X (Nat.le_of_ble_eq_true rfl) (Nat.le_of_ble_eq_true rfl) (by cases h; exact hO) dX12_bridges_49
    have LP16 : ∀ (fu11 : Nat) (set_2 : Int) (v_2 : Int) (m_2 : Mem), iter (fun s => M_bridges_b1 day_ s.1 s.2.1 s.2.2) fu11 (set_2, v_2, m_2) = some (set_4, v_5, m_5) → J SHM G rm_X12_bridges (.inl O) C 0 0 15 [(3, VI v_2), (2, VI set_2), (0, VR 0), (1, VI day_)] [] m_2 := by
      intro fu11
      induction fu11 with
      | zero => intro set_2 v_2 m_2 hn12; exact absurd hn12 (by simp [iter])
      | succ fu11 ih15 =>
        intro set_2 v_2 m_2 hn12
        obtain ⟨x13, h, hc14⟩ := iter_succ hn12
        replace h : M_bridges_b1 day_ set_2 v_2 m_2 = some x13 := h
        unfold M_bridges_b1 at h
        refine s_iload_n X 0 rfl dX12_bridges_15 ?_
        refine s_load0 X 2 rfl dX12_bridges_16 ?_
        refine s_getI X fk_X12_123 SHM_0 rfl dX12_bridges_17 ?_
        refine s_icmpge_f (tgt := 48) X dX12_bridges_20 (by omega) (fun c25 => ?_) (fun c26 => ?_)
        · replace h := ite_neg h c25
          exact KX17 _ (iter_exit h hc14)
        · replace h := ite_pos h c26
          refine s_iload_n X 1 rfl dX12_bridges_23 ?_
          obtain ⟨kj_, hk28, h⟩ := ltv_elim h
          have K29 : ∀ (v_3 : Int) (m_3 : Mem), kj_ v_3 m_3 = some x13 → J SHM G rm_X12_bridges (.inl O) C 0 0 40 [(3, VI v_2), (2, VI set_2), (0, VR 0), (1, VI day_)] [VI v_3, VI set_2] m_3 := by
            intro v_3 m_3 h
            subst hk28
            dsimp only at h
            refine s_ior X dX12_bridges_40 ?_
            obtain ⟨set_3, e38, h⟩ := ltv_elim h
            refine s_istore_n X e38 rfl (by omega) dX12_bridges_41 ?_
            obtain ⟨g39, h⟩ := grd_some h
            obtain ⟨v_4, e40, h⟩ := ltv_elim h
            refine s_iinc X 1 rfl g39 e40 rfl (by omega) dX12_bridges_42 ?_
            refine s_goto (tgt := 15) X dX12_bridges_45 (by omega) ?_
            exact ih15 _ _ _ (iter_next h hc14)
          refine s_load0 X 2 rfl dX12_bridges_24 ?_
          refine s_iload_n X 0 rfl dX12_bridges_25 ?_
          refine s_iload_n X 3 rfl dX12_bridges_26 ?_
          obtain ⟨r_2, m_4, hq30, h⟩ := bq2_some h
          refine s_callV (As := [VI v_2, VI day_]) X cw_X12_312 SHM_0 rfl dX12_bridges_27 (L_M_lostBy G v_2 day_ m_2 (r_2, m_4) hq30) rfl ⟨Nat.le_of_ble_eq_true rfl, Nat.le_of_ble_eq_true rfl⟩ ⟨Nat.le_of_ble_eq_true rfl, Nat.le_of_ble_eq_true rfl⟩ (Nat.le_of_ble_eq_true rfl) noT (kkR ?_)
          refine s_ifle_f (tgt := 39) X dX12_bridges_30 (by omega) (fun c33 => ?_) (fun c34 => ?_)
          · replace h := ite_neg h c33
            refine s_const X (by unfold InR; omega) dX12_bridges_39 ?_
            exact s_kn rfl rfl (K29 _ _ h)
          · replace h := ite_pos h c34
            refine s_const X (by unfold InR; omega) dX12_bridges_33 ?_
            refine s_iload_n X 0 rfl dX12_bridges_34 ?_
            refine s_ishl X dX12_bridges_35 ?_
            refine s_goto (tgt := 40) X dX12_bridges_36 (by omega) ?_
            exact s_kn rfl rfl (K29 _ _ h)
    exact LP16 _ _ _ _ hl21
  · replace h := ite_pos h c6
    refine s_const X (by unfold InR; omega) dX12_bridges_9 ?_
    exact s_iret X (Nat.le_of_ble_eq_true rfl) (Nat.le_of_ble_eq_true rfl) (by cases h; exact hO) dX12_bridges_10
set_option maxRecDepth 20000 in
set_option maxHeartbeats 4000000 in
theorem L_M_endStop (G : Gl) (trip_ : Int) (m : Mem) (r : Int)  (h : M_endStop trip_ m = some r) : Con SHM G yX12_endStop cX12_endStop 2 (some .int) rm_X12_endStop [VR 0, VI trip_] m (((.inl (some (VI r)), m) : Res × Mem)) := by
  refine con_of (own := "LastbusModel") (by decide) rfl (Nat.le_of_ble_eq_true rfl) (fun C X => ?_)
  obtain ⟨O, hO⟩ : ∃ O : Res × Mem, O = (((.inl (some (VI r)), m) : Res × Mem)) := ⟨_, rfl⟩
  rw [← hO]
  show J SHM G rm_X12_endStop (.inl O) C 0 0 0 [(0, VR 0), (1, VI trip_)] [] m
  unfold M_endStop at h
  obtain ⟨g1, h⟩ := grd_some h
  refine s_load0 X 0 rfl dX12_endStop_0 ?_
  refine s_getR (id := 7) X fk_X12_33 SHM_0 rfl dX12_endStop_1 ?_
  refine s_bipush X (by omega) dX12_endStop_4 ?_
  refine s_iload_n X 1 rfl dX12_endStop_6 ?_
  refine s_imul X g1.1 dX12_endStop_7 ?_
  refine s_load0 X 0 rfl dX12_endStop_8 ?_
  refine s_getR (id := 6) X fk_X12_30 SHM_0 rfl dX12_endStop_9 ?_
  refine s_iload_n X 1 rfl dX12_endStop_12 ?_
  refine s_iald X SHM_6 g1.2.1 g1.2.2.1 dX12_endStop_13 ?_
  refine s_iadd X g1.2.2.2.1 dX12_endStop_14 ?_
  refine s_const X (by unfold InR; omega) dX12_endStop_15 ?_
  refine s_isub X g1.2.2.2.2.1 dX12_endStop_16 ?_
  refine s_iald X SHM_7 g1.2.2.2.2.2.1 g1.2.2.2.2.2.2 dX12_endStop_17 ?_
  exact s_iret X (Nat.le_of_ble_eq_true rfl) (Nat.le_of_ble_eq_true rfl) (by cases h; exact hO) dX12_endStop_18
set_option maxRecDepth 20000 in
set_option maxHeartbeats 4000000 in
theorem L_M_put (G : Gl) (sorted_ : Nat) (many_ : Int) (time_ : Int) (m : Mem) (r : (Int × Mem)) (hsorted_ : isArr SHM sorted_) (h : M_put sorted_ many_ time_ m = some r) : Con SHM G yX12_put cX12_put 4 (some .int) rm_X12_put [VR sorted_, VI many_, VI time_] m (((.inl (some (VI r.1)), r.2) : Res × Mem)) := by
  refine con_of (own := "LastbusModel") (by decide) rfl (Nat.le_of_ble_eq_true rfl) (fun C X => ?_)
  obtain ⟨O, hO⟩ : ∃ O : Res × Mem, O = (((.inl (some (VI r.1)), r.2) : Res × Mem)) := ⟨_, rfl⟩
  rw [← hO]
  show J SHM G rm_X12_put (.inl O) C 0 0 0 [(0, VR sorted_), (1, VI many_), (2, VI time_)] [] m
  unfold M_put at h
  refine s_iload_n X 1 rfl dX12_put_0 ?_
  obtain ⟨at_, e2, h⟩ := ltv_elim h
  refine s_istore_n X e2 rfl (by omega) dX12_put_1 ?_
  obtain ⟨at_4, m_3, hl12, h⟩ := bq2_some h
  obtain ⟨fu30, hl13⟩ := loop_iter hl12
  have KX9 : ∀ q9 : Int × Mem, q9 = (at_4, m_3) → J SHM G rm_X12_put (.inl O) C 0 0 29 [(3, VI q9.1), (0, VR sorted_), (1, VI many_), (2, VI time_)] [] (q9.2) := by
    intro q9 e9
    subst e9
    show J SHM G rm_X12_put (.inl O) C 0 0 29 [(3, VI at_4), (0, VR sorted_), (1, VI many_), (2, VI time_)] [] m_3
    obtain ⟨g27, h⟩ := grd_some h
    refine s_load0 X 1 rfl dX12_put_29 ?_
    refine s_iload_n X 0 rfl dX12_put_30 ?_
    refine s_iload_n X 3 rfl dX12_put_31 ?_
    obtain ⟨m_4, e28, h⟩ := ltv_elim h
    refine s_iast X e28 (isArr_sh hsorted_) g27.1 (by rw [alen_nn]; exact g27.2) dX12_put_32 ?_
    obtain ⟨g29, h⟩ := grd_some h
    refine s_iload_n X 2 rfl dX12_put_33 ?_
    refine s_const X (by unfold InR; omega) dX12_put_34 ?_
    refine s_iadd X g29 dX12_put_35 ?_
    exact s_iret X (Nat.le_of_ble_eq_true rfl) (Nat.le_of_ble_eq_true rfl) (by cases h; exact hO) dX12_put_36
  have LP8 : ∀ (fu3 : Nat) (at_2 : Int) (m_ : Mem), iter (fun s => M_put_b1 sorted_ time_ s.1 s.2) fu3 (at_2, m_) = some (at_4, m_3) → J SHM G rm_X12_put (.inl O) C 0 0 2 [(3, VI at_2), (0, VR sorted_), (1, VI many_), (2, VI time_)] [] m_ := by
    intro fu3
    induction fu3 with
    | zero => intro at_2 m_ hn4; exact absurd hn4 (by simp [iter])
    | succ fu3 ih7 =>
      intro at_2 m_ hn4
      obtain ⟨x5, h, hc6⟩ := iter_succ hn4
      replace h : M_put_b1 sorted_ time_ at_2 m_ = some x5 := h
      unfold M_put_b1 at h
      obtain ⟨g14, h⟩ := grd_some h
      have kF16 : ¬ ((0 < at_2) ∧ (time_ < m_ sorted_ (at_2 - 1).toNat)) → J SHM G rm_X12_put (.inl O) C 0 0 29 [(3, VI at_2), (0, VR sorted_), (1, VI many_), (2, VI time_)] [] m_ := by
        intro c19
        replace h := ite_neg h c19
        exact KX9 _ (iter_exit h hc6)
      refine s_iload_n X 0 rfl dX12_put_2 ?_
      refine s_ifle_f (tgt := 29) X dX12_put_3 (by omega) (fun c17 => ?_) (fun c18 => ?_)
      · exact kF16 (fun q => c17 q.1)
      · have a20 : 0 < at_2 := c18
        refine s_load0 X 1 rfl dX12_put_6 ?_
        refine s_iload_n X 0 rfl dX12_put_7 ?_
        refine s_const X (by unfold InR; omega) dX12_put_8 ?_
        refine s_isub X (g14.1 a20) dX12_put_9 ?_
        refine s_iald X (isArr_sh hsorted_) (g14.2.1 a20) (by rw [alen_nn]; exact (g14.2.2 a20)) dX12_put_10 ?_
        refine s_iload_n X 3 rfl dX12_put_11 ?_
        refine s_icmple_f (tgt := 29) X dX12_put_12 (by omega) (fun c21 => ?_) (fun c22 => ?_)
        · exact kF16 (fun q => c21 q.2)
        · replace h := ite_pos h ⟨a20, c22⟩
          obtain ⟨g23, h⟩ := grd_some h
          refine s_load0 X 1 rfl dX12_put_15 ?_
          refine s_iload_n X 0 rfl dX12_put_16 ?_
          refine s_load0 X 1 rfl dX12_put_17 ?_
          refine s_iload_n X 0 rfl dX12_put_18 ?_
          refine s_const X (by unfold InR; omega) dX12_put_19 ?_
          refine s_isub X g23.2.2.1 dX12_put_20 ?_
          refine s_iald X (isArr_sh hsorted_) g23.2.2.2.1 (by rw [alen_nn]; exact g23.2.2.2.2) dX12_put_21 ?_
          obtain ⟨m_2, e24, h⟩ := ltv_elim h
          refine s_iast X e24 (isArr_sh hsorted_) g23.1 (by rw [alen_nn]; exact g23.2.1) dX12_put_22 ?_
          obtain ⟨at_3, e26, h⟩ := ltv_elim h
          refine s_iinc X 0 rfl g23.2.2.1 e26 rfl (by omega) dX12_put_23 ?_
          refine s_goto (tgt := 2) X dX12_put_26 (by omega) ?_
          exact ih7 _ _ (iter_next h hc6)
  exact LP8 _ _ _ hl13
set_option maxRecDepth 20000 in
set_option maxHeartbeats 4000000 in
theorem L_M_vehicles (G : Gl) (day_ : Int) (m : Mem) (r : (Int × Mem))  (h : M_vehicles day_ m = some r) : Con SHM G yX12_vehicles cX12_vehicles 8 (some .int) rm_X12_vehicles [VR 0, VI day_] m (((.inl (some (VI r.1)), r.2) : Res × Mem)) := by
  refine con_of (own := "LastbusModel") (by decide) rfl (Nat.le_of_ble_eq_true rfl) (fun C X => ?_)
  obtain ⟨O, hO⟩ : ∃ O : Res × Mem, O = (((.inl (some (VI r.1)), r.2) : Res × Mem)) := ⟨_, rfl⟩
  rw [← hO]
  show J SHM G rm_X12_vehicles (.inl O) C 0 0 0 [(0, VR 0), (1, VI day_)] [] m
  unfold M_vehicles at h
  refine s_load0 X 0 rfl dX12_vehicles_0 ?_
  refine s_iload_n X 1 rfl dX12_vehicles_1 ?_
  refine s_const X (by unfold InR; omega) dX12_vehicles_2 ?_
  obtain ⟨r_, m_, hq2, h⟩ := bq2_some h
  refine s_callV (As := [VI day_, VI 1]) X cw_X12_154 SHM_0 rfl dX12_vehicles_3 (L_M_isNoDay G day_ 1 m (r_, m_) hq2) rfl ⟨Nat.le_of_ble_eq_true rfl, Nat.le_of_ble_eq_true rfl⟩ ⟨Nat.le_of_ble_eq_true rfl, Nat.le_of_ble_eq_true rfl⟩ (Nat.le_of_ble_eq_true rfl) noT (kkR ?_)
  refine s_ifeq_f (tgt := 11) X dX12_vehicles_6 (by omega) (fun c5 => ?_) (fun c6 => ?_)
  · replace h := ite_neg h c5
    refine s_const X (by unfold InR; omega) dX12_vehicles_11 ?_
    obtain ⟨many_, e8, h⟩ := ltv_elim h
    refine s_istore_n X e8 rfl (by omega) dX12_vehicles_12 ?_
    refine s_const X (by unfold InR; omega) dX12_vehicles_13 ?_
    obtain ⟨v_, e10, h⟩ := ltv_elim h
    refine s_istore_n X e10 rfl (by omega) dX12_vehicles_14 ?_
    obtain ⟨many_6, v_6, m_9, hl20, h⟩ := bq3_some h
    obtain ⟨fu110, hl21⟩ := loop_iter hl20
    have KX17 : ∀ q9 : Int × Int × Mem, q9 = (many_6, v_6, m_9) → J SHM G rm_X12_vehicles (.inl O) C 0 0 203 [(3, VI q9.2.1), (2, VI q9.1), (0, VR 0), (1, VI day_)] [] (q9.2.2) := by
      intro q9 e9
      subst e9
      show J SHM G rm_X12_vehicles (.inl O) C 0 0 203 [(3, VI v_6), (2, VI many_6), (0, VR 0), (1, VI day_)] [] m_9
      refine s_iload_n X 1 rfl dX12_vehicles_203 ?_
      exact s_iret X (Nat.le_of_ble_eq_true rfl) (Nat.le_of_ble_eq_true rfl) (by cases h; exact hO) dX12_vehicles_204
    have LP16 : ∀ (fu11 : Nat) (many_2 : Int) (v_2 : Int) (m_2 : Mem), iter (fun s => M_vehicles_b1 day_ s.1 s.2.1 s.2.2) fu11 (many_2, v_2, m_2) = some (many_6, v_6, m_9) → J SHM G rm_X12_vehicles (.inl O) C 0 0 15 [(3, VI v_2), (2, VI many_2), (0, VR 0), (1, VI day_)] [] m_2 := by
      intro fu11
      induction fu11 with
      | zero => intro many_2 v_2 m_2 hn12; exact absurd hn12 (by simp [iter])
      | succ fu11 ih15 =>
        intro many_2 v_2 m_2 hn12
        obtain ⟨x13, h, hc14⟩ := iter_succ hn12
        replace h : M_vehicles_b1 day_ many_2 v_2 m_2 = some x13 := h
        unfold M_vehicles_b1 at h
        refine s_iload_n X 0 rfl dX12_vehicles_15 ?_
        refine s_load0 X 2 rfl dX12_vehicles_16 ?_
        refine s_getI X fk_X12_123 SHM_0 rfl dX12_vehicles_17 ?_
        refine s_icmpge_f (tgt := 203) X dX12_vehicles_20 (by omega) (fun c25 => ?_) (fun c26 => ?_)
        · replace h := ite_neg h c25
          exact KX17 _ (iter_exit h hc14)
        · replace h := ite_pos h c26
          refine s_const X (by unfold InR; omega) dX12_vehicles_23 ?_
          obtain ⟨begin_, e28, h⟩ := ltv_elim h
          refine s_istore X e28 rfl (by omega) dX12_vehicles_24 ?_
          refine s_const X (by unfold InR; omega) dX12_vehicles_26 ?_
          obtain ⟨end_, e30, h⟩ := ltv_elim h
          refine s_istore X e30 rfl (by omega) dX12_vehicles_27 ?_
          refine s_const X (by unfold InR; omega) dX12_vehicles_29 ?_
          obtain ⟨t_, e32, h⟩ := ltv_elim h
          refine s_istore X e32 rfl (by omega) dX12_vehicles_30 ?_
          obtain ⟨begin_4, end_4, t_5, m_8, hl42, h⟩ := bq4_some h
          obtain ⟨fu330, hl43⟩ := loop_iter hl42
          have KX39 : ∀ q9 : Int × Int × Int × Mem, q9 = (begin_4, end_4, t_5, m_8) → J SHM G rm_X12_vehicles (.inl O) C 0 0 143 [(6, VI q9.2.2.1), (5, VI q9.2.1), (4, VI q9.1), (3, VI v_2), (2, VI many_2), (0, VR 0), (1, VI day_)] [] (q9.2.2.2) := by
            intro q9 e9
            subst e9
            show J SHM G rm_X12_vehicles (.inl O) C 0 0 143 [(6, VI t_5), (5, VI end_4), (4, VI begin_4), (3, VI v_2), (2, VI many_2), (0, VR 0), (1, VI day_)] [] m_8
            refine s_const X (by unfold InR; omega) dX12_vehicles_143 ?_
            obtain ⟨next_, e89, h⟩ := ltv_elim h
            refine s_istore X e89 rfl (by omega) dX12_vehicles_144 ?_
            refine s_const X (by unfold InR; omega) dX12_vehicles_146 ?_
            obtain ⟨k_, e91, h⟩ := ltv_elim h
            refine s_istore X e91 rfl (by omega) dX12_vehicles_147 ?_
            obtain ⟨many_5, next_4, k_5, hl101, h⟩ := bq3_some h
            obtain ⟨fu920, hl102⟩ := loop_iter hl101
            have KX98 : ∀ q9 : Int × Int × Int, q9 = (many_5, next_4, k_5) → J SHM G rm_X12_vehicles (.inl O) C 0 0 197 [(7, VI q9.2.2), (6, VI q9.2.1), (5, VI end_4), (4, VI begin_4), (3, VI v_2), (2, VI q9.1), (0, VR 0), (1, VI day_)] [] m_8 := by
              intro q9 e9
              subst e9
              show J SHM G rm_X12_vehicles (.inl O) C 0 0 197 [(7, VI k_5), (6, VI next_4), (5, VI end_4), (4, VI begin_4), (3, VI v_2), (2, VI many_5), (0, VR 0), (1, VI day_)] [] m_8
              obtain ⟨g125, h⟩ := grd_some h
              obtain ⟨v_5, e126, h⟩ := ltv_elim h
              refine s_iinc X 4 rfl g125 e126 rfl (by omega) dX12_vehicles_197 ?_
              refine s_goto (tgt := 15) X dX12_vehicles_200 (by omega) ?_
              refine s_loc [0, 5, 6, 7] rfl ?_
              exact ih15 _ _ _ (iter_next h hc14)
            have LP97 : ∀ (fu92 : Nat) (many_3 : Int) (next_2 : Int) (k_2 : Int), iter (fun s => M_vehicles_b3 begin_4 end_4 m_8 s.1 s.2.1 s.2.2) fu92 (many_3, next_2, k_2) = some (many_5, next_4, k_5) → J SHM G rm_X12_vehicles (.inl O) C 0 0 149 [(7, VI k_2), (6, VI next_2), (5, VI end_4), (4, VI begin_4), (3, VI v_2), (2, VI many_3), (0, VR 0), (1, VI day_)] [] m_8 := by
              intro fu92
              induction fu92 with
              | zero => intro many_3 next_2 k_2 hn93; exact absurd hn93 (by simp [iter])
              | succ fu92 ih96 =>
                intro many_3 next_2 k_2 hn93
                obtain ⟨x94, h, hc95⟩ := iter_succ hn93
                replace h : M_vehicles_b3 begin_4 end_4 m_8 many_3 next_2 k_2 = some x94 := h
                unfold M_vehicles_b3 at h
                refine s_iload X 0 rfl dX12_vehicles_149 ?_
                refine s_iload X 3 rfl dX12_vehicles_151 ?_
                refine s_icmpge_f (tgt := 197) X dX12_vehicles_153 (by omega) (fun c106 => ?_) (fun c107 => ?_)
                · replace h := ite_neg h c106
                  exact KX98 _ (iter_exit h hc95)
                · replace h := ite_pos h c107
                  obtain ⟨g108, h⟩ := grd_some h
                  have kF110 : ¬ ((next_2 < end_4) ∧ (m_8 32 next_2.toNat + 5 ≤ m_8 33 k_2.toNat)) → J SHM G rm_X12_vehicles (.inl O) C 0 0 188 [(7, VI k_2), (6, VI next_2), (5, VI end_4), (4, VI begin_4), (3, VI v_2), (2, VI many_3), (0, VR 0), (1, VI day_)] [] m_8 := by
                    intro c117
                    replace h := ite_neg h c117
                    obtain ⟨g113, h⟩ := grd_some h
                    obtain ⟨many_4, e114, h⟩ := ltv_elim h
                    refine s_iinc X 5 rfl g113 e114 rfl (by omega) dX12_vehicles_188 ?_
                    obtain ⟨g115, h⟩ := grd_some h
                    obtain ⟨k_3, e116, h⟩ := ltv_elim h
                    refine s_iinc X 1 rfl g115 e116 rfl (by omega) dX12_vehicles_191 ?_
                    refine s_goto (tgt := 149) X dX12_vehicles_194 (by omega) ?_
                    refine s_loc [0, 2, 3, 4, 5, 1, 6, 7] rfl ?_
                    exact ih96 _ _ _ (iter_next h hc95)
                  refine s_iload X 1 rfl dX12_vehicles_156 ?_
                  refine s_iload X 2 rfl dX12_vehicles_158 ?_
                  refine s_icmpge_f (tgt := 188) X dX12_vehicles_160 (by omega) (fun c111 => ?_) (fun c112 => ?_)
                  · exact kF110 (fun q => c111 q.1)
                  · have a118 : next_2 < end_4 := c112
                    refine s_load0 X 6 rfl dX12_vehicles_163 ?_
                    refine s_getR (id := 32) X fk_X12_114 SHM_0 rfl dX12_vehicles_164 ?_
                    refine s_iload X 1 rfl dX12_vehicles_167 ?_
                    refine s_iald X SHM_32 (g108.1 a118) (g108.2.1 a118) dX12_vehicles_169 ?_
                    refine s_const X (by unfold InR; omega) dX12_vehicles_170 ?_
                    refine s_iadd X (g108.2.2.1 a118) dX12_vehicles_171 ?_
                    refine s_load0 X 6 rfl dX12_vehicles_172 ?_
                    refine s_getR (id := 33) X fk_X12_117 SHM_0 rfl dX12_vehicles_173 ?_
                    refine s_iload X 0 rfl dX12_vehicles_176 ?_
                    refine s_iald X SHM_33 (g108.2.2.2.1 a118) (g108.2.2.2.2 a118) dX12_vehicles_178 ?_
                    refine s_icmpgt_f (tgt := 188) X dX12_vehicles_179 (by omega) (fun c119 => ?_) (fun c120 => ?_)
                    · exact kF110 (fun q => c119 q.2)
                    · replace h := ite_pos h ⟨a118, c120⟩
                      obtain ⟨g121, h⟩ := grd_some h
                      obtain ⟨next_3, e122, h⟩ := ltv_elim h
                      refine s_iinc X 1 rfl g121 e122 rfl (by omega) dX12_vehicles_182 ?_
                      refine s_goto (tgt := 191) X dX12_vehicles_185 (by omega) ?_
                      obtain ⟨g123, h⟩ := grd_some h
                      obtain ⟨k_4, e124, h⟩ := ltv_elim h
                      refine s_iinc X 1 rfl g123 e124 rfl (by omega) dX12_vehicles_191 ?_
                      refine s_goto (tgt := 149) X dX12_vehicles_194 (by omega) ?_
                      exact ih96 _ _ _ (iter_next h hc95)
            exact LP97 _ _ _ _ hl102
          have LP38 : ∀ (fu33 : Nat) (begin_2 : Int) (end_2 : Int) (t_2 : Int) (m_3 : Mem), iter (fun s => M_vehicles_b2 day_ v_2 s.1 s.2.1 s.2.2.1 s.2.2.2) fu33 (begin_2, end_2, t_2, m_3) = some (begin_4, end_4, t_5, m_8) → J SHM G rm_X12_vehicles (.inl O) C 0 0 32 [(6, VI t_2), (5, VI end_2), (4, VI begin_2), (3, VI v_2), (2, VI many_2), (0, VR 0), (1, VI day_)] [] m_3 := by
            intro fu33
            induction fu33 with
            | zero => intro begin_2 end_2 t_2 m_3 hn34; exact absurd hn34 (by simp [iter])
            | succ fu33 ih37 =>
              intro begin_2 end_2 t_2 m_3 hn34
              obtain ⟨x35, h, hc36⟩ := iter_succ hn34
              replace h : M_vehicles_b2 day_ v_2 begin_2 end_2 t_2 m_3 = some x35 := h
              unfold M_vehicles_b2 at h
              refine s_iload X 0 rfl dX12_vehicles_32 ?_
              refine s_load0 X 5 rfl dX12_vehicles_34 ?_
              refine s_getI X fk_X12_137 SHM_0 rfl dX12_vehicles_35 ?_
              refine s_icmpge_f (tgt := 143) X dX12_vehicles_38 (by omega) (fun c47 => ?_) (fun c48 => ?_)
              · replace h := ite_neg h c47
                exact KX39 _ (iter_exit h hc36)
              · replace h := ite_pos h c48
                refine s_load0 X 5 rfl dX12_vehicles_41 ?_
                refine s_iload X 0 rfl dX12_vehicles_42 ?_
                refine s_iload_n X 6 rfl dX12_vehicles_44 ?_
                obtain ⟨r_2, hq50, h⟩ := bnd_some h
                refine s_callV (As := [VI t_2, VI day_]) X cw_X12_294 SHM_0 rfl dX12_vehicles_45 (L_M_runs G t_2 day_ m_3 r_2 hq50) rfl ⟨Nat.le_of_ble_eq_true rfl, Nat.le_of_ble_eq_true rfl⟩ ⟨Nat.le_of_ble_eq_true rfl, Nat.le_of_ble_eq_true rfl⟩ (Nat.le_of_ble_eq_true rfl) noT (kkR ?_)
                refine s_ifeq_f (tgt := 137) X dX12_vehicles_48 (by omega) (fun c53 => ?_) (fun c54 => ?_)
                · replace h := ite_neg h c53
                  obtain ⟨g55, h⟩ := grd_some h
                  obtain ⟨t_3, e56, h⟩ := ltv_elim h
                  refine s_iinc X 0 rfl g55 e56 rfl (by omega) dX12_vehicles_137 ?_
                  refine s_goto (tgt := 32) X dX12_vehicles_140 (by omega) ?_
                  exact ih37 _ _ _ _ (iter_next h hc36)
                · replace h := ite_pos h c54
                  obtain ⟨g57, h⟩ := grd_some h
                  obtain ⟨kj_, hk58, h⟩ := ltv_elim h
                  have K59 : ∀ (v_3 : Int) (m_4 : Mem), kj_ v_3 m_4 = some x35 → J SHM G rm_X12_vehicles (.inl O) C 0 0 89 [(6, VI t_2), (5, VI end_2), (4, VI begin_2), (3, VI v_2), (2, VI many_2), (0, VR 0), (1, VI day_)] [VI v_3] m_4 := by
                    intro v_3 m_4 h
                    subst hk58
                    dsimp only at h
                    obtain ⟨begin_3, e70, h⟩ := ltv_elim h
                    refine s_istore X e70 rfl (by omega) dX12_vehicles_89 ?_
                    obtain ⟨kj_2, hk72, h⟩ := ltv_elim h
                    have K73 : ∀ (v_4 : Int) (m_6 : Mem), kj_2 v_4 m_6 = some x35 → J SHM G rm_X12_vehicles (.inl O) C 0 0 135 [(4, VI begin_3), (6, VI t_2), (5, VI end_2), (3, VI v_2), (2, VI many_2), (0, VR 0), (1, VI day_)] [VI v_4] m_6 := by
                      intro v_4 m_6 h
                      subst hk72
                      dsimp only at h
                      obtain ⟨end_3, e85, h⟩ := ltv_elim h
                      refine s_istore X e85 rfl (by omega) dX12_vehicles_135 ?_
                      obtain ⟨g86, h⟩ := grd_some h
                      obtain ⟨t_4, e87, h⟩ := ltv_elim h
                      refine s_iinc X 2 rfl g86 e87 rfl (by omega) dX12_vehicles_137 ?_
                      refine s_goto (tgt := 32) X dX12_vehicles_140 (by omega) ?_
                      exact ih37 _ _ _ _ (iter_next h hc36)
                    refine s_load0 X 5 rfl dX12_vehicles_91 ?_
                    refine s_iload X 1 rfl dX12_vehicles_92 ?_
                    obtain ⟨r_4, hq74, h⟩ := bnd_some h
                    refine s_callV (As := [VI t_2]) X cw_X12_319 SHM_0 rfl dX12_vehicles_94 (L_M_endStop G t_2 m_4 r_4 hq74) rfl ⟨Nat.le_of_ble_eq_true rfl, Nat.le_of_ble_eq_true rfl⟩ ⟨Nat.le_of_ble_eq_true rfl, Nat.le_of_ble_eq_true rfl⟩ (Nat.le_of_ble_eq_true rfl) noT (kkR ?_)
                    refine s_iload_n X 3 rfl dX12_vehicles_97 ?_
                    refine s_icmpne_f (tgt := 133) X dX12_vehicles_98 (by omega) (fun c77 => ?_) (fun c78 => ?_)
                    · replace h := ite_neg h c77
                      refine s_iload X 2 rfl dX12_vehicles_133 ?_
                      exact s_kn rfl rfl (K73 _ _ h)
                    · replace h := ite_pos h c78
                      obtain ⟨g80, h⟩ := grd_some h
                      refine s_load0 X 5 rfl dX12_vehicles_101 ?_
                      refine s_getR (id := 32) X fk_X12_114 SHM_0 rfl dX12_vehicles_102 ?_
                      refine s_iload X 2 rfl dX12_vehicles_105 ?_
                      refine s_load0 X 5 rfl dX12_vehicles_107 ?_
                      refine s_getR (id := 8) X fk_X12_36 SHM_0 rfl dX12_vehicles_108 ?_
                      refine s_bipush X (by omega) dX12_vehicles_111 ?_
                      refine s_iload X 1 rfl dX12_vehicles_113 ?_
                      refine s_imul X g80.1 dX12_vehicles_115 ?_
                      refine s_load0 X 5 rfl dX12_vehicles_116 ?_
                      refine s_getR (id := 6) X fk_X12_30 SHM_0 rfl dX12_vehicles_117 ?_
                      refine s_iload X 1 rfl dX12_vehicles_120 ?_
                      refine s_iald X SHM_6 g80.2.1 g80.2.2.1 dX12_vehicles_122 ?_
                      refine s_iadd X g80.2.2.2.1 dX12_vehicles_123 ?_
                      refine s_const X (by unfold InR; omega) dX12_vehicles_124 ?_
                      refine s_isub X g80.2.2.2.2.1 dX12_vehicles_125 ?_
                      refine s_iald X SHM_8 g80.2.2.2.2.2.1 g80.2.2.2.2.2.2 dX12_vehicles_126 ?_
                      obtain ⟨r_5, m_7, hq81, h⟩ := bq2_some h
                      refine s_callS (As := [VR 32, VI end_2, VI (m_4 8 (8 * t_2 + m_4 6 t_2.toNat - 1).toNat)]) X cw_X12_315 dX12_vehicles_127 (L_M_put G 32 end_2 (m_4 8 (8 * t_2 + m_4 6 t_2.toNat - 1).toNat) m_4 (r_5, m_7) ⟨_, SHM_32⟩ hq81) rfl ⟨Nat.le_of_ble_eq_true rfl, Nat.le_of_ble_eq_true rfl⟩ ⟨Nat.le_of_ble_eq_true rfl, Nat.le_of_ble_eq_true rfl⟩ (Nat.le_of_ble_eq_true rfl) noT (kkR ?_)
                      refine s_goto (tgt := 135) X dX12_vehicles_130 (by omega) ?_
                      exact s_kn rfl rfl (K73 _ _ h)
                  refine s_load0 X 5 rfl dX12_vehicles_51 ?_
                  refine s_getR (id := 7) X fk_X12_33 SHM_0 rfl dX12_vehicles_52 ?_
                  refine s_bipush X (by omega) dX12_vehicles_55 ?_
                  refine s_iload X 0 rfl dX12_vehicles_57 ?_
                  refine s_imul X g57.1 dX12_vehicles_59 ?_
                  refine s_iald X SHM_7 g57.2.1 g57.2.2 dX12_vehicles_60 ?_
                  refine s_iload_n X 3 rfl dX12_vehicles_61 ?_
                  refine s_icmpne_f (tgt := 87) X dX12_vehicles_62 (by omega) (fun c62 => ?_) (fun c63 => ?_)
                  · replace h := ite_neg h c62
                    refine s_iload X 2 rfl dX12_vehicles_87 ?_
                    exact s_kn rfl rfl (K59 _ _ h)
                  · replace h := ite_pos h c63
                    refine s_load0 X 5 rfl dX12_vehicles_65 ?_
                    refine s_getR (id := 33) X fk_X12_117 SHM_0 rfl dX12_vehicles_66 ?_
                    refine s_iload X 2 rfl dX12_vehicles_69 ?_
                    refine s_load0 X 5 rfl dX12_vehicles_71 ?_
                    refine s_getR (id := 9) X fk_X12_39 SHM_0 rfl dX12_vehicles_72 ?_
                    refine s_bipush X (by omega) dX12_vehicles_75 ?_
                    refine s_iload X 0 rfl dX12_vehicles_77 ?_
                    refine s_imul X g57.1 dX12_vehicles_79 ?_
                    refine s_iald X SHM_9 g57.2.1 g57.2.2 dX12_vehicles_80 ?_
                    obtain ⟨r_3, m_5, hq66, h⟩ := bq2_some h
                    refine s_callS (As := [VR 33, VI begin_2, VI (m_3 9 (8 * t_2).toNat)]) X cw_X12_315 dX12_vehicles_81 (L_M_put G 33 begin_2 (m_3 9 (8 * t_2).toNat) m_3 (r_3, m_5) ⟨_, SHM_33⟩ hq66) rfl ⟨Nat.le_of_ble_eq_true rfl, Nat.le_of_ble_eq_true rfl⟩ ⟨Nat.le_of_ble_eq_true rfl, Nat.le_of_ble_eq_true rfl⟩ (Nat.le_of_ble_eq_true rfl) noT (kkR ?_)
                    refine s_goto (tgt := 89) X dX12_vehicles_84 (by omega) ?_
                    exact s_kn rfl rfl (K59 _ _ h)
          exact LP38 _ _ _ _ _ hl43
    exact LP16 _ _ _ _ hl21
  · replace h := ite_pos h c6
    refine s_const X (by unfold InR; omega) dX12_vehicles_9 ?_
    exact s_iret X (Nat.le_of_ble_eq_true rfl) (Nat.le_of_ble_eq_true rfl) (by cases h; exact hO) dX12_vehicles_10
set_option maxRecDepth 20000 in
set_option maxHeartbeats 4000000 in
theorem L_M_vehiclesByMatching (G : Gl) (day_ : Int) (m : Mem) (r : (Int × Mem))  (h : M_vehiclesByMatching day_ m = some r) : Con SHM G yX12_vehiclesByMatching cX12_vehiclesByMatching 2 (some .int) rm_X12_vehiclesByMatching [VR 0, VI day_] m (((.inl (some (VI r.1)), r.2) : Res × Mem)) := by
  refine con_of (own := "LastbusModel") (by decide) rfl (Nat.le_of_ble_eq_true rfl) (fun C X => ?_)
  obtain ⟨O, hO⟩ : ∃ O : Res × Mem, O = (((.inl (some (VI r.1)), r.2) : Res × Mem)) := ⟨_, rfl⟩
  rw [← hO]
  show J SHM G rm_X12_vehiclesByMatching (.inl O) C 0 0 0 [(0, VR 0), (1, VI day_)] [] m
  unfold M_vehiclesByMatching at h
  refine s_load0 X 0 rfl dX12_vehiclesByMatching_0 ?_
  refine s_iload_n X 1 rfl dX12_vehiclesByMatching_1 ?_
  obtain ⟨r_, m_, hq2, h⟩ := bq2_some h
  refine s_callV (As := [VI day_]) X cw_X12_322 SHM_0 rfl dX12_vehiclesByMatching_2 (L_M_vehicles G day_ m (r_, m_) hq2) rfl ⟨Nat.le_of_ble_eq_true rfl, Nat.le_of_ble_eq_true rfl⟩ ⟨Nat.le_of_ble_eq_true rfl, Nat.le_of_ble_eq_true rfl⟩ (Nat.le_of_ble_eq_true rfl) noT (kkR ?_)
  exact s_iret X (Nat.le_of_ble_eq_true rfl) (Nat.le_of_ble_eq_true rfl) (by cases h; exact hO) dX12_vehiclesByMatching_5
set_option maxRecDepth 20000 in
set_option maxHeartbeats 4000000 in
theorem L_M_other (G : Gl) (trip_ : Int) (minutes_ : Int) (day_ : Int) (minute_ : Int) (isGain_ : Int) (m : Mem) (r : (Int × Mem))  (h : M_other trip_ minutes_ day_ minute_ isGain_ m = some r) : Con SHM G yX12_other cX12_other 11 (some .int) rm_X12_other [VR 0, VI trip_, VI minutes_, VI day_, VI minute_, VI isGain_] m (((.inl (some (VI r.1)), r.2) : Res × Mem)) := by
  refine con_of (own := "LastbusModel") (by decide) rfl (Nat.le_of_ble_eq_true rfl) (fun C X => ?_)
  obtain ⟨O, hO⟩ : ∃ O : Res × Mem, O = (((.inl (some (VI r.1)), r.2) : Res × Mem)) := ⟨_, rfl⟩
  rw [← hO]
  show J SHM G rm_X12_other (.inl O) C 0 0 0 [(0, VR 0), (1, VI trip_), (2, VI minutes_), (3, VI day_), (4, VI minute_), (5, VI isGain_)] [] m
  unfold M_other at h
  refine s_load0 X 0 rfl dX12_other_0 ?_
  refine s_iload_n X 1 rfl dX12_other_1 ?_
  obtain ⟨r_, m_, hq2, h⟩ := bq2_some h
  refine s_callV (As := [VI trip_]) X cw_X12_140 SHM_0 rfl dX12_other_2 (L_M_isNoTrip G trip_ m (r_, m_) hq2) rfl ⟨Nat.le_of_ble_eq_true rfl, Nat.le_of_ble_eq_true rfl⟩ ⟨Nat.le_of_ble_eq_true rfl, Nat.le_of_ble_eq_true rfl⟩ (Nat.le_of_ble_eq_true rfl) noT (kkR ?_)
  refine s_ifne_t (tgt := 63) X dX12_other_5 (by omega) (fun c5 => ?_) (fun c6 => ?_)
  · replace h := ite_pos h c5
    refine s_const X (by unfold InR; omega) dX12_other_63 ?_
    exact s_iret X (Nat.le_of_ble_eq_true rfl) (Nat.le_of_ble_eq_true rfl) (by cases h; exact hO) dX12_other_64
  · replace h := ite_neg h c6
    refine s_load0 X 0 rfl dX12_other_8 ?_
    obtain ⟨kj_, hk9, h⟩ := ltv_elim h
    have K10 : ∀ (v_ : Int), kj_ v_ = some r → J SHM G rm_X12_other (.inl O) C 0 0 56 [(0, VR 0), (1, VI trip_), (2, VI minutes_), (3, VI day_), (4, VI minute_), (5, VI isGain_)] [VI v_, VR 0] m_ := by
      intro v_ h
      subst hk9
      dsimp only at h
      refine s_const X (by unfold InR; omega) dX12_other_56 ?_
      obtain ⟨r_3, m_2, hq32, h⟩ := bq2_some h
      refine s_callV (As := [VI v_, VI 2]) X cw_X12_130 SHM_0 rfl dX12_other_57 (L_M_isThrown G v_ 2 m_ (r_3, m_2) hq32) rfl ⟨Nat.le_of_ble_eq_true rfl, Nat.le_of_ble_eq_true rfl⟩ ⟨Nat.le_of_ble_eq_true rfl, Nat.le_of_ble_eq_true rfl⟩ (Nat.le_of_ble_eq_true rfl) noT (kkR ?_)
      refine s_ifeq_f (tgt := 65) X dX12_other_60 (by omega) (fun c35 => ?_) (fun c36 => ?_)
      · replace h := ite_neg h c35
        refine s_load0 X 0 rfl dX12_other_65 ?_
        refine s_iload_n X 3 rfl dX12_other_66 ?_
        refine s_iload X 4 rfl dX12_other_67 ?_
        obtain ⟨m_3, hq38, h⟩ := bnd_some h
        refine s_callV (As := [VI day_, VI minute_]) X cw_X12_309 SHM_0 rfl dX12_other_69 (L_M_tellAll G day_ minute_ m_2 m_3 hq38) rfl ⟨Nat.le_of_ble_eq_true rfl, Nat.le_of_ble_eq_true rfl⟩ ⟨Nat.le_of_ble_eq_true rfl, Nat.le_of_ble_eq_true rfl⟩ (Nat.le_of_ble_eq_true rfl) noT (kkU ?_)
        refine s_load0 X 0 rfl dX12_other_72 ?_
        refine s_iload_n X 1 rfl dX12_other_73 ?_
        refine s_iload_n X 2 rfl dX12_other_74 ?_
        obtain ⟨m_4, hq42, h⟩ := bnd_some h
        refine s_callV (As := [VI trip_, VI minutes_]) X cw_X12_168 SHM_0 rfl dX12_other_75 (L_M_move G trip_ minutes_ m_3 m_4 hq42) rfl ⟨Nat.le_of_ble_eq_true rfl, Nat.le_of_ble_eq_true rfl⟩ ⟨Nat.le_of_ble_eq_true rfl, Nat.le_of_ble_eq_true rfl⟩ (Nat.le_of_ble_eq_true rfl) noT (kkU ?_)
        refine s_const X (by unfold InR; omega) dX12_other_78 ?_
        obtain ⟨many_, e46, h⟩ := ltv_elim h
        refine s_istore X e46 rfl (by omega) dX12_other_79 ?_
        refine s_const X (by unfold InR; omega) dX12_other_81 ?_
        obtain ⟨a_, e48, h⟩ := ltv_elim h
        refine s_istore X e48 rfl (by omega) dX12_other_82 ?_
        obtain ⟨many_6, a_4, m_7, hl58, h⟩ := bq3_some h
        obtain ⟨fu490, hl59⟩ := loop_iter hl58
        have KX55 : ∀ q9 : Int × Int × Mem, q9 = (many_6, a_4, m_7) → J SHM G rm_X12_other (.inl O) C 0 0 192 [(7, VI q9.2.1), (6, VI q9.1), (0, VR 0), (1, VI trip_), (2, VI minutes_), (3, VI day_), (4, VI minute_), (5, VI isGain_)] [] (q9.2.2) := by
          intro q9 e9
          subst e9
          show J SHM G rm_X12_other (.inl O) C 0 0 192 [(7, VI a_4), (6, VI many_6), (0, VR 0), (1, VI trip_), (2, VI minutes_), (3, VI day_), (4, VI minute_), (5, VI isGain_)] [] m_7
          obtain ⟨g125, h⟩ := grd_some h
          refine s_load0 X 2 rfl dX12_other_192 ?_
          refine s_iload_n X 3 rfl dX12_other_193 ?_
          refine s_iload_n X 4 rfl dX12_other_194 ?_
          refine s_ineg X g125 dX12_other_195 ?_
          obtain ⟨m_8, hq126, h⟩ := bnd_some h
          refine s_callV (As := [VI trip_, VI (-minutes_)]) X cw_X12_168 SHM_0 rfl dX12_other_196 (L_M_move G trip_ (-minutes_) m_7 m_8 hq126) rfl ⟨Nat.le_of_ble_eq_true rfl, Nat.le_of_ble_eq_true rfl⟩ ⟨Nat.le_of_ble_eq_true rfl, Nat.le_of_ble_eq_true rfl⟩ (Nat.le_of_ble_eq_true rfl) noT (kkU ?_)
          refine s_iload X 1 rfl dX12_other_199 ?_
          exact s_iret X (Nat.le_of_ble_eq_true rfl) (Nat.le_of_ble_eq_true rfl) (by cases h; exact hO) dX12_other_201
        have LP54 : ∀ (fu49 : Nat) (many_2 : Int) (a_2 : Int) (m_5 : Mem), iter (fun s => M_other_b1 day_ minute_ isGain_ s.1 s.2.1 s.2.2) fu49 (many_2, a_2, m_5) = some (many_6, a_4, m_7) → J SHM G rm_X12_other (.inl O) C 0 0 84 [(7, VI a_2), (6, VI many_2), (0, VR 0), (1, VI trip_), (2, VI minutes_), (3, VI day_), (4, VI minute_), (5, VI isGain_)] [] m_5 := by
          intro fu49
          induction fu49 with
          | zero => intro many_2 a_2 m_5 hn50; exact absurd hn50 (by simp [iter])
          | succ fu49 ih53 =>
            intro many_2 a_2 m_5 hn50
            obtain ⟨x51, h, hc52⟩ := iter_succ hn50
            replace h : M_other_b1 day_ minute_ isGain_ many_2 a_2 m_5 = some x51 := h
            unfold M_other_b1 at h
            refine s_iload X 0 rfl dX12_other_84 ?_
            refine s_load0 X 2 rfl dX12_other_86 ?_
            refine s_getI X fk_X12_123 SHM_0 rfl dX12_other_87 ?_
            refine s_icmpge_f (tgt := 192) X dX12_other_90 (by omega) (fun c63 => ?_) (fun c64 => ?_)
            · replace h := ite_neg h c63
              exact KX55 _ (iter_exit h hc52)
            · replace h := ite_pos h c64
              refine s_load0 X 2 rfl dX12_other_93 ?_
              refine s_iload X 0 rfl dX12_other_94 ?_
              refine s_iload X 0 rfl dX12_other_96 ?_
              refine s_iload_n X 5 rfl dX12_other_98 ?_
              refine s_iload X 6 rfl dX12_other_99 ?_
              obtain ⟨r_4, m_6, hq66, h⟩ := bq2_some h
              refine s_callV (As := [VI a_2, VI a_2, VI day_, VI minute_]) X cw_X12_243 SHM_0 rfl dX12_other_101 (L_M_earliestOf G a_2 a_2 day_ minute_ m_5 (r_4, m_6) hq66) rfl ⟨Nat.le_of_ble_eq_true rfl, Nat.le_of_ble_eq_true rfl⟩ ⟨Nat.le_of_ble_eq_true rfl, Nat.le_of_ble_eq_true rfl⟩ (Nat.le_of_ble_eq_true rfl) noT (kkR ?_)
              obtain ⟨time_, e69, h⟩ := ltv_elim h
              refine s_istore X e69 rfl (by omega) dX12_other_104 ?_
              refine s_const X (by unfold InR; omega) dX12_other_106 ?_
              obtain ⟨b_, e71, h⟩ := ltv_elim h
              refine s_istore X e71 rfl (by omega) dX12_other_107 ?_
              obtain ⟨many_5, b_4, hl81, h⟩ := bq2_some h
              obtain ⟨fu720, hl82⟩ := loop_iter hl81
              have KX78 : ∀ q9 : Int × Int, q9 = (many_5, b_4) → J SHM G rm_X12_other (.inl O) C 0 0 186 [(9, VI q9.2), (8, VI time_), (7, VI a_2), (6, VI q9.1), (0, VR 0), (1, VI trip_), (2, VI minutes_), (3, VI day_), (4, VI minute_), (5, VI isGain_)] [] m_6 := by
                intro q9 e9
                subst e9
                show J SHM G rm_X12_other (.inl O) C 0 0 186 [(9, VI b_4), (8, VI time_), (7, VI a_2), (6, VI many_5), (0, VR 0), (1, VI trip_), (2, VI minutes_), (3, VI day_), (4, VI minute_), (5, VI isGain_)] [] m_6
                obtain ⟨g123, h⟩ := grd_some h
                obtain ⟨a_3, e124, h⟩ := ltv_elim h
                refine s_iinc X 2 rfl g123 e124 rfl (by omega) dX12_other_186 ?_
                refine s_goto (tgt := 84) X dX12_other_189 (by omega) ?_
                refine s_loc [0, 3, 4, 5, 6, 7, 8, 9] rfl ?_
                exact ih53 _ _ _ (iter_next h hc52)
              have LP77 : ∀ (fu72 : Nat) (many_3 : Int) (b_2 : Int), iter (fun s => M_other_b2 isGain_ a_2 m_6 s.1 s.2) fu72 (many_3, b_2) = some (many_5, b_4) → J SHM G rm_X12_other (.inl O) C 0 0 109 [(9, VI b_2), (8, VI time_), (7, VI a_2), (6, VI many_3), (0, VR 0), (1, VI trip_), (2, VI minutes_), (3, VI day_), (4, VI minute_), (5, VI isGain_)] [] m_6 := by
                intro fu72
                induction fu72 with
                | zero => intro many_3 b_2 hn73; exact absurd hn73 (by simp [iter])
                | succ fu72 ih76 =>
                  intro many_3 b_2 hn73
                  obtain ⟨x74, h, hc75⟩ := iter_succ hn73
                  replace h : M_other_b2 isGain_ a_2 m_6 many_3 b_2 = some x74 := h
                  unfold M_other_b2 at h
                  refine s_iload X 0 rfl dX12_other_109 ?_
                  refine s_load0 X 4 rfl dX12_other_111 ?_
                  refine s_getI X fk_X12_123 SHM_0 rfl dX12_other_112 ?_
                  refine s_icmpge_f (tgt := 186) X dX12_other_115 (by omega) (fun c86 => ?_) (fun c87 => ?_)
                  · replace h := ite_neg h c86
                    exact KX78 _ (iter_exit h hc75)
                  · replace h := ite_pos h c87
                    obtain ⟨g88, h⟩ := grd_some h
                    refine s_load0 X 4 rfl dX12_other_118 ?_
                    refine s_getR (id := 30) X fk_X12_108 SHM_0 rfl dX12_other_119 ?_
                    refine s_bipush X (by omega) dX12_other_122 ?_
                    refine s_iload X 2 rfl dX12_other_124 ?_
                    refine s_imul X g88.1 dX12_other_126 ?_
                    refine s_iload X 0 rfl dX12_other_127 ?_
                    refine s_iadd X g88.2.1 dX12_other_129 ?_
                    refine s_iald X SHM_30 g88.2.2.1 g88.2.2.2 dX12_other_130 ?_
                    obtain ⟨had_, e89, h⟩ := ltv_elim h
                    refine s_istore X e89 rfl (by omega) dX12_other_131 ?_
                    refine s_iload X 4 rfl dX12_other_133 ?_
                    obtain ⟨kj_2, hk91, h⟩ := ltv_elim h
                    have K92 : ∀ (v_2 : Int), kj_2 v_2 = some x74 → J SHM G rm_X12_other (.inl O) C 0 0 177 [(10, VI had_), (9, VI b_2), (8, VI time_), (7, VI a_2), (6, VI many_3), (0, VR 0), (1, VI trip_), (2, VI minutes_), (3, VI day_), (4, VI minute_), (5, VI isGain_)] [VI v_2, VI many_3] m_6 := by
                      intro v_2 h
                      subst hk91
                      dsimp only at h
                      obtain ⟨g119, h⟩ := grd_some h
                      refine s_iadd X g119 dX12_other_177 ?_
                      obtain ⟨many_4, e120, h⟩ := ltv_elim h
                      refine s_istore X e120 rfl (by omega) dX12_other_178 ?_
                      obtain ⟨g121, h⟩ := grd_some h
                      obtain ⟨b_3, e122, h⟩ := ltv_elim h
                      refine s_iinc X 2 rfl g121 e122 rfl (by omega) dX12_other_180 ?_
                      refine s_goto (tgt := 109) X dX12_other_183 (by omega) ?_
                      refine s_loc [0, 3, 4, 1, 5, 6, 7, 8, 9, 10] rfl ?_
                      exact ih76 _ _ (iter_next h hc75)
                    refine s_iload X 3 rfl dX12_other_135 ?_
                    refine s_iload X 1 rfl dX12_other_137 ?_
                    refine s_icmpeq_f (tgt := 176) X dX12_other_139 (by omega) (fun c95 => ?_) (fun c96 => ?_)
                    · replace h := ite_neg h c95
                      refine s_const X (by unfold InR; omega) dX12_other_176 ?_
                      exact s_kn rfl rfl (K92 _ h)
                    · replace h := ite_pos h c96
                      refine s_iload X 10 rfl dX12_other_142 ?_
                      refine s_ifeq_f (tgt := 161) X dX12_other_144 (by omega) (fun c101 => ?_) (fun c102 => ?_)
                      · replace h := ite_neg h c101
                        refine s_load0 X 5 rfl dX12_other_161 ?_
                        refine s_iload X 1 rfl dX12_other_162 ?_
                        obtain ⟨r_5, hq104, h⟩ := bnd_some h
                        refine s_callV (As := [VI b_2]) X cw_X12_235 SHM_0 rfl dX12_other_164 (L_M_at G b_2 m_6 r_5 hq104) rfl ⟨Nat.le_of_ble_eq_true rfl, Nat.le_of_ble_eq_true rfl⟩ ⟨Nat.le_of_ble_eq_true rfl, Nat.le_of_ble_eq_true rfl⟩ (Nat.le_of_ble_eq_true rfl) noT (kkR ?_)
                        refine s_iload X 0 rfl dX12_other_167 ?_
                        refine s_icmple_f (tgt := 176) X dX12_other_169 (by omega) (fun c107 => ?_) (fun c108 => ?_)
                        · replace h := ite_neg h c107
                          refine s_const X (by unfold InR; omega) dX12_other_176 ?_
                          exact s_kn rfl rfl (K92 _ h)
                        · replace h := ite_pos h c108
                          refine s_const X (by unfold InR; omega) dX12_other_172 ?_
                          refine s_goto (tgt := 177) X dX12_other_173 (by omega) ?_
                          exact s_kn rfl rfl (K92 _ h)
                      · replace h := ite_pos h c102
                        refine s_load0 X 5 rfl dX12_other_147 ?_
                        refine s_iload X 1 rfl dX12_other_148 ?_
                        obtain ⟨r_6, hq112, h⟩ := bnd_some h
                        refine s_callV (As := [VI b_2]) X cw_X12_235 SHM_0 rfl dX12_other_150 (L_M_at G b_2 m_6 r_6 hq112) rfl ⟨Nat.le_of_ble_eq_true rfl, Nat.le_of_ble_eq_true rfl⟩ ⟨Nat.le_of_ble_eq_true rfl, Nat.le_of_ble_eq_true rfl⟩ (Nat.le_of_ble_eq_true rfl) noT (kkR ?_)
                        refine s_iload X 0 rfl dX12_other_153 ?_
                        refine s_icmpge_f (tgt := 176) X dX12_other_155 (by omega) (fun c115 => ?_) (fun c116 => ?_)
                        · replace h := ite_neg h c115
                          refine s_const X (by unfold InR; omega) dX12_other_176 ?_
                          exact s_kn rfl rfl (K92 _ h)
                        · replace h := ite_pos h c116
                          refine s_goto (tgt := 172) X dX12_other_158 (by omega) ?_
                          refine s_const X (by unfold InR; omega) dX12_other_172 ?_
                          refine s_goto (tgt := 177) X dX12_other_173 (by omega) ?_
                          exact s_kn rfl rfl (K92 _ h)
              exact LP77 _ _ _ hl82
        exact LP54 _ _ _ _ hl59
      · replace h := ite_pos h c36
        refine s_const X (by unfold InR; omega) dX12_other_63 ?_
        exact s_iret X (Nat.le_of_ble_eq_true rfl) (Nat.le_of_ble_eq_true rfl) (by cases h; exact hO) dX12_other_64
    have kT11 : ((M_isIn minutes_ (-60) 60 = 0) ∨ (M_isIn day_ 0 27 = 0)) ∨ (M_isIn minute_ 0 1439 = 0) → J SHM G rm_X12_other (.inl O) C 0 0 51 [(0, VR 0), (1, VI trip_), (2, VI minutes_), (3, VI day_), (4, VI minute_), (5, VI isGain_)] [VR 0] m_ := by
      intro c16
      replace h := ite_pos h c16
      refine s_const X (by unfold InR; omega) dX12_other_51 ?_
      refine s_goto (tgt := 56) X dX12_other_52 (by omega) ?_
      exact s_kn rfl rfl (K10 _ h)
    refine s_iload_n X 2 rfl dX12_other_9 ?_
    refine s_bipush X (by omega) dX12_other_10 ?_
    refine s_bipush X (by omega) dX12_other_12 ?_
    refine s_callS (As := [VI minutes_, VI (-60), VI 60]) X cw_X12_126 dX12_other_14 (L_M_isIn G minutes_ (-60) 60 m_) rfl ⟨Nat.le_of_ble_eq_true rfl, Nat.le_of_ble_eq_true rfl⟩ ⟨Nat.le_of_ble_eq_true rfl, Nat.le_of_ble_eq_true rfl⟩ (Nat.le_of_ble_eq_true rfl) noT (kkR ?_)
    refine s_ifeq_t (tgt := 51) X dX12_other_17 (by omega) (fun c13 => ?_) (fun c14 => ?_)
    · exact kT11 (Or.inl (Or.inl c13))
    · have a17 : ¬ (M_isIn minutes_ (-60) 60 = 0) := c14
      refine s_iload_n X 3 rfl dX12_other_20 ?_
      refine s_const X (by unfold InR; omega) dX12_other_21 ?_
      refine s_bipush X (by omega) dX12_other_22 ?_
      refine s_callS (As := [VI day_, VI 0, VI 27]) X cw_X12_126 dX12_other_24 (L_M_isIn G day_ 0 27 m_) rfl ⟨Nat.le_of_ble_eq_true rfl, Nat.le_of_ble_eq_true rfl⟩ ⟨Nat.le_of_ble_eq_true rfl, Nat.le_of_ble_eq_true rfl⟩ (Nat.le_of_ble_eq_true rfl) noT (kkR ?_)
      refine s_ifeq_t (tgt := 51) X dX12_other_27 (by omega) (fun c18 => ?_) (fun c19 => ?_)
      · exact kT11 (Or.inl (Or.inr c18))
      · have a20 : ¬ ((M_isIn minutes_ (-60) 60 = 0) ∨ (M_isIn day_ 0 27 = 0)) := (fun q => q.elim a17 c19)
        refine s_iload X 4 rfl dX12_other_30 ?_
        refine s_const X (by unfold InR; omega) dX12_other_32 ?_
        refine s_sipush X (by omega) dX12_other_33 ?_
        refine s_callS (As := [VI minute_, VI 0, VI 1439]) X cw_X12_126 dX12_other_36 (L_M_isIn G minute_ 0 1439 m_) rfl ⟨Nat.le_of_ble_eq_true rfl, Nat.le_of_ble_eq_true rfl⟩ ⟨Nat.le_of_ble_eq_true rfl, Nat.le_of_ble_eq_true rfl⟩ (Nat.le_of_ble_eq_true rfl) noT (kkR ?_)
        refine s_ifeq_t (tgt := 51) X dX12_other_39 (by omega) (fun c21 => ?_) (fun c22 => ?_)
        · exact kT11 (Or.inr c21)
        · replace h := ite_neg h (fun q => q.elim a20 c22)
          refine s_load0 X 0 rfl dX12_other_42 ?_
          refine s_iload_n X 1 rfl dX12_other_43 ?_
          refine s_iload_n X 2 rfl dX12_other_44 ?_
          obtain ⟨r_2, hq24, h⟩ := bnd_some h
          refine s_callV (As := [VI trip_, VI minutes_]) X cw_X12_165 SHM_0 rfl dX12_other_45 (L_M_isShiftWrong G trip_ minutes_ m_ r_2 hq24) rfl ⟨Nat.le_of_ble_eq_true rfl, Nat.le_of_ble_eq_true rfl⟩ ⟨Nat.le_of_ble_eq_true rfl, Nat.le_of_ble_eq_true rfl⟩ (Nat.le_of_ble_eq_true rfl) noT (kkR ?_)
          refine s_ifeq_f (tgt := 55) X dX12_other_48 (by omega) (fun c27 => ?_) (fun c28 => ?_)
          · replace h := ite_neg h c27
            refine s_const X (by unfold InR; omega) dX12_other_55 ?_
            exact s_kn rfl rfl (K10 _ h)
          · replace h := ite_pos h c28
            refine s_const X (by unfold InR; omega) dX12_other_51 ?_
            refine s_goto (tgt := 56) X dX12_other_52 (by omega) ?_
            exact s_kn rfl rfl (K10 _ h)
set_option maxRecDepth 20000 in
set_option maxHeartbeats 4000000 in
theorem L_M_gains (G : Gl) (trip_ : Int) (minutes_ : Int) (day_ : Int) (minute_ : Int) (m : Mem) (r : (Int × Mem))  (h : M_gains trip_ minutes_ day_ minute_ m = some r) : Con SHM G yX12_gains cX12_gains 5 (some .int) rm_X12_gains [VR 0, VI trip_, VI minutes_, VI day_, VI minute_] m (((.inl (some (VI r.1)), r.2) : Res × Mem)) := by
  refine con_of (own := "LastbusModel") (by decide) rfl (Nat.le_of_ble_eq_true rfl) (fun C X => ?_)
  obtain ⟨O, hO⟩ : ∃ O : Res × Mem, O = (((.inl (some (VI r.1)), r.2) : Res × Mem)) := ⟨_, rfl⟩
  rw [← hO]
  show J SHM G rm_X12_gains (.inl O) C 0 0 0 [(0, VR 0), (1, VI trip_), (2, VI minutes_), (3, VI day_), (4, VI minute_)] [] m
  unfold M_gains at h
  refine s_load0 X 0 rfl dX12_gains_0 ?_
  refine s_iload_n X 1 rfl dX12_gains_1 ?_
  refine s_iload_n X 2 rfl dX12_gains_2 ?_
  refine s_iload_n X 3 rfl dX12_gains_3 ?_
  refine s_iload X 4 rfl dX12_gains_4 ?_
  refine s_const X (by unfold InR; omega) dX12_gains_6 ?_
  obtain ⟨r_, m_, hq2, h⟩ := bq2_some h
  refine s_callV (As := [VI trip_, VI minutes_, VI day_, VI minute_, VI 1]) X cw_X12_325 SHM_0 rfl dX12_gains_7 (L_M_other G trip_ minutes_ day_ minute_ 1 m (r_, m_) hq2) rfl ⟨Nat.le_of_ble_eq_true rfl, Nat.le_of_ble_eq_true rfl⟩ ⟨Nat.le_of_ble_eq_true rfl, Nat.le_of_ble_eq_true rfl⟩ (Nat.le_of_ble_eq_true rfl) noT (kkR ?_)
  exact s_iret X (Nat.le_of_ble_eq_true rfl) (Nat.le_of_ble_eq_true rfl) (by cases h; exact hO) dX12_gains_10
set_option maxRecDepth 20000 in
set_option maxHeartbeats 4000000 in
theorem L_M_loses (G : Gl) (trip_ : Int) (minutes_ : Int) (day_ : Int) (minute_ : Int) (m : Mem) (r : (Int × Mem))  (h : M_loses trip_ minutes_ day_ minute_ m = some r) : Con SHM G yX12_loses cX12_loses 5 (some .int) rm_X12_loses [VR 0, VI trip_, VI minutes_, VI day_, VI minute_] m (((.inl (some (VI r.1)), r.2) : Res × Mem)) := by
  refine con_of (own := "LastbusModel") (by decide) rfl (Nat.le_of_ble_eq_true rfl) (fun C X => ?_)
  obtain ⟨O, hO⟩ : ∃ O : Res × Mem, O = (((.inl (some (VI r.1)), r.2) : Res × Mem)) := ⟨_, rfl⟩
  rw [← hO]
  show J SHM G rm_X12_loses (.inl O) C 0 0 0 [(0, VR 0), (1, VI trip_), (2, VI minutes_), (3, VI day_), (4, VI minute_)] [] m
  unfold M_loses at h
  refine s_load0 X 0 rfl dX12_loses_0 ?_
  refine s_iload_n X 1 rfl dX12_loses_1 ?_
  refine s_iload_n X 2 rfl dX12_loses_2 ?_
  refine s_iload_n X 3 rfl dX12_loses_3 ?_
  refine s_iload X 4 rfl dX12_loses_4 ?_
  refine s_const X (by unfold InR; omega) dX12_loses_6 ?_
  obtain ⟨r_, m_, hq2, h⟩ := bq2_some h
  refine s_callV (As := [VI trip_, VI minutes_, VI day_, VI minute_, VI 0]) X cw_X12_325 SHM_0 rfl dX12_loses_7 (L_M_other G trip_ minutes_ day_ minute_ 0 m (r_, m_) hq2) rfl ⟨Nat.le_of_ble_eq_true rfl, Nat.le_of_ble_eq_true rfl⟩ ⟨Nat.le_of_ble_eq_true rfl, Nat.le_of_ble_eq_true rfl⟩ (Nat.le_of_ble_eq_true rfl) noT (kkR ?_)
  exact s_iret X (Nat.le_of_ble_eq_true rfl) (Nat.le_of_ble_eq_true rfl) (by cases h; exact hO) dX12_loses_10
set_option maxRecDepth 20000 in
set_option maxHeartbeats 4000000 in
theorem L_M_reachShare (G : Gl) (day_ : Int) (m : Mem) (r : (UInt32 × Mem))  (h : M_reachShare day_ m = some r) : Con SHM G yX12_reachShare cX12_reachShare 5 (some .float) rm_X12_reachShare [VR 0, VI day_] m (((.inl (some (VF r.1)), r.2) : Res × Mem)) := by
  refine con_of (own := "LastbusModel") (by decide) rfl (Nat.le_of_ble_eq_true rfl) (fun C X => ?_)
  obtain ⟨O, hO⟩ : ∃ O : Res × Mem, O = (((.inl (some (VF r.1)), r.2) : Res × Mem)) := ⟨_, rfl⟩
  rw [← hO]
  show J SHM G rm_X12_reachShare (.inl O) C 0 0 0 [(0, VR 0), (1, VI day_)] [] m
  unfold M_reachShare at h
  refine s_load0 X 0 rfl dX12_reachShare_0 ?_
  refine s_iload_n X 1 rfl dX12_reachShare_1 ?_
  refine s_const X (by unfold InR; omega) dX12_reachShare_2 ?_
  obtain ⟨r_, m_, hq2, h⟩ := bq2_some h
  refine s_callV (As := [VI day_, VI 1]) X cw_X12_154 SHM_0 rfl dX12_reachShare_3 (L_M_isNoDay G day_ 1 m (r_, m_) hq2) rfl ⟨Nat.le_of_ble_eq_true rfl, Nat.le_of_ble_eq_true rfl⟩ ⟨Nat.le_of_ble_eq_true rfl, Nat.le_of_ble_eq_true rfl⟩ (Nat.le_of_ble_eq_true rfl) noT (kkR ?_)
  refine s_ifne_t (tgt := 30) X dX12_reachShare_6 (by omega) (fun c5 => ?_) (fun c6 => ?_)
  · replace h := ite_pos h c5
    refine s_fconst0 X dX12_reachShare_30 ?_
    exact s_fret X (Nat.le_of_ble_eq_true rfl) (Nat.le_of_ble_eq_true rfl) (by cases h; exact hO) dX12_reachShare_31
  · replace h := ite_neg h c6
    refine s_load0 X 0 rfl dX12_reachShare_9 ?_
    have kM9 : J SHM G rm_X12_reachShare (.inl O) C 0 0 23 [(0, VR 0), (1, VI day_)] [VI (if m_ 0 1 < 2 then 1 else 0), VR 0] m_ := by
      refine s_const X (by unfold InR; omega) dX12_reachShare_23 ?_
      obtain ⟨r_2, m_2, hq12, h⟩ := bq2_some h
      refine s_callV (As := [VI (if m_ 0 1 < 2 then 1 else 0), VI 2]) X cw_X12_130 SHM_0 rfl dX12_reachShare_24 (L_M_isThrown G (if m_ 0 1 < 2 then 1 else 0) 2 m_ (r_2, m_2) hq12) rfl ⟨Nat.le_of_ble_eq_true rfl, Nat.le_of_ble_eq_true rfl⟩ ⟨Nat.le_of_ble_eq_true rfl, Nat.le_of_ble_eq_true rfl⟩ (Nat.le_of_ble_eq_true rfl) noT (kkR ?_)
      refine s_ifeq_f (tgt := 32) X dX12_reachShare_27 (by omega) (fun c15 => ?_) (fun c16 => ?_)
      · replace h := ite_neg h c15
        refine s_load0 X 0 rfl dX12_reachShare_32 ?_
        refine s_iload_n X 1 rfl dX12_reachShare_33 ?_
        refine s_const X (by unfold InR; omega) dX12_reachShare_34 ?_
        obtain ⟨m_3, hq18, h⟩ := bnd_some h
        refine s_callV (As := [VI day_, VI 0]) X cw_X12_309 SHM_0 rfl dX12_reachShare_35 (L_M_tellAll G day_ 0 m_2 m_3 hq18) rfl ⟨Nat.le_of_ble_eq_true rfl, Nat.le_of_ble_eq_true rfl⟩ ⟨Nat.le_of_ble_eq_true rfl, Nat.le_of_ble_eq_true rfl⟩ (Nat.le_of_ble_eq_true rfl) noT (kkU ?_)
        refine s_const X (by unfold InR; omega) dX12_reachShare_38 ?_
        obtain ⟨many_, e22, h⟩ := ltv_elim h
        refine s_istore_n X e22 rfl (by omega) dX12_reachShare_39 ?_
        refine s_const X (by unfold InR; omega) dX12_reachShare_40 ?_
        obtain ⟨a_, e24, h⟩ := ltv_elim h
        refine s_istore_n X e24 rfl (by omega) dX12_reachShare_41 ?_
        obtain ⟨many_6, a_4, hl34, h⟩ := bq2_some h
        obtain ⟨fu250, hl35⟩ := loop_iter hl34
        have KX31 : ∀ q9 : Int × Int, q9 = (many_6, a_4) → J SHM G rm_X12_reachShare (.inl O) C 0 0 105 [(3, VI q9.2), (2, VI q9.1), (0, VR 0), (1, VI day_)] [] m_3 := by
          intro q9 e9
          subst e9
          show J SHM G rm_X12_reachShare (.inl O) C 0 0 105 [(3, VI a_4), (2, VI many_6), (0, VR 0), (1, VI day_)] [] m_3
          obtain ⟨g71, h⟩ := grd_some h
          refine s_iload_n X 1 rfl dX12_reachShare_105 ?_
          refine s_i2f X dX12_reachShare_106 ?_
          refine s_load0 X 2 rfl dX12_reachShare_107 ?_
          refine s_getI X fk_X12_123 SHM_0 rfl dX12_reachShare_108 ?_
          refine s_load0 X 2 rfl dX12_reachShare_111 ?_
          refine s_getI X fk_X12_123 SHM_0 rfl dX12_reachShare_112 ?_
          refine s_const X (by unfold InR; omega) dX12_reachShare_115 ?_
          refine s_isub X g71.1 dX12_reachShare_116 ?_
          refine s_imul X g71.2.1 dX12_reachShare_117 ?_
          refine s_i2f X dX12_reachShare_118 ?_
          refine s_fdiv X g71.2.2 dX12_reachShare_119 ?_
          exact s_fret X (Nat.le_of_ble_eq_true rfl) (Nat.le_of_ble_eq_true rfl) (by cases h; exact hO) dX12_reachShare_120
        have LP30 : ∀ (fu25 : Nat) (many_2 : Int) (a_2 : Int), iter (fun s => M_reachShare_b1 m_3 s.1 s.2) fu25 (many_2, a_2) = some (many_6, a_4) → J SHM G rm_X12_reachShare (.inl O) C 0 0 42 [(3, VI a_2), (2, VI many_2), (0, VR 0), (1, VI day_)] [] m_3 := by
          intro fu25
          induction fu25 with
          | zero => intro many_2 a_2 hn26; exact absurd hn26 (by simp [iter])
          | succ fu25 ih29 =>
            intro many_2 a_2 hn26
            obtain ⟨x27, h, hc28⟩ := iter_succ hn26
            replace h : M_reachShare_b1 m_3 many_2 a_2 = some x27 := h
            unfold M_reachShare_b1 at h
            refine s_iload_n X 0 rfl dX12_reachShare_42 ?_
            refine s_load0 X 2 rfl dX12_reachShare_43 ?_
            refine s_getI X fk_X12_123 SHM_0 rfl dX12_reachShare_44 ?_
            refine s_icmpge_f (tgt := 105) X dX12_reachShare_47 (by omega) (fun c39 => ?_) (fun c40 => ?_)
            · replace h := ite_neg h c39
              exact KX31 _ (iter_exit h hc28)
            · replace h := ite_pos h c40
              refine s_const X (by unfold InR; omega) dX12_reachShare_50 ?_
              obtain ⟨b_, e42, h⟩ := ltv_elim h
              refine s_istore X e42 rfl (by omega) dX12_reachShare_51 ?_
              obtain ⟨many_5, b_4, hl52, h⟩ := bq2_some h
              obtain ⟨fu430, hl53⟩ := loop_iter hl52
              have KX49 : ∀ q9 : Int × Int, q9 = (many_5, b_4) → J SHM G rm_X12_reachShare (.inl O) C 0 0 99 [(4, VI q9.2), (3, VI a_2), (2, VI q9.1), (0, VR 0), (1, VI day_)] [] m_3 := by
                intro q9 e9
                subst e9
                show J SHM G rm_X12_reachShare (.inl O) C 0 0 99 [(4, VI b_4), (3, VI a_2), (2, VI many_5), (0, VR 0), (1, VI day_)] [] m_3
                obtain ⟨g69, h⟩ := grd_some h
                obtain ⟨a_3, e70, h⟩ := ltv_elim h
                refine s_iinc X 1 rfl g69 e70 rfl (by omega) dX12_reachShare_99 ?_
                refine s_goto (tgt := 42) X dX12_reachShare_102 (by omega) ?_
                refine s_loc [0, 2, 3, 4] rfl ?_
                exact ih29 _ _ (iter_next h hc28)
              have LP48 : ∀ (fu43 : Nat) (many_3 : Int) (b_2 : Int), iter (fun s => M_reachShare_b2 m_3 a_2 s.1 s.2) fu43 (many_3, b_2) = some (many_5, b_4) → J SHM G rm_X12_reachShare (.inl O) C 0 0 53 [(4, VI b_2), (3, VI a_2), (2, VI many_3), (0, VR 0), (1, VI day_)] [] m_3 := by
                intro fu43
                induction fu43 with
                | zero => intro many_3 b_2 hn44; exact absurd hn44 (by simp [iter])
                | succ fu43 ih47 =>
                  intro many_3 b_2 hn44
                  obtain ⟨x45, h, hc46⟩ := iter_succ hn44
                  replace h : M_reachShare_b2 m_3 a_2 many_3 b_2 = some x45 := h
                  unfold M_reachShare_b2 at h
                  refine s_iload X 0 rfl dX12_reachShare_53 ?_
                  refine s_load0 X 3 rfl dX12_reachShare_55 ?_
                  refine s_getI X fk_X12_123 SHM_0 rfl dX12_reachShare_56 ?_
                  refine s_icmpge_f (tgt := 99) X dX12_reachShare_59 (by omega) (fun c57 => ?_) (fun c58 => ?_)
                  · replace h := ite_neg h c57
                    exact KX49 _ (iter_exit h hc46)
                  · replace h := ite_pos h c58
                    obtain ⟨g59, h⟩ := grd_some h
                    refine s_iload_n X 2 rfl dX12_reachShare_62 ?_
                    have kM60 : J SHM G rm_X12_reachShare (.inl O) C 0 0 91 [(4, VI b_2), (3, VI a_2), (2, VI many_3), (0, VR 0), (1, VI day_)] [VI (if (¬ a_2 = b_2) ∧ (m_3 30 (12 * a_2 + b_2).toNat < 1000000) then 1 else 0), VI many_3] m_3 := by
                      refine s_iadd X g59.2.2.2.2 dX12_reachShare_91 ?_
                      obtain ⟨many_4, e66, h⟩ := ltv_elim h
                      refine s_istore_n X e66 rfl (by omega) dX12_reachShare_92 ?_
                      obtain ⟨g67, h⟩ := grd_some h
                      obtain ⟨b_3, e68, h⟩ := ltv_elim h
                      refine s_iinc X 1 rfl g67 e68 rfl (by omega) dX12_reachShare_93 ?_
                      refine s_goto (tgt := 53) X dX12_reachShare_96 (by omega) ?_
                      refine s_loc [0, 2, 1, 3, 4] rfl ?_
                      exact ih47 _ _ (iter_next h hc46)
                    refine s_iload_n X 1 rfl dX12_reachShare_63 ?_
                    refine s_iload X 0 rfl dX12_reachShare_64 ?_
                    refine s_icmpeq_f (tgt := 90) X dX12_reachShare_66 (by omega) (fun c61 => ?_) (fun c62 => ?_)
                    · refine s_const X (by unfold InR; omega) dX12_reachShare_90 ?_
                      exact s_eqt (if_neg (fun q => c61 q.1)) kM60
                    · have a63 : ¬ a_2 = b_2 := c62
                      refine s_load0 X 3 rfl dX12_reachShare_69 ?_
                      refine s_getR (id := 30) X fk_X12_108 SHM_0 rfl dX12_reachShare_70 ?_
                      refine s_bipush X (by omega) dX12_reachShare_73 ?_
                      refine s_iload_n X 1 rfl dX12_reachShare_75 ?_
                      refine s_imul X (g59.1 a63) dX12_reachShare_76 ?_
                      refine s_iload X 0 rfl dX12_reachShare_77 ?_
                      refine s_iadd X (g59.2.1 a63) dX12_reachShare_79 ?_
                      refine s_iald X SHM_30 (g59.2.2.1 a63) (g59.2.2.2.1 a63) dX12_reachShare_80 ?_
                      refine s_ldc (z := 1000000) X (by unfold InR; omega) kc_X12_150 dX12_reachShare_81 ?_
                      refine s_icmpge_f (tgt := 90) X dX12_reachShare_83 (by omega) (fun c64 => ?_) (fun c65 => ?_)
                      · refine s_const X (by unfold InR; omega) dX12_reachShare_90 ?_
                        exact s_eqt (if_neg (fun q => c64 q.2)) kM60
                      · refine s_const X (by unfold InR; omega) dX12_reachShare_86 ?_
                        refine s_goto (tgt := 91) X dX12_reachShare_87 (by omega) ?_
                        exact s_eqt (if_pos ⟨a63, c65⟩) kM60
              exact LP48 _ _ _ hl53
        exact LP30 _ _ _ hl35
      · replace h := ite_pos h c16
        refine s_fconst0 X dX12_reachShare_30 ?_
        exact s_fret X (Nat.le_of_ble_eq_true rfl) (Nat.le_of_ble_eq_true rfl) (by cases h; exact hO) dX12_reachShare_31
    refine s_load0 X 0 rfl dX12_reachShare_10 ?_
    refine s_getI X fk_X12_123 SHM_0 rfl dX12_reachShare_11 ?_
    refine s_const X (by unfold InR; omega) dX12_reachShare_14 ?_
    refine s_icmpge_f (tgt := 22) X dX12_reachShare_15 (by omega) (fun c10 => ?_) (fun c11 => ?_)
    · refine s_const X (by unfold InR; omega) dX12_reachShare_22 ?_
      exact s_eqt (if_neg c10) kM9
    · refine s_const X (by unfold InR; omega) dX12_reachShare_18 ?_
      refine s_goto (tgt := 23) X dX12_reachShare_19 (by omega) ?_
      exact s_eqt (if_pos c11) kM9
set_option maxRecDepth 20000 in
set_option maxHeartbeats 4000000 in
theorem L_M_meanBetween (G : Gl)  (m : Mem) (r : (UInt64 × Mem))  (h : M_meanBetween  m = some r) : Con SHM G yX12_meanBetween cX12_meanBetween 5 (some .double) rm_X12_meanBetween [VR 0] m (((.inl (some (VD r.1)), r.2) : Res × Mem)) := by
  refine con_of (own := "LastbusModel") (by decide) rfl (Nat.le_of_ble_eq_true rfl) (fun C X => ?_)
  obtain ⟨O, hO⟩ : ∃ O : Res × Mem, O = (((.inl (some (VD r.1)), r.2) : Res × Mem)) := ⟨_, rfl⟩
  rw [← hO]
  show J SHM G rm_X12_meanBetween (.inl O) C 0 0 0 [(0, VR 0)] [] m
  unfold M_meanBetween at h
  refine s_const X (by unfold InR; omega) dX12_meanBetween_0 ?_
  obtain ⟨many_, e2, h⟩ := ltv_elim h
  refine s_istore_n X e2 rfl (by omega) dX12_meanBetween_1 ?_
  refine s_const X (by unfold InR; omega) dX12_meanBetween_2 ?_
  obtain ⟨sum_, e4, h⟩ := ltv_elim h
  refine s_istore_n X e4 rfl (by omega) dX12_meanBetween_3 ?_
  refine s_const X (by unfold InR; omega) dX12_meanBetween_4 ?_
  obtain ⟨t_, e6, h⟩ := ltv_elim h
  refine s_istore_n X e6 rfl (by omega) dX12_meanBetween_5 ?_
  obtain ⟨many_6, sum_6, t_4, hl16, h⟩ := bq3_some h
  obtain ⟨fu70, hl17⟩ := loop_iter hl16
  have KX13 : ∀ q9 : Int × Int × Int, q9 = (many_6, sum_6, t_4) → J SHM G rm_X12_meanBetween (.inl O) C 0 0 73 [(3, VI q9.2.2), (2, VI q9.2.1), (1, VI q9.1), (0, VR 0)] [] m := by
    intro q9 e9
    subst e9
    show J SHM G rm_X12_meanBetween (.inl O) C 0 0 73 [(3, VI t_4), (2, VI sum_6), (1, VI many_6), (0, VR 0)] [] m
    refine s_load0 X 3 rfl dX12_meanBetween_73 ?_
    have kM50 : J SHM G rm_X12_meanBetween (.inl O) C 0 0 83 [(3, VI t_4), (2, VI sum_6), (1, VI many_6), (0, VR 0)] [VI (if many_6 = 0 then 1 else 0), VR 0] m := by
      refine s_const X (by unfold InR; omega) dX12_meanBetween_83 ?_
      obtain ⟨r_, m_, hq53, h⟩ := bq2_some h
      refine s_callV (As := [VI (if many_6 = 0 then 1 else 0), VI 1]) X cw_X12_130 SHM_0 rfl dX12_meanBetween_84 (L_M_isThrown G (if many_6 = 0 then 1 else 0) 1 m (r_, m_) hq53) rfl ⟨Nat.le_of_ble_eq_true rfl, Nat.le_of_ble_eq_true rfl⟩ ⟨Nat.le_of_ble_eq_true rfl, Nat.le_of_ble_eq_true rfl⟩ (Nat.le_of_ble_eq_true rfl) noT (kkR ?_)
      refine s_ifeq_f (tgt := 94) X dX12_meanBetween_87 (by omega) (fun c56 => ?_) (fun c57 => ?_)
      · replace h := ite_neg h c56
        obtain ⟨g58, h⟩ := grd_some h
        refine s_iload_n X 1 rfl dX12_meanBetween_94 ?_
        refine s_i2d X dX12_meanBetween_95 ?_
        refine s_iload_n X 2 rfl dX12_meanBetween_96 ?_
        refine s_i2d X dX12_meanBetween_97 ?_
        refine s_ddiv X g58 dX12_meanBetween_98 ?_
        exact s_dret X (Nat.le_of_ble_eq_true rfl) (Nat.le_of_ble_eq_true rfl) (by cases h; exact hO) dX12_meanBetween_99
      · replace h := ite_pos h c57
        refine s_dconst0 X dX12_meanBetween_90 ?_
        refine s_goto (tgt := 99) X dX12_meanBetween_91 (by omega) ?_
        exact s_dret X (Nat.le_of_ble_eq_true rfl) (Nat.le_of_ble_eq_true rfl) (by cases h; exact hO) dX12_meanBetween_99
    refine s_iload_n X 2 rfl dX12_meanBetween_74 ?_
    refine s_ifne_f (tgt := 82) X dX12_meanBetween_75 (by omega) (fun c51 => ?_) (fun c52 => ?_)
    · refine s_const X (by unfold InR; omega) dX12_meanBetween_82 ?_
      exact s_eqt (if_neg c51) kM50
    · refine s_const X (by unfold InR; omega) dX12_meanBetween_78 ?_
      refine s_goto (tgt := 83) X dX12_meanBetween_79 (by omega) ?_
      exact s_eqt (if_pos c52) kM50
  have LP12 : ∀ (fu7 : Nat) (many_2 : Int) (sum_2 : Int) (t_2 : Int), iter (fun s => M_meanBetween_b1 m s.1 s.2.1 s.2.2) fu7 (many_2, sum_2, t_2) = some (many_6, sum_6, t_4) → J SHM G rm_X12_meanBetween (.inl O) C 0 0 6 [(3, VI t_2), (2, VI sum_2), (1, VI many_2), (0, VR 0)] [] m := by
    intro fu7
    induction fu7 with
    | zero => intro many_2 sum_2 t_2 hn8; exact absurd hn8 (by simp [iter])
    | succ fu7 ih11 =>
      intro many_2 sum_2 t_2 hn8
      obtain ⟨x9, h, hc10⟩ := iter_succ hn8
      replace h : M_meanBetween_b1 m many_2 sum_2 t_2 = some x9 := h
      unfold M_meanBetween_b1 at h
      refine s_iload_n X 0 rfl dX12_meanBetween_6 ?_
      refine s_load0 X 3 rfl dX12_meanBetween_7 ?_
      refine s_getI X fk_X12_137 SHM_0 rfl dX12_meanBetween_8 ?_
      refine s_icmpge_f (tgt := 73) X dX12_meanBetween_11 (by omega) (fun c21 => ?_) (fun c22 => ?_)
      · replace h := ite_neg h c21
        exact KX13 _ (iter_exit h hc10)
      · replace h := ite_pos h c22
        refine s_const X (by unfold InR; omega) dX12_meanBetween_14 ?_
        obtain ⟨c_, e24, h⟩ := ltv_elim h
        refine s_istore X e24 rfl (by omega) dX12_meanBetween_15 ?_
        obtain ⟨many_5, sum_5, c_4, hl34, h⟩ := bq3_some h
        obtain ⟨fu250, hl35⟩ := loop_iter hl34
        have KX31 : ∀ q9 : Int × Int × Int, q9 = (many_5, sum_5, c_4) → J SHM G rm_X12_meanBetween (.inl O) C 0 0 67 [(4, VI q9.2.2), (3, VI t_2), (2, VI q9.2.1), (1, VI q9.1), (0, VR 0)] [] m := by
          intro q9 e9
          subst e9
          show J SHM G rm_X12_meanBetween (.inl O) C 0 0 67 [(4, VI c_4), (3, VI t_2), (2, VI sum_5), (1, VI many_5), (0, VR 0)] [] m
          obtain ⟨g47, h⟩ := grd_some h
          obtain ⟨t_3, e48, h⟩ := ltv_elim h
          refine s_iinc X 1 rfl g47 e48 rfl (by omega) dX12_meanBetween_67 ?_
          refine s_goto (tgt := 6) X dX12_meanBetween_70 (by omega) ?_
          refine s_loc [0, 2, 3, 4] rfl ?_
          exact ih11 _ _ _ (iter_next h hc10)
        have LP30 : ∀ (fu25 : Nat) (many_3 : Int) (sum_3 : Int) (c_2 : Int), iter (fun s => M_meanBetween_b2 m t_2 s.1 s.2.1 s.2.2) fu25 (many_3, sum_3, c_2) = some (many_5, sum_5, c_4) → J SHM G rm_X12_meanBetween (.inl O) C 0 0 17 [(4, VI c_2), (3, VI t_2), (2, VI sum_3), (1, VI many_3), (0, VR 0)] [] m := by
          intro fu25
          induction fu25 with
          | zero => intro many_3 sum_3 c_2 hn26; exact absurd hn26 (by simp [iter])
          | succ fu25 ih29 =>
            intro many_3 sum_3 c_2 hn26
            obtain ⟨x27, h, hc28⟩ := iter_succ hn26
            replace h : M_meanBetween_b2 m t_2 many_3 sum_3 c_2 = some x27 := h
            unfold M_meanBetween_b2 at h
            obtain ⟨g36, h⟩ := grd_some h
            refine s_iload X 0 rfl dX12_meanBetween_17 ?_
            refine s_load0 X 4 rfl dX12_meanBetween_19 ?_
            refine s_getR (id := 6) X fk_X12_30 SHM_0 rfl dX12_meanBetween_20 ?_
            refine s_iload_n X 1 rfl dX12_meanBetween_23 ?_
            refine s_iald X SHM_6 g36.1 g36.2 dX12_meanBetween_24 ?_
            refine s_icmpge_f (tgt := 67) X dX12_meanBetween_25 (by omega) (fun c39 => ?_) (fun c40 => ?_)
            · replace h := ite_neg h c39
              exact KX31 _ (iter_exit h hc28)
            · replace h := ite_pos h c40
              obtain ⟨g41, h⟩ := grd_some h
              refine s_iload_n X 2 rfl dX12_meanBetween_28 ?_
              refine s_load0 X 4 rfl dX12_meanBetween_29 ?_
              refine s_getR (id := 8) X fk_X12_36 SHM_0 rfl dX12_meanBetween_30 ?_
              refine s_bipush X (by omega) dX12_meanBetween_33 ?_
              refine s_iload_n X 1 rfl dX12_meanBetween_35 ?_
              refine s_imul X g41.1 dX12_meanBetween_36 ?_
              refine s_iload X 0 rfl dX12_meanBetween_37 ?_
              refine s_iadd X g41.2.1 dX12_meanBetween_39 ?_
              refine s_iald X SHM_8 g41.2.2.1 g41.2.2.2.1 dX12_meanBetween_40 ?_
              refine s_load0 X 4 rfl dX12_meanBetween_41 ?_
              refine s_getR (id := 9) X fk_X12_39 SHM_0 rfl dX12_meanBetween_42 ?_
              refine s_bipush X (by omega) dX12_meanBetween_45 ?_
              refine s_iload_n X 1 rfl dX12_meanBetween_47 ?_
              refine s_imul X g41.1 dX12_meanBetween_48 ?_
              refine s_iload X 0 rfl dX12_meanBetween_49 ?_
              refine s_iadd X g41.2.1 dX12_meanBetween_51 ?_
              refine s_const X (by unfold InR; omega) dX12_meanBetween_52 ?_
              refine s_isub X g41.2.2.2.2.1 dX12_meanBetween_53 ?_
              refine s_iald X SHM_9 g41.2.2.2.2.2.1 g41.2.2.2.2.2.2.1 dX12_meanBetween_54 ?_
              refine s_isub X g41.2.2.2.2.2.2.2.1 dX12_meanBetween_55 ?_
              refine s_iadd X g41.2.2.2.2.2.2.2.2 dX12_meanBetween_56 ?_
              obtain ⟨sum_4, e42, h⟩ := ltv_elim h
              refine s_istore_n X e42 rfl (by omega) dX12_meanBetween_57 ?_
              obtain ⟨g43, h⟩ := grd_some h
              obtain ⟨many_4, e44, h⟩ := ltv_elim h
              refine s_iinc X 3 rfl g43 e44 rfl (by omega) dX12_meanBetween_58 ?_
              obtain ⟨g45, h⟩ := grd_some h
              obtain ⟨c_3, e46, h⟩ := ltv_elim h
              refine s_iinc X 2 rfl g45 e46 rfl (by omega) dX12_meanBetween_61 ?_
              refine s_goto (tgt := 17) X dX12_meanBetween_64 (by omega) ?_
              refine s_loc [0, 3, 2, 1, 4] rfl ?_
              exact ih29 _ _ _ (iter_next h hc28)
        exact LP30 _ _ _ _ hl35
  exact LP12 _ _ _ _ hl17
set_option maxRecDepth 20000 in
set_option maxHeartbeats 4000000 in
theorem L_M_checksum (G : Gl)  (m : Mem) (r : (Int64 × Mem))  (h : M_checksum  m = some r) : Con SHM G yX12_checksum cX12_checksum 5 (some .long) rm_X12_checksum [VR 0] m (((.inl (some (VL r.1)), r.2) : Res × Mem)) := by
  refine con_of (own := "LastbusModel") (by decide) rfl (Nat.le_of_ble_eq_true rfl) (fun C X => ?_)
  obtain ⟨O, hO⟩ : ∃ O : Res × Mem, O = (((.inl (some (VL r.1)), r.2) : Res × Mem)) := ⟨_, rfl⟩
  rw [← hO]
  show J SHM G rm_X12_checksum (.inl O) C 0 0 0 [(0, VR 0)] [] m
  unfold M_checksum at h
  refine s_load0 X 0 rfl dX12_checksum_0 ?_
  refine s_const X (by unfold InR; omega) dX12_checksum_1 ?_
  obtain ⟨m_, e2, h⟩ := ltv_elim h
  refine s_putI X e2 fp_X12_120 SHM_0 rfl trivial dX12_checksum_2 ?_
  refine s_ldc2 X kl_X12_329 dX12_checksum_5 ?_
  obtain ⟨sum_, e4, h⟩ := ltv_elim h
  refine s_lstore_n X e4 rfl (by omega) dX12_checksum_8 ?_
  refine s_const X (by unfold InR; omega) dX12_checksum_9 ?_
  obtain ⟨v_, e6, h⟩ := ltv_elim h
  refine s_istore_n X e6 rfl (by omega) dX12_checksum_10 ?_
  obtain ⟨sum_4, v_4, hl16, h⟩ := bq2_some h
  obtain ⟨fu70, hl17⟩ := loop_iter hl16
  have KX13 : ∀ q9 : Int64 × Int, q9 = (sum_4, v_4) → J SHM G rm_X12_checksum (.inl O) C 0 0 39 [(3, VI q9.2), (1, VL q9.1), (0, VR 0)] [] m_ := by
    intro q9 e9
    subst e9
    show J SHM G rm_X12_checksum (.inl O) C 0 0 39 [(3, VI v_4), (1, VL sum_4), (0, VR 0)] [] m_
    refine s_const X (by unfold InR; omega) dX12_checksum_39 ?_
    obtain ⟨t_, e28, h⟩ := ltv_elim h
    refine s_istore_n X e28 rfl (by omega) dX12_checksum_40 ?_
    obtain ⟨sum_12, t_4, hl38, h⟩ := bq2_some h
    obtain ⟨fu290, hl39⟩ := loop_iter hl38
    have KX35 : ∀ q9 : Int64 × Int, q9 = (sum_12, t_4) → J SHM G rm_X12_checksum (.inl O) C 0 0 149 [(3, VI q9.2), (1, VL q9.1), (0, VR 0)] [] m_ := by
      intro q9 e9
      subst e9
      show J SHM G rm_X12_checksum (.inl O) C 0 0 149 [(3, VI t_4), (1, VL sum_12), (0, VR 0)] [] m_
      refine s_const X (by unfold InR; omega) dX12_checksum_149 ?_
      obtain ⟨s_, e76, h⟩ := ltv_elim h
      refine s_istore_n X e76 rfl (by omega) dX12_checksum_150 ?_
      obtain ⟨sum_17, s_4, hl86, h⟩ := bq2_some h
      obtain ⟨fu770, hl87⟩ := loop_iter hl86
      have KX83 : ∀ q9 : Int64 × Int, q9 = (sum_17, s_4) → J SHM G rm_X12_checksum (.inl O) C 0 0 209 [(3, VI q9.2), (1, VL q9.1), (0, VR 0)] [] m_ := by
        intro q9 e9
        subst e9
        show J SHM G rm_X12_checksum (.inl O) C 0 0 209 [(3, VI s_4), (1, VL sum_17), (0, VR 0)] [] m_
        refine s_ldc2 X kl_X12_331 dX12_checksum_209 ?_
        refine s_lload_n X 1 rfl dX12_checksum_212 ?_
        refine s_lmul X dX12_checksum_213 ?_
        refine s_load0 X 2 rfl dX12_checksum_214 ?_
        refine s_getI X fk_X12_172 SHM_0 rfl dX12_checksum_215 ?_
        refine s_i2l X dX12_checksum_218 ?_
        refine s_ladd X dX12_checksum_219 ?_
        exact s_lret X (Nat.le_of_ble_eq_true rfl) (Nat.le_of_ble_eq_true rfl) (by cases h; exact hO) dX12_checksum_220
      have LP82 : ∀ (fu77 : Nat) (sum_13 : Int64) (s_2 : Int), iter (fun s => M_checksum_b4 m_ s.1 s.2) fu77 (sum_13, s_2) = some (sum_17, s_4) → J SHM G rm_X12_checksum (.inl O) C 0 0 151 [(3, VI s_2), (1, VL sum_13), (0, VR 0)] [] m_ := by
        intro fu77
        induction fu77 with
        | zero => intro sum_13 s_2 hn78; exact absurd hn78 (by simp [iter])
        | succ fu77 ih81 =>
          intro sum_13 s_2 hn78
          obtain ⟨x79, h, hc80⟩ := iter_succ hn78
          replace h : M_checksum_b4 m_ sum_13 s_2 = some x79 := h
          unfold M_checksum_b4 at h
          refine s_iload_n X 0 rfl dX12_checksum_151 ?_
          refine s_load0 X 2 rfl dX12_checksum_152 ?_
          refine s_getI X fk_X12_134 SHM_0 rfl dX12_checksum_153 ?_
          refine s_icmpge_f (tgt := 209) X dX12_checksum_156 (by omega) (fun c91 => ?_) (fun c92 => ?_)
          · replace h := ite_neg h c91
            exact KX83 _ (iter_exit h hc80)
          · replace h := ite_pos h c92
            refine s_const X (by unfold InR; omega) dX12_checksum_159 ?_
            obtain ⟨d_, e94, h⟩ := ltv_elim h
            refine s_istore X e94 rfl (by omega) dX12_checksum_160 ?_
            obtain ⟨sum_16, d_4, hl104, h⟩ := bq2_some h
            obtain ⟨fu950, hl105⟩ := loop_iter hl104
            have KX101 : ∀ q9 : Int64 × Int, q9 = (sum_16, d_4) → J SHM G rm_X12_checksum (.inl O) C 0 0 203 [(4, VI q9.2), (3, VI s_2), (1, VL q9.1), (0, VR 0)] [] m_ := by
              intro q9 e9
              subst e9
              show J SHM G rm_X12_checksum (.inl O) C 0 0 203 [(4, VI d_4), (3, VI s_2), (1, VL sum_16), (0, VR 0)] [] m_
              obtain ⟨g118, h⟩ := grd_some h
              obtain ⟨s_3, e119, h⟩ := ltv_elim h
              refine s_iinc X 1 rfl g118 e119 rfl (by omega) dX12_checksum_203 ?_
              refine s_goto (tgt := 151) X dX12_checksum_206 (by omega) ?_
              refine s_loc [0, 2, 3] rfl ?_
              exact ih81 _ _ (iter_next h hc80)
            have LP100 : ∀ (fu95 : Nat) (sum_14 : Int64) (d_2 : Int), iter (fun s => M_checksum_b5 m_ s_2 s.1 s.2) fu95 (sum_14, d_2) = some (sum_16, d_4) → J SHM G rm_X12_checksum (.inl O) C 0 0 162 [(4, VI d_2), (3, VI s_2), (1, VL sum_14), (0, VR 0)] [] m_ := by
              intro fu95
              induction fu95 with
              | zero => intro sum_14 d_2 hn96; exact absurd hn96 (by simp [iter])
              | succ fu95 ih99 =>
                intro sum_14 d_2 hn96
                obtain ⟨x97, h, hc98⟩ := iter_succ hn96
                replace h : M_checksum_b5 m_ s_2 sum_14 d_2 = some x97 := h
                unfold M_checksum_b5 at h
                refine s_iload X 0 rfl dX12_checksum_162 ?_
                refine s_bipush X (by omega) dX12_checksum_164 ?_
                refine s_icmpge_f (tgt := 203) X dX12_checksum_166 (by omega) (fun c109 => ?_) (fun c110 => ?_)
                · replace h := ite_neg h c109
                  exact KX101 _ (iter_exit h hc98)
                · replace h := ite_pos h c110
                  obtain ⟨g111, h⟩ := grd_some h
                  refine s_ldc2 X kl_X12_331 dX12_checksum_169 ?_
                  refine s_lload_n X 2 rfl dX12_checksum_172 ?_
                  refine s_lmul X dX12_checksum_173 ?_
                  have kM112 : J SHM G rm_X12_checksum (.inl O) C 0 0 194 [(4, VI d_2), (3, VI s_2), (1, VL sum_14), (0, VR 0)] [VI (if ¬ m_ 4 (28 * s_2 + d_2).toNat = 0 then 1 else 0), VL (31 * sum_14)] m_ := by
                    refine s_i2l X dX12_checksum_194 ?_
                    refine s_ladd X dX12_checksum_195 ?_
                    obtain ⟨sum_15, e115, h⟩ := ltv_elim h
                    refine s_lstore_n X e115 rfl (by omega) dX12_checksum_196 ?_
                    obtain ⟨g116, h⟩ := grd_some h
                    obtain ⟨d_3, e117, h⟩ := ltv_elim h
                    refine s_iinc X 1 rfl g116 e117 rfl (by omega) dX12_checksum_197 ?_
                    refine s_goto (tgt := 162) X dX12_checksum_200 (by omega) ?_
                    refine s_loc [0, 2, 1, 3] rfl ?_
                    exact ih99 _ _ (iter_next h hc98)
                  refine s_load0 X 3 rfl dX12_checksum_174 ?_
                  refine s_getR (id := 4) X fk_X12_23 SHM_0 rfl dX12_checksum_175 ?_
                  refine s_bipush X (by omega) dX12_checksum_178 ?_
                  refine s_iload_n X 1 rfl dX12_checksum_180 ?_
                  refine s_imul X g111.1 dX12_checksum_181 ?_
                  refine s_iload X 0 rfl dX12_checksum_182 ?_
                  refine s_iadd X g111.2.1 dX12_checksum_184 ?_
                  refine s_bald X SHM_4 g111.2.2.1 g111.2.2.2 dX12_checksum_185 ?_
                  refine s_ifeq_f (tgt := 193) X dX12_checksum_186 (by omega) (fun c113 => ?_) (fun c114 => ?_)
                  · refine s_const X (by unfold InR; omega) dX12_checksum_193 ?_
                    exact s_eqt (if_neg c113) kM112
                  · refine s_const X (by unfold InR; omega) dX12_checksum_189 ?_
                    refine s_goto (tgt := 194) X dX12_checksum_190 (by omega) ?_
                    exact s_eqt (if_pos c114) kM112
            exact LP100 _ _ _ hl105
      exact LP82 _ _ _ hl87
    have LP34 : ∀ (fu29 : Nat) (sum_5 : Int64) (t_2 : Int), iter (fun s => M_checksum_b2 m_ s.1 s.2) fu29 (sum_5, t_2) = some (sum_12, t_4) → J SHM G rm_X12_checksum (.inl O) C 0 0 41 [(3, VI t_2), (1, VL sum_5), (0, VR 0)] [] m_ := by
      intro fu29
      induction fu29 with
      | zero => intro sum_5 t_2 hn30; exact absurd hn30 (by simp [iter])
      | succ fu29 ih33 =>
        intro sum_5 t_2 hn30
        obtain ⟨x31, h, hc32⟩ := iter_succ hn30
        replace h : M_checksum_b2 m_ sum_5 t_2 = some x31 := h
        unfold M_checksum_b2 at h
        refine s_iload_n X 0 rfl dX12_checksum_41 ?_
        refine s_load0 X 2 rfl dX12_checksum_42 ?_
        refine s_getI X fk_X12_137 SHM_0 rfl dX12_checksum_43 ?_
        refine s_icmpge_f (tgt := 149) X dX12_checksum_46 (by omega) (fun c43 => ?_) (fun c44 => ?_)
        · replace h := ite_neg h c43
          exact KX35 _ (iter_exit h hc32)
        · replace h := ite_pos h c44
          obtain ⟨g45, h⟩ := grd_some h
          refine s_ldc2 X kl_X12_331 dX12_checksum_49 ?_
          refine s_lload_n X 1 rfl dX12_checksum_52 ?_
          refine s_lmul X dX12_checksum_53 ?_
          refine s_load0 X 2 rfl dX12_checksum_54 ?_
          refine s_getR (id := 5) X fk_X12_27 SHM_0 rfl dX12_checksum_55 ?_
          refine s_iload_n X 0 rfl dX12_checksum_58 ?_
          refine s_iald X SHM_5 g45.1 g45.2 dX12_checksum_59 ?_
          refine s_i2l X dX12_checksum_60 ?_
          refine s_ladd X dX12_checksum_61 ?_
          obtain ⟨sum_6, e46, h⟩ := ltv_elim h
          refine s_lstore_n X e46 rfl (by omega) dX12_checksum_62 ?_
          refine s_const X (by unfold InR; omega) dX12_checksum_63 ?_
          obtain ⟨c_, e48, h⟩ := ltv_elim h
          refine s_istore X e48 rfl (by omega) dX12_checksum_64 ?_
          obtain ⟨sum_11, c_4, hl58, h⟩ := bq2_some h
          obtain ⟨fu490, hl59⟩ := loop_iter hl58
          have KX55 : ∀ q9 : Int64 × Int, q9 = (sum_11, c_4) → J SHM G rm_X12_checksum (.inl O) C 0 0 143 [(4, VI q9.2), (1, VL q9.1), (3, VI t_2), (0, VR 0)] [] m_ := by
            intro q9 e9
            subst e9
            show J SHM G rm_X12_checksum (.inl O) C 0 0 143 [(4, VI c_4), (1, VL sum_11), (3, VI t_2), (0, VR 0)] [] m_
            obtain ⟨g73, h⟩ := grd_some h
            obtain ⟨t_3, e74, h⟩ := ltv_elim h
            refine s_iinc X 2 rfl g73 e74 rfl (by omega) dX12_checksum_143 ?_
            refine s_goto (tgt := 41) X dX12_checksum_146 (by omega) ?_
            refine s_loc [0, 2, 3] rfl ?_
            exact ih33 _ _ (iter_next h hc32)
          have LP54 : ∀ (fu49 : Nat) (sum_7 : Int64) (c_2 : Int), iter (fun s => M_checksum_b3 m_ t_2 s.1 s.2) fu49 (sum_7, c_2) = some (sum_11, c_4) → J SHM G rm_X12_checksum (.inl O) C 0 0 66 [(4, VI c_2), (1, VL sum_7), (3, VI t_2), (0, VR 0)] [] m_ := by
            intro fu49
            induction fu49 with
            | zero => intro sum_7 c_2 hn50; exact absurd hn50 (by simp [iter])
            | succ fu49 ih53 =>
              intro sum_7 c_2 hn50
              obtain ⟨x51, h, hc52⟩ := iter_succ hn50
              replace h : M_checksum_b3 m_ t_2 sum_7 c_2 = some x51 := h
              unfold M_checksum_b3 at h
              obtain ⟨g60, h⟩ := grd_some h
              refine s_iload X 0 rfl dX12_checksum_66 ?_
              refine s_load0 X 3 rfl dX12_checksum_68 ?_
              refine s_getR (id := 6) X fk_X12_30 SHM_0 rfl dX12_checksum_69 ?_
              refine s_iload_n X 2 rfl dX12_checksum_72 ?_
              refine s_iald X SHM_6 g60.1 g60.2 dX12_checksum_73 ?_
              refine s_icmpge_f (tgt := 143) X dX12_checksum_74 (by omega) (fun c63 => ?_) (fun c64 => ?_)
              · replace h := ite_neg h c63
                exact KX55 _ (iter_exit h hc52)
              · replace h := ite_pos h c64
                obtain ⟨g65, h⟩ := grd_some h
                refine s_ldc2 X kl_X12_331 dX12_checksum_77 ?_
                refine s_lload_n X 1 rfl dX12_checksum_80 ?_
                refine s_lmul X dX12_checksum_81 ?_
                refine s_load0 X 3 rfl dX12_checksum_82 ?_
                refine s_getR (id := 7) X fk_X12_33 SHM_0 rfl dX12_checksum_83 ?_
                refine s_bipush X (by omega) dX12_checksum_86 ?_
                refine s_iload_n X 2 rfl dX12_checksum_88 ?_
                refine s_imul X g65.1 dX12_checksum_89 ?_
                refine s_iload X 0 rfl dX12_checksum_90 ?_
                refine s_iadd X g65.2.1 dX12_checksum_92 ?_
                refine s_iald X SHM_7 g65.2.2.1 g65.2.2.2 dX12_checksum_93 ?_
                refine s_i2l X dX12_checksum_94 ?_
                refine s_ladd X dX12_checksum_95 ?_
                obtain ⟨sum_8, e66, h⟩ := ltv_elim h
                refine s_lstore_n X e66 rfl (by omega) dX12_checksum_96 ?_
                refine s_ldc2 X kl_X12_331 dX12_checksum_97 ?_
                refine s_lload_n X 0 rfl dX12_checksum_100 ?_
                refine s_lmul X dX12_checksum_101 ?_
                refine s_load0 X 3 rfl dX12_checksum_102 ?_
                refine s_getR (id := 8) X fk_X12_36 SHM_0 rfl dX12_checksum_103 ?_
                refine s_bipush X (by omega) dX12_checksum_106 ?_
                refine s_iload_n X 2 rfl dX12_checksum_108 ?_
                refine s_imul X g65.1 dX12_checksum_109 ?_
                refine s_iload X 1 rfl dX12_checksum_110 ?_
                refine s_iadd X g65.2.1 dX12_checksum_112 ?_
                refine s_iald X SHM_8 g65.2.2.1 g65.2.2.2 dX12_checksum_113 ?_
                refine s_i2l X dX12_checksum_114 ?_
                refine s_ladd X dX12_checksum_115 ?_
                obtain ⟨sum_9, e68, h⟩ := ltv_elim h
                refine s_lstore_n X e68 rfl (by omega) dX12_checksum_116 ?_
                refine s_ldc2 X kl_X12_331 dX12_checksum_117 ?_
                refine s_lload_n X 0 rfl dX12_checksum_120 ?_
                refine s_lmul X dX12_checksum_121 ?_
                refine s_load0 X 3 rfl dX12_checksum_122 ?_
                refine s_getR (id := 9) X fk_X12_39 SHM_0 rfl dX12_checksum_123 ?_
                refine s_bipush X (by omega) dX12_checksum_126 ?_
                refine s_iload_n X 2 rfl dX12_checksum_128 ?_
                refine s_imul X g65.1 dX12_checksum_129 ?_
                refine s_iload X 1 rfl dX12_checksum_130 ?_
                refine s_iadd X g65.2.1 dX12_checksum_132 ?_
                refine s_iald X SHM_9 g65.2.2.1 g65.2.2.2 dX12_checksum_133 ?_
                refine s_i2l X dX12_checksum_134 ?_
                refine s_ladd X dX12_checksum_135 ?_
                obtain ⟨sum_10, e70, h⟩ := ltv_elim h
                refine s_lstore_n X e70 rfl (by omega) dX12_checksum_136 ?_
                obtain ⟨g71, h⟩ := grd_some h
                obtain ⟨c_3, e72, h⟩ := ltv_elim h
                refine s_iinc X 1 rfl g71 e72 rfl (by omega) dX12_checksum_137 ?_
                refine s_goto (tgt := 66) X dX12_checksum_140 (by omega) ?_
                exact ih53 _ _ (iter_next h hc52)
          exact LP54 _ _ _ hl59
    exact LP34 _ _ _ hl39
  have LP12 : ∀ (fu7 : Nat) (sum_2 : Int64) (v_2 : Int), iter (fun s => M_checksum_b1 m_ s.1 s.2) fu7 (sum_2, v_2) = some (sum_4, v_4) → J SHM G rm_X12_checksum (.inl O) C 0 0 11 [(3, VI v_2), (1, VL sum_2), (0, VR 0)] [] m_ := by
    intro fu7
    induction fu7 with
    | zero => intro sum_2 v_2 hn8; exact absurd hn8 (by simp [iter])
    | succ fu7 ih11 =>
      intro sum_2 v_2 hn8
      obtain ⟨x9, h, hc10⟩ := iter_succ hn8
      replace h : M_checksum_b1 m_ sum_2 v_2 = some x9 := h
      unfold M_checksum_b1 at h
      refine s_iload_n X 0 rfl dX12_checksum_11 ?_
      refine s_load0 X 2 rfl dX12_checksum_12 ?_
      refine s_getI X fk_X12_123 SHM_0 rfl dX12_checksum_13 ?_
      refine s_icmpge_f (tgt := 39) X dX12_checksum_16 (by omega) (fun c21 => ?_) (fun c22 => ?_)
      · replace h := ite_neg h c21
        exact KX13 _ (iter_exit h hc10)
      · replace h := ite_pos h c22
        obtain ⟨g23, h⟩ := grd_some h
        refine s_ldc2 X kl_X12_331 dX12_checksum_19 ?_
        refine s_lload_n X 1 rfl dX12_checksum_22 ?_
        refine s_lmul X dX12_checksum_23 ?_
        refine s_load0 X 2 rfl dX12_checksum_24 ?_
        refine s_getR (id := 1) X fk_X12_9 SHM_0 rfl dX12_checksum_25 ?_
        refine s_iload_n X 0 rfl dX12_checksum_28 ?_
        refine s_iald X SHM_1 g23.1 g23.2 dX12_checksum_29 ?_
        refine s_i2l X dX12_checksum_30 ?_
        refine s_ladd X dX12_checksum_31 ?_
        obtain ⟨sum_3, e24, h⟩ := ltv_elim h
        refine s_lstore_n X e24 rfl (by omega) dX12_checksum_32 ?_
        obtain ⟨g25, h⟩ := grd_some h
        obtain ⟨v_3, e26, h⟩ := ltv_elim h
        refine s_iinc X 1 rfl g25 e26 rfl (by omega) dX12_checksum_33 ?_
        refine s_goto (tgt := 11) X dX12_checksum_36 (by omega) ?_
        exact ih11 _ _ (iter_next h hc10)
  exact LP12 _ _ _ hl17
set_option maxRecDepth 20000 in
set_option maxHeartbeats 4000000 in
theorem L_M_isSound (G : Gl) (day_ : Int) (m : Mem) (r : (Int × Mem))  (h : M_isSound day_ m = some r) : Con SHM G yX12_isSound cX12_isSound 2 (some .boolean) rm_X12_isSound [VR 0, VI day_] m (((.inl (some (VI r.1)), r.2) : Res × Mem)) := by
  refine con_of (own := "LastbusModel") (by decide) rfl (Nat.le_of_ble_eq_true rfl) (fun C X => ?_)
  obtain ⟨O, hO⟩ : ∃ O : Res × Mem, O = (((.inl (some (VI r.1)), r.2) : Res × Mem)) := ⟨_, rfl⟩
  rw [← hO]
  show J SHM G rm_X12_isSound (.inl O) C 0 0 0 [(0, VR 0), (1, VI day_)] [] m
  unfold M_isSound at h
  refine s_load0 X 0 rfl dX12_isSound_0 ?_
  refine s_iload_n X 1 rfl dX12_isSound_1 ?_
  refine s_const X (by unfold InR; omega) dX12_isSound_2 ?_
  obtain ⟨r_, m_, hq2, h⟩ := bq2_some h
  refine s_callV (As := [VI day_, VI 1]) X cw_X12_154 SHM_0 rfl dX12_isSound_3 (L_M_isNoDay G day_ 1 m (r_, m_) hq2) rfl ⟨Nat.le_of_ble_eq_true rfl, Nat.le_of_ble_eq_true rfl⟩ ⟨Nat.le_of_ble_eq_true rfl, Nat.le_of_ble_eq_true rfl⟩ (Nat.le_of_ble_eq_true rfl) noT (kkR ?_)
  refine s_ifne_t (tgt := 13) X dX12_isSound_6 (by omega) (fun c5 => ?_) (fun c6 => ?_)
  · replace h := ite_pos h c5
    refine s_const X (by unfold InR; omega) dX12_isSound_13 ?_
    exact s_zret X (Or.inl rfl) (Nat.le_of_ble_eq_true rfl) (Nat.le_of_ble_eq_true rfl) (by cases h; exact hO) dX12_isSound_14
  · replace h := ite_neg h c6
    refine s_const X (by unfold InR; omega) dX12_isSound_9 ?_
    refine s_goto (tgt := 14) X dX12_isSound_10 (by omega) ?_
    exact s_zret X (Or.inr rfl) (Nat.le_of_ble_eq_true rfl) (Nat.le_of_ble_eq_true rfl) (by cases h; exact hO) dX12_isSound_14
