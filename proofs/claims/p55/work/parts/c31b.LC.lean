/-! ===== printed by a program out of the Java source and the decode rows: 31b.LC ===== -/
set_option maxRecDepth 20000 in
set_option maxHeartbeats 4000000 in
theorem L_C_Net_lay (G : Gl) (day_ : Int) (shifted_ : Int) (minutes_ : Int) (m : Mem) (r : Mem)  (h : C_Net_lay day_ shifted_ minutes_ m = some r) : Con SHC G yX3_lay cX3_lay 7 none rm_X3_lay [VR 119, VI day_, VI shifted_, VI minutes_] m (((.inl none, r) : Res × Mem)) := by
  refine con_of (own := "Lastbus$Net") (by decide) rfl (Nat.le_of_ble_eq_true rfl) (fun C X => ?_)
  obtain ⟨O, hO⟩ : ∃ O : Res × Mem, O = (((.inl none, r) : Res × Mem)) := ⟨_, rfl⟩
  rw [← hO]
  show J SHC G rm_X3_lay (.inl O) C 0 0 0 [(0, VR 119), (1, VI day_), (2, VI shifted_), (3, VI minutes_)] [] m
  unfold C_Net_lay at h
  refine s_load0 X 0 rfl dX3_lay_0 ?_
  refine s_getR (id := 1) X fk_X3_41 SHC_119 rfl dX3_lay_1 ?_
  refine s_const X (by unfold InR; omega) dX3_lay_4 ?_
  obtain ⟨m_, hq2, h⟩ := bnd_some h
  refine s_callV (As := [VI (-1)]) X cw_X3_57 SHC_1 rfl dX3_lay_5 (L_C_Stops_link G (-1) m m_ hq2) rfl ⟨Nat.le_of_ble_eq_true rfl, Nat.le_of_ble_eq_true rfl⟩ ⟨Nat.le_of_ble_eq_true rfl, Nat.le_of_ble_eq_true rfl⟩ (Nat.le_of_ble_eq_true rfl) noT (kkU ?_)
  refine s_load0 X 0 rfl dX3_lay_8 ?_
  refine s_const X (by unfold InR; omega) dX3_lay_9 ?_
  obtain ⟨m_2, e6, h⟩ := ltv_elim h
  refine s_putI X e6 fp_X3_63 SHC_119 rfl trivial dX3_lay_10 ?_
  refine s_load0 X 0 rfl dX3_lay_13 ?_
  refine s_const X (by unfold InR; omega) dX3_lay_14 ?_
  obtain ⟨m_3, e8, h⟩ := ltv_elim h
  refine s_putI X e8 fp_X3_67 SHC_119 rfl trivial dX3_lay_15 ?_
  refine s_const X (by unfold InR; omega) dX3_lay_18 ?_
  obtain ⟨ahead_, e10, h⟩ := ltv_elim h
  refine s_istore X e10 rfl (by omega) dX3_lay_19 ?_
  obtain ⟨ahead_4, m_8, hl20, h⟩ := bq2_some h
  obtain ⟨fu110, hl21⟩ := loop_iter hl20
  have KX17 : ∀ q9 : Int × Mem, q9 = (ahead_4, m_8) → J SHC G rm_X3_lay (.inl O) C 0 0 121 [(4, VI q9.1), (0, VR 119), (1, VI day_), (2, VI shifted_), (3, VI minutes_)] [] (q9.2) := by
    intro q9 e9
    subst e9
    show J SHC G rm_X3_lay (.inl O) C 0 0 121 [(4, VI ahead_4), (0, VR 119), (1, VI day_), (2, VI shifted_), (3, VI minutes_)] [] m_8
    refine s_load0 X 1 rfl dX3_lay_121 ?_
    refine s_getR (id := 342) X fk_X3_32 SHC_119 rfl dX3_lay_122 ?_
    refine s_load0 X 1 rfl dX3_lay_125 ?_
    refine s_getR (id := 344) X fk_X3_38 SHC_119 rfl dX3_lay_126 ?_
    refine s_load0 X 1 rfl dX3_lay_129 ?_
    refine s_getI X fk_X3_67 SHC_119 rfl dX3_lay_130 ?_
    obtain ⟨m_9, hq70, h⟩ := bnd_some h
    refine s_callN (As := [VR 342, VR 344, VI (m_8 119 11)]) X cw_X3_94 dX3_lay_133 (L_C_sortUp G 342 344 (m_8 119 11) m_8 m_9 ⟨_, SHC_342⟩ ⟨_, SHC_344⟩ hq70) rfl ⟨Nat.le_of_ble_eq_true rfl, Nat.le_of_ble_eq_true rfl⟩ ⟨Nat.le_of_ble_eq_true rfl, Nat.le_of_ble_eq_true rfl⟩ (Nat.le_of_ble_eq_true rfl) noT (kkU ?_)
    refine s_load0 X 1 rfl dX3_lay_136 ?_
    refine s_getR (id := 343) X fk_X3_35 SHC_119 rfl dX3_lay_137 ?_
    refine s_load0 X 1 rfl dX3_lay_140 ?_
    refine s_getR (id := 344) X fk_X3_38 SHC_119 rfl dX3_lay_141 ?_
    refine s_load0 X 1 rfl dX3_lay_144 ?_
    refine s_getI X fk_X3_67 SHC_119 rfl dX3_lay_145 ?_
    obtain ⟨m_10, hq74, h⟩ := bnd_some h
    refine s_callN (As := [VR 343, VR 344, VI (m_9 119 11)]) X cw_X3_94 dX3_lay_148 (L_C_sortUp G 343 344 (m_9 119 11) m_9 m_10 ⟨_, SHC_343⟩ ⟨_, SHC_344⟩ hq74) rfl ⟨Nat.le_of_ble_eq_true rfl, Nat.le_of_ble_eq_true rfl⟩ ⟨Nat.le_of_ble_eq_true rfl, Nat.le_of_ble_eq_true rfl⟩ (Nat.le_of_ble_eq_true rfl) noT (kkU ?_)
    exact s_vret X (Nat.le_of_ble_eq_true rfl) (Nat.le_of_ble_eq_true rfl) (by cases h; exact hO) dX3_lay_151
  have LP16 : ∀ (fu11 : Nat) (ahead_2 : Int) (m_4 : Mem), iter (fun s => C_Net_lay_b1 day_ shifted_ minutes_ s.1 s.2) fu11 (ahead_2, m_4) = some (ahead_4, m_8) → J SHC G rm_X3_lay (.inl O) C 0 0 21 [(4, VI ahead_2), (0, VR 119), (1, VI day_), (2, VI shifted_), (3, VI minutes_)] [] m_4 := by
    intro fu11
    induction fu11 with
    | zero => intro ahead_2 m_4 hn12; exact absurd hn12 (by simp [iter])
    | succ fu11 ih15 =>
      intro ahead_2 m_4 hn12
      obtain ⟨x13, h, hc14⟩ := iter_succ hn12
      replace h : C_Net_lay_b1 day_ shifted_ minutes_ ahead_2 m_4 = some x13 := h
      unfold C_Net_lay_b1 at h
      refine s_iload X 0 rfl dX3_lay_21 ?_
      refine s_const X (by unfold InR; omega) dX3_lay_23 ?_
      refine s_icmpgt_f (tgt := 121) X dX3_lay_24 (by omega) (fun c25 => ?_) (fun c26 => ?_)
      · replace h := ite_neg h c25
        exact KX17 _ (iter_exit h hc14)
      · replace h := ite_pos h c26
        refine s_const X (by unfold InR; omega) dX3_lay_27 ?_
        obtain ⟨trip_, e28, h⟩ := ltv_elim h
        refine s_istore X e28 rfl (by omega) dX3_lay_28 ?_
        obtain ⟨trip_5, m_7, hl38, h⟩ := bq2_some h
        obtain ⟨fu290, hl39⟩ := loop_iter hl38
        have KX35 : ∀ q9 : Int × Mem, q9 = (trip_5, m_7) → J SHC G rm_X3_lay (.inl O) C 0 0 115 [(5, VI q9.1), (4, VI ahead_2), (0, VR 119), (1, VI day_), (2, VI shifted_), (3, VI minutes_)] [] (q9.2) := by
          intro q9 e9
          subst e9
          show J SHC G rm_X3_lay (.inl O) C 0 0 115 [(5, VI trip_5), (4, VI ahead_2), (0, VR 119), (1, VI day_), (2, VI shifted_), (3, VI minutes_)] [] m_7
          obtain ⟨g67, h⟩ := grd_some h
          obtain ⟨ahead_3, e68, h⟩ := ltv_elim h
          refine s_iinc X 1 rfl g67 e68 rfl (by omega) dX3_lay_115 ?_
          refine s_goto (tgt := 21) X dX3_lay_118 (by omega) ?_
          refine s_loc [0, 2, 3, 4, 5] rfl ?_
          exact ih15 _ _ (iter_next h hc14)
        have LP34 : ∀ (fu29 : Nat) (trip_2 : Int) (m_5 : Mem), iter (fun s => C_Net_lay_b2 day_ shifted_ minutes_ ahead_2 s.1 s.2) fu29 (trip_2, m_5) = some (trip_5, m_7) → J SHC G rm_X3_lay (.inl O) C 0 0 30 [(5, VI trip_2), (4, VI ahead_2), (0, VR 119), (1, VI day_), (2, VI shifted_), (3, VI minutes_)] [] m_5 := by
          intro fu29
          induction fu29 with
          | zero => intro trip_2 m_5 hn30; exact absurd hn30 (by simp [iter])
          | succ fu29 ih33 =>
            intro trip_2 m_5 hn30
            obtain ⟨x31, h, hc32⟩ := iter_succ hn30
            replace h : C_Net_lay_b2 day_ shifted_ minutes_ ahead_2 trip_2 m_5 = some x31 := h
            unfold C_Net_lay_b2 at h
            refine s_iload X 0 rfl dX3_lay_30 ?_
            refine s_load0 X 2 rfl dX3_lay_32 ?_
            refine s_getR (id := 31) X fk_X3_49 SHC_119 rfl dX3_lay_33 ?_
            refine s_getI X fk_X3_70 SHC_31 rfl dX3_lay_36 ?_
            refine s_icmpge_f (tgt := 115) X dX3_lay_39 (by omega) (fun c43 => ?_) (fun c44 => ?_)
            · replace h := ite_neg h c43
              exact KX35 _ (iter_exit h hc32)
            · replace h := ite_pos h c44
              obtain ⟨g45, h⟩ := grd_some h
              refine s_load0 X 2 rfl dX3_lay_42 ?_
              refine s_getR (id := 29) X fk_X3_45 SHC_119 rfl dX3_lay_43 ?_
              refine s_load0 X 2 rfl dX3_lay_46 ?_
              refine s_getR (id := 31) X fk_X3_49 SHC_119 rfl dX3_lay_47 ?_
              refine s_getR (id := 32) X fk_X3_75 SHC_31 rfl dX3_lay_50 ?_
              refine s_iload X 0 rfl dX3_lay_53 ?_
              refine s_iald X SHC_32 g45.1 g45.2.1 dX3_lay_55 ?_
              refine s_iload_n X 3 rfl dX3_lay_56 ?_
              refine s_iload X 1 rfl dX3_lay_57 ?_
              refine s_iadd X g45.2.2 dX3_lay_59 ?_
              obtain ⟨r_, hq46, h⟩ := bnd_some h
              refine s_callV (As := [VI (m_5 32 trip_2.toNat), VI (day_ + ahead_2)]) X cw_X3_78 SHC_29 rfl dX3_lay_60 (L_C_Services_isOn G (m_5 32 trip_2.toNat) (day_ + ahead_2) m_5 r_ hq46) rfl ⟨Nat.le_of_ble_eq_true rfl, Nat.le_of_ble_eq_true rfl⟩ ⟨Nat.le_of_ble_eq_true rfl, Nat.le_of_ble_eq_true rfl⟩ (Nat.le_of_ble_eq_true rfl) noT (kkR ?_)
              refine s_ifeq_f (tgt := 109) X dX3_lay_63 (by omega) (fun c49 => ?_) (fun c50 => ?_)
              · replace h := ite_neg h c49
                obtain ⟨g51, h⟩ := grd_some h
                obtain ⟨trip_3, e52, h⟩ := ltv_elim h
                refine s_iinc X 0 rfl g51 e52 rfl (by omega) dX3_lay_109 ?_
                refine s_goto (tgt := 30) X dX3_lay_112 (by omega) ?_
                exact ih33 _ _ (iter_next h hc32)
              · replace h := ite_pos h c50
                have kM54 : J SHC G rm_X3_lay (.inl O) C 0 0 77 [(5, VI trip_2), (4, VI ahead_2), (0, VR 119), (1, VI day_), (2, VI shifted_), (3, VI minutes_)] [VI (if trip_2 = shifted_ then minutes_ else 0)] m_5 := by
                  obtain ⟨moved_, e57, h⟩ := ltv_elim h
                  refine s_istore X e57 rfl (by omega) dX3_lay_77 ?_
                  refine s_load0 X 3 rfl dX3_lay_79 ?_
                  refine s_iload X 1 rfl dX3_lay_80 ?_
                  refine s_iload X 2 rfl dX3_lay_82 ?_
                  refine s_load0 X 3 rfl dX3_lay_84 ?_
                  refine s_getR (id := 109) X fk_X3_53 SHC_119 rfl dX3_lay_85 ?_
                  refine s_iload_n X 4 rfl dX3_lay_88 ?_
                  refine s_iload X 2 rfl dX3_lay_89 ?_
                  refine s_iadd X g45.2.2 dX3_lay_91 ?_
                  refine s_iload X 1 rfl dX3_lay_92 ?_
                  obtain ⟨r_2, hq59, h⟩ := bnd_some h
                  refine s_callV (As := [VI (day_ + ahead_2), VI trip_2]) X cw_X3_84 SHC_109 rfl dX3_lay_94 (L_C_Delays_find G (day_ + ahead_2) trip_2 m_5 r_2 hq59) rfl ⟨Nat.le_of_ble_eq_true rfl, Nat.le_of_ble_eq_true rfl⟩ ⟨Nat.le_of_ble_eq_true rfl, Nat.le_of_ble_eq_true rfl⟩ (Nat.le_of_ble_eq_true rfl) noT (kkR ?_)
                  obtain ⟨g61, h⟩ := grd_some h
                  refine s_sipush X (by omega) dX3_lay_97 ?_
                  refine s_iload X 2 rfl dX3_lay_100 ?_
                  refine s_imul X g61.1 dX3_lay_102 ?_
                  refine s_iload X 0 rfl dX3_lay_103 ?_
                  refine s_iadd X g61.2 dX3_lay_105 ?_
                  obtain ⟨m_6, hq62, h⟩ := bnd_some h
                  refine s_callV (As := [VI trip_2, VI ahead_2, VI r_2, VI (1440 * ahead_2 + moved_)]) X cw_X3_90 SHC_119 rfl dX3_lay_106 (L_C_Net_addRun G trip_2 ahead_2 r_2 (1440 * ahead_2 + moved_) m_5 m_6 hq62) rfl ⟨Nat.le_of_ble_eq_true rfl, Nat.le_of_ble_eq_true rfl⟩ ⟨Nat.le_of_ble_eq_true rfl, Nat.le_of_ble_eq_true rfl⟩ (Nat.le_of_ble_eq_true rfl) noT (kkU ?_)
                  obtain ⟨g65, h⟩ := grd_some h
                  obtain ⟨trip_4, e66, h⟩ := ltv_elim h
                  refine s_iinc X 1 rfl g65 e66 rfl (by omega) dX3_lay_109 ?_
                  refine s_goto (tgt := 30) X dX3_lay_112 (by omega) ?_
                  refine s_loc [0, 2, 3, 4, 5, 6] rfl ?_
                  exact ih33 _ _ (iter_next h hc32)
                refine s_iload X 0 rfl dX3_lay_66 ?_
                refine s_iload_n X 4 rfl dX3_lay_68 ?_
                refine s_icmpne_f (tgt := 76) X dX3_lay_69 (by omega) (fun c55 => ?_) (fun c56 => ?_)
                · refine s_const X (by unfold InR; omega) dX3_lay_76 ?_
                  exact s_eqt (if_neg c55) kM54
                · refine s_iload_n X 5 rfl dX3_lay_72 ?_
                  refine s_goto (tgt := 77) X dX3_lay_73 (by omega) ?_
                  exact s_eqt (if_pos c56) kM54
        exact LP34 _ _ _ hl39
  exact LP16 _ _ _ hl21
set_option maxRecDepth 20000 in
set_option maxHeartbeats 4000000 in
theorem L_C_Labels_clear (G : Gl) (x : Nat) (m : Mem) (r : Mem) (hx : isLab x) (h : C_Labels_clear x m = some r) : Con SHC G yX2_clear cX2_clear 2 none rm_X2_clear [VR x] m (((.inl none, r) : Res × Mem)) := by
  refine con_of (own := "Lastbus$Labels") (by decide) rfl (Nat.le_of_ble_eq_true rfl) (fun C X => ?_)
  obtain ⟨O, hO⟩ : ∃ O : Res × Mem, O = (((.inl none, r) : Res × Mem)) := ⟨_, rfl⟩
  rw [← hO]
  show J SHC G rm_X2_clear (.inl O) C 0 0 0 [(0, VR x)] [] m
  unfold C_Labels_clear at h
  refine s_const X (by unfold InR; omega) dX2_clear_0 ?_
  obtain ⟨stop_, e2, h⟩ := ltv_elim h
  refine s_istore_n X e2 rfl (by omega) dX2_clear_1 ?_
  obtain ⟨stop_4, m_4, hl12, h⟩ := bq2_some h
  obtain ⟨fu30, hl13⟩ := loop_iter hl12
  have KX9 : ∀ q9 : Int × Mem, q9 = (stop_4, m_4) → J SHC G rm_X2_clear (.inl O) C 0 0 35 [(1, VI q9.1), (0, VR x)] [] (q9.2) := by
    intro q9 e9
    subst e9
    show J SHC G rm_X2_clear (.inl O) C 0 0 35 [(1, VI stop_4), (0, VR x)] [] m_4
    exact s_vret X (Nat.le_of_ble_eq_true rfl) (Nat.le_of_ble_eq_true rfl) (by cases h; exact hO) dX2_clear_35
  have LP8 : ∀ (fu3 : Nat) (stop_2 : Int) (m_ : Mem), iter (fun s => C_Labels_clear_b1 x s.1 s.2) fu3 (stop_2, m_) = some (stop_4, m_4) → J SHC G rm_X2_clear (.inl O) C 0 0 2 [(1, VI stop_2), (0, VR x)] [] m_ := by
    intro fu3
    induction fu3 with
    | zero => intro stop_2 m_ hn4; exact absurd hn4 (by simp [iter])
    | succ fu3 ih7 =>
      intro stop_2 m_ hn4
      obtain ⟨x5, h, hc6⟩ := iter_succ hn4
      replace h : C_Labels_clear_b1 x stop_2 m_ = some x5 := h
      unfold C_Labels_clear_b1 at h
      refine s_iload_n X 0 rfl dX2_clear_2 ?_
      refine s_load0 X 1 rfl dX2_clear_3 ?_
      refine s_getR (id := 1) X fk_X2_18 (shLab hx) rfl dX2_clear_4 ?_
      refine s_getI X fk_X2_22 SHC_1 rfl dX2_clear_7 ?_
      refine s_icmpge_f (tgt := 35) X dX2_clear_10 (by omega) (fun c17 => ?_) (fun c18 => ?_)
      · replace h := ite_neg h c17
        exact KX9 _ (iter_exit h hc6)
      · replace h := ite_pos h c18
        obtain ⟨g19, h⟩ := grd_some h
        refine s_load0 X 1 rfl dX2_clear_13 ?_
        refine s_getR (id := (x + 1)) X fk_X2_9 (shLab hx) rfl dX2_clear_14 ?_
        refine s_iload_n X 0 rfl dX2_clear_17 ?_
        refine s_ldc (z := 1000000) X (by unfold InR; omega) kc_X2_28 dX2_clear_18 ?_
        obtain ⟨m_2, e20, h⟩ := ltv_elim h
        refine s_iast X e20 (shLab1 hx) g19.1 g19.2 dX2_clear_20 ?_
        refine s_load0 X 1 rfl dX2_clear_21 ?_
        refine s_getR (id := (x + 2)) X fk_X2_15 (shLab hx) rfl dX2_clear_22 ?_
        refine s_iload_n X 0 rfl dX2_clear_25 ?_
        refine s_ldc (z := 1000000) X (by unfold InR; omega) kc_X2_28 dX2_clear_26 ?_
        obtain ⟨m_3, e22, h⟩ := ltv_elim h
        refine s_iast X e22 (shLab2 hx) g19.1 g19.2 dX2_clear_28 ?_
        obtain ⟨g23, h⟩ := grd_some h
        obtain ⟨stop_3, e24, h⟩ := ltv_elim h
        refine s_iinc X 0 rfl g23 e24 rfl (by omega) dX2_clear_29 ?_
        refine s_goto (tgt := 2) X dX2_clear_32 (by omega) ?_
        exact ih7 _ _ (iter_next h hc6)
  exact LP8 _ _ _ hl13
set_option maxRecDepth 20000 in
set_option maxHeartbeats 4000000 in
theorem L_C_Labels_walkOn (G : Gl) (x : Nat) (stop_ : Int) (minute_ : Int) (m : Mem) (r : Mem) (hx : isLab x) (h : C_Labels_walkOn x stop_ minute_ m = some r) : Con SHC G yX2_walkOn cX2_walkOn 5 none rm_X2_walkOn [VR x, VI stop_, VI minute_] m (((.inl none, r) : Res × Mem)) := by
  refine con_of (own := "Lastbus$Labels") (by decide) rfl (Nat.le_of_ble_eq_true rfl) (fun C X => ?_)
  obtain ⟨O, hO⟩ : ∃ O : Res × Mem, O = (((.inl none, r) : Res × Mem)) := ⟨_, rfl⟩
  rw [← hO]
  show J SHC G rm_X2_walkOn (.inl O) C 0 0 0 [(0, VR x), (1, VI stop_), (2, VI minute_)] [] m
  unfold C_Labels_walkOn at h
  refine s_const X (by unfold InR; omega) dX2_walkOn_0 ?_
  obtain ⟨other_, e2, h⟩ := ltv_elim h
  refine s_istore_n X e2 rfl (by omega) dX2_walkOn_1 ?_
  obtain ⟨other_5, m_3, hl12, h⟩ := bq2_some h
  obtain ⟨fu30, hl13⟩ := loop_iter hl12
  have KX9 : ∀ q9 : Int × Mem, q9 = (other_5, m_3) → J SHC G rm_X2_walkOn (.inl O) C 0 0 53 [(3, VI q9.1), (0, VR x), (1, VI stop_), (2, VI minute_)] [] (q9.2) := by
    intro q9 e9
    subst e9
    show J SHC G rm_X2_walkOn (.inl O) C 0 0 53 [(3, VI other_5), (0, VR x), (1, VI stop_), (2, VI minute_)] [] m_3
    exact s_vret X (Nat.le_of_ble_eq_true rfl) (Nat.le_of_ble_eq_true rfl) (by cases h; exact hO) dX2_walkOn_53
  have LP8 : ∀ (fu3 : Nat) (other_2 : Int) (m_ : Mem), iter (fun s => C_Labels_walkOn_b1 x stop_ minute_ s.1 s.2) fu3 (other_2, m_) = some (other_5, m_3) → J SHC G rm_X2_walkOn (.inl O) C 0 0 2 [(3, VI other_2), (0, VR x), (1, VI stop_), (2, VI minute_)] [] m_ := by
    intro fu3
    induction fu3 with
    | zero => intro other_2 m_ hn4; exact absurd hn4 (by simp [iter])
    | succ fu3 ih7 =>
      intro other_2 m_ hn4
      obtain ⟨x5, h, hc6⟩ := iter_succ hn4
      replace h : C_Labels_walkOn_b1 x stop_ minute_ other_2 m_ = some x5 := h
      unfold C_Labels_walkOn_b1 at h
      refine s_iload_n X 0 rfl dX2_walkOn_2 ?_
      refine s_load0 X 1 rfl dX2_walkOn_3 ?_
      refine s_getR (id := 1) X fk_X2_18 (shLab hx) rfl dX2_walkOn_4 ?_
      refine s_getI X fk_X2_22 SHC_1 rfl dX2_walkOn_7 ?_
      refine s_icmpge_f (tgt := 53) X dX2_walkOn_10 (by omega) (fun c17 => ?_) (fun c18 => ?_)
      · replace h := ite_neg h c17
        exact KX9 _ (iter_exit h hc6)
      · replace h := ite_pos h c18
        obtain ⟨g19, h⟩ := grd_some h
        refine s_iload_n X 3 rfl dX2_walkOn_13 ?_
        refine s_load0 X 1 rfl dX2_walkOn_14 ?_
        refine s_getR (id := 1) X fk_X2_18 (shLab hx) rfl dX2_walkOn_15 ?_
        refine s_getR (id := 16) X fk_X2_42 SHC_1 rfl dX2_walkOn_18 ?_
        refine s_iload_n X 2 rfl dX2_walkOn_21 ?_
        refine s_aaldI (id := (17 + stop_.toNat)) X (by omega) (Or.inl rfl) SHC_16 g19.1 g19.2.1 dX2_walkOn_22 ?_
        refine s_iload_n X 0 rfl dX2_walkOn_23 ?_
        refine s_iald X (SHC_r17 g19.1 g19.2.1) g19.2.2.1 g19.2.2.2.1 dX2_walkOn_24 ?_
        refine s_iadd X g19.2.2.2.2 dX2_walkOn_25 ?_
        obtain ⟨there_, e20, h⟩ := ltv_elim h
        refine s_istore X e20 rfl (by omega) dX2_walkOn_26 ?_
        refine s_iload X 0 rfl dX2_walkOn_28 ?_
        refine s_load0 X 2 rfl dX2_walkOn_30 ?_
        refine s_getR (id := (x + 2)) X fk_X2_15 (shLab hx) rfl dX2_walkOn_31 ?_
        refine s_iload_n X 1 rfl dX2_walkOn_34 ?_
        refine s_iald X (shLab2 hx) g19.2.2.1 g19.2.2.2.1 dX2_walkOn_35 ?_
        refine s_icmpge_f (tgt := 47) X dX2_walkOn_36 (by omega) (fun c24 => ?_) (fun c25 => ?_)
        · replace h := ite_neg h c24
          obtain ⟨g26, h⟩ := grd_some h
          obtain ⟨other_3, e27, h⟩ := ltv_elim h
          refine s_iinc X 1 rfl g26 e27 rfl (by omega) dX2_walkOn_47 ?_
          refine s_goto (tgt := 2) X dX2_walkOn_50 (by omega) ?_
          refine s_loc [0, 2, 3, 4] rfl ?_
          exact ih7 _ _ (iter_next h hc6)
        · replace h := ite_pos h c25
          refine s_load0 X 2 rfl dX2_walkOn_39 ?_
          refine s_getR (id := (x + 2)) X fk_X2_15 (shLab hx) rfl dX2_walkOn_40 ?_
          refine s_iload_n X 1 rfl dX2_walkOn_43 ?_
          refine s_iload X 0 rfl dX2_walkOn_44 ?_
          obtain ⟨m_2, e29, h⟩ := ltv_elim h
          refine s_iast X e29 (shLab2 hx) g19.2.2.1 g19.2.2.2.1 dX2_walkOn_46 ?_
          obtain ⟨g30, h⟩ := grd_some h
          obtain ⟨other_4, e31, h⟩ := ltv_elim h
          refine s_iinc X 1 rfl g30 e31 rfl (by omega) dX2_walkOn_47 ?_
          refine s_goto (tgt := 2) X dX2_walkOn_50 (by omega) ?_
          refine s_loc [0, 2, 3, 4] rfl ?_
          exact ih7 _ _ (iter_next h hc6)
  exact LP8 _ _ _ hl13
set_option maxRecDepth 20000 in
set_option maxHeartbeats 4000000 in
theorem L_C_Labels_begin (G : Gl) (x : Nat) (from_ : Int) (minute_ : Int) (m : Mem) (r : Mem) (hx : isLab x) (h : C_Labels_begin x from_ minute_ m = some r) : Con SHC G yX2_begin cX2_begin 3 none rm_X2_begin [VR x, VI from_, VI minute_] m (((.inl none, r) : Res × Mem)) := by
  refine con_of (own := "Lastbus$Labels") (by decide) rfl (Nat.le_of_ble_eq_true rfl) (fun C X => ?_)
  obtain ⟨O, hO⟩ : ∃ O : Res × Mem, O = (((.inl none, r) : Res × Mem)) := ⟨_, rfl⟩
  rw [← hO]
  show J SHC G rm_X2_begin (.inl O) C 0 0 0 [(0, VR x), (1, VI from_), (2, VI minute_)] [] m
  unfold C_Labels_begin at h
  refine s_load0 X 0 rfl dX2_begin_0 ?_
  obtain ⟨m_, hq2, h⟩ := bnd_some h
  refine s_callV (As := []) X cw_X2_29 (shLab hx) rfl dX2_begin_1 (L_C_Labels_clear G x m m_ hx hq2) rfl ⟨Nat.le_of_ble_eq_true rfl, Nat.le_of_ble_eq_true rfl⟩ ⟨Nat.le_of_ble_eq_true rfl, Nat.le_of_ble_eq_true rfl⟩ (Nat.le_of_ble_eq_true rfl) noT (kkU ?_)
  obtain ⟨g5, h⟩ := grd_some h
  refine s_load0 X 0 rfl dX2_begin_4 ?_
  refine s_getR (id := (x + 2)) X fk_X2_15 (shLab hx) rfl dX2_begin_5 ?_
  refine s_iload_n X 1 rfl dX2_begin_8 ?_
  refine s_iload_n X 2 rfl dX2_begin_9 ?_
  obtain ⟨m_2, e6, h⟩ := ltv_elim h
  refine s_iast X e6 (shLab2 hx) g5.1 g5.2 dX2_begin_10 ?_
  refine s_load0 X 0 rfl dX2_begin_11 ?_
  refine s_iload_n X 1 rfl dX2_begin_12 ?_
  refine s_iload_n X 2 rfl dX2_begin_13 ?_
  obtain ⟨m_3, hq8, h⟩ := bnd_some h
  refine s_callV (As := [VI from_, VI minute_]) X cw_X2_32 (shLab hx) rfl dX2_begin_14 (L_C_Labels_walkOn G x from_ minute_ m_2 m_3 hx hq8) rfl ⟨Nat.le_of_ble_eq_true rfl, Nat.le_of_ble_eq_true rfl⟩ ⟨Nat.le_of_ble_eq_true rfl, Nat.le_of_ble_eq_true rfl⟩ (Nat.le_of_ble_eq_true rfl) noT (kkU ?_)
  exact s_vret X (Nat.le_of_ble_eq_true rfl) (Nat.le_of_ble_eq_true rfl) (by cases h; exact hO) dX2_begin_17
set_option maxRecDepth 20000 in
set_option maxHeartbeats 4000000 in
theorem L_C_Search_leaveRuns (G : Gl)  (m : Mem) (r : Mem)  (h : C_Search_leaveRuns  m = some r) : Con SHC G yX6_leaveRuns cX6_leaveRuns 2 none rm_X6_leaveRuns [VR 345] m (((.inl none, r) : Res × Mem)) := by
  refine con_of (own := "Lastbus$Search") (by decide) rfl (Nat.le_of_ble_eq_true rfl) (fun C X => ?_)
  obtain ⟨O, hO⟩ : ∃ O : Res × Mem, O = (((.inl none, r) : Res × Mem)) := ⟨_, rfl⟩
  rw [← hO]
  show J SHC G rm_X6_leaveRuns (.inl O) C 0 0 0 [(0, VR 345)] [] m
  unfold C_Search_leaveRuns at h
  refine s_const X (by unfold InR; omega) dX6_leaveRuns_0 ?_
  obtain ⟨run_, e2, h⟩ := ltv_elim h
  refine s_istore_n X e2 rfl (by omega) dX6_leaveRuns_1 ?_
  obtain ⟨run_4, m_3, hl12, h⟩ := bq2_some h
  obtain ⟨fu30, hl13⟩ := loop_iter hl12
  have KX9 : ∀ q9 : Int × Mem, q9 = (run_4, m_3) → J SHC G rm_X6_leaveRuns (.inl O) C 0 0 26 [(1, VI q9.1), (0, VR 345)] [] (q9.2) := by
    intro q9 e9
    subst e9
    show J SHC G rm_X6_leaveRuns (.inl O) C 0 0 26 [(1, VI run_4), (0, VR 345)] [] m_3
    exact s_vret X (Nat.le_of_ble_eq_true rfl) (Nat.le_of_ble_eq_true rfl) (by cases h; exact hO) dX6_leaveRuns_26
  have LP8 : ∀ (fu3 : Nat) (run_2 : Int) (m_ : Mem), iter (fun s => C_Search_leaveRuns_b1 s.1 s.2) fu3 (run_2, m_) = some (run_4, m_3) → J SHC G rm_X6_leaveRuns (.inl O) C 0 0 2 [(1, VI run_2), (0, VR 345)] [] m_ := by
    intro fu3
    induction fu3 with
    | zero => intro run_2 m_ hn4; exact absurd hn4 (by simp [iter])
    | succ fu3 ih7 =>
      intro run_2 m_ hn4
      obtain ⟨x5, h, hc6⟩ := iter_succ hn4
      replace h : C_Search_leaveRuns_b1 run_2 m_ = some x5 := h
      unfold C_Search_leaveRuns_b1 at h
      refine s_iload_n X 0 rfl dX6_leaveRuns_2 ?_
      refine s_load0 X 1 rfl dX6_leaveRuns_3 ?_
      refine s_getR (id := 119) X fk_X6_35 SHC_345 rfl dX6_leaveRuns_4 ?_
      refine s_getI X fk_X6_59 SHC_119 rfl dX6_leaveRuns_7 ?_
      refine s_icmpge_f (tgt := 26) X dX6_leaveRuns_10 (by omega) (fun c17 => ?_) (fun c18 => ?_)
      · replace h := ite_neg h c17
        exact KX9 _ (iter_exit h hc6)
      · replace h := ite_pos h c18
        obtain ⟨g19, h⟩ := grd_some h
        refine s_load0 X 1 rfl dX6_leaveRuns_13 ?_
        refine s_getR (id := 346) X fk_X6_9 SHC_345 rfl dX6_leaveRuns_14 ?_
        refine s_iload_n X 0 rfl dX6_leaveRuns_17 ?_
        refine s_const X (by unfold InR; omega) dX6_leaveRuns_18 ?_
        obtain ⟨m_2, e20, h⟩ := ltv_elim h
        refine s_bast X e20 SHC_346 g19.1 g19.2 (Or.inl rfl) dX6_leaveRuns_19 ?_
        obtain ⟨g21, h⟩ := grd_some h
        obtain ⟨run_3, e22, h⟩ := ltv_elim h
        refine s_iinc X 0 rfl g21 e22 rfl (by omega) dX6_leaveRuns_20 ?_
        refine s_goto (tgt := 2) X dX6_leaveRuns_23 (by omega) ?_
        exact ih7 _ _ (iter_next h hc6)
  exact LP8 _ _ _ hl13
set_option maxRecDepth 20000 in
set_option maxHeartbeats 4000000 in
theorem L_C_Net_runOf (G : Gl) (key_ : Int) (m : Mem) : Con SHC G yX3_runOf cX3_runOf 1 (some .int) rm_X3_runOf [VI key_] m ((.inl (some (VI (C_Net_runOf key_))), m) : Res × Mem) := by
  refine con_of (own := "Lastbus$Net") (by decide) rfl (Nat.le_of_ble_eq_true rfl) (fun C X => ?_)
  obtain ⟨O, hO⟩ : ∃ O : Res × Mem, O = ((.inl (some (VI (C_Net_runOf key_))), m) : Res × Mem) := ⟨_, rfl⟩
  rw [← hO]
  show J SHC G rm_X3_runOf (.inl O) C 0 0 0 [(0, VI key_)] [] m
  refine s_iload_n X 0 rfl dX3_runOf_0 ?_
  refine s_sipush X (by omega) dX3_runOf_1 ?_
  refine s_irem X (by omega) dX3_runOf_4 ?_
  refine s_bipush X (by omega) dX3_runOf_5 ?_
  refine s_idiv X (by omega) dX3_runOf_7 ?_
  exact s_iret X (Nat.le_of_ble_eq_true rfl) (Nat.le_of_ble_eq_true rfl) (by rw [hO]; rfl) dX3_runOf_8
set_option maxRecDepth 20000 in
set_option maxHeartbeats 4000000 in
theorem L_C_Net_callOf (G : Gl) (key_ : Int) (m : Mem) : Con SHC G yX3_callOf cX3_callOf 1 (some .int) rm_X3_callOf [VI key_] m ((.inl (some (VI (C_Net_callOf key_))), m) : Res × Mem) := by
  refine con_of (own := "Lastbus$Net") (by decide) rfl (Nat.le_of_ble_eq_true rfl) (fun C X => ?_)
  obtain ⟨O, hO⟩ : ∃ O : Res × Mem, O = ((.inl (some (VI (C_Net_callOf key_))), m) : Res × Mem) := ⟨_, rfl⟩
  rw [← hO]
  show J SHC G rm_X3_callOf (.inl O) C 0 0 0 [(0, VI key_)] [] m
  refine s_iload_n X 0 rfl dX3_callOf_0 ?_
  refine s_bipush X (by omega) dX3_callOf_1 ?_
  refine s_irem X (by omega) dX3_callOf_3 ?_
  exact s_iret X (Nat.le_of_ble_eq_true rfl) (Nat.le_of_ble_eq_true rfl) (by rw [hO]; rfl) dX3_callOf_4
set_option maxRecDepth 20000 in
set_option maxHeartbeats 4000000 in
theorem L_C_Labels_canGetOn (G : Gl) (x : Nat) (stop_ : Int) (leave_ : Int) (m : Mem) (r : Int) (hx : isLab x) (h : C_Labels_canGetOn x stop_ leave_ m = some r) : Con SHC G yX2_canGetOn cX2_canGetOn 3 (some .boolean) rm_X2_canGetOn [VR x, VI stop_, VI leave_] m (((.inl (some (VI r)), m) : Res × Mem)) := by
  refine con_of (own := "Lastbus$Labels") (by decide) rfl (Nat.le_of_ble_eq_true rfl) (fun C X => ?_)
  obtain ⟨O, hO⟩ : ∃ O : Res × Mem, O = (((.inl (some (VI r)), m) : Res × Mem)) := ⟨_, rfl⟩
  rw [← hO]
  show J SHC G rm_X2_canGetOn (.inl O) C 0 0 0 [(0, VR x), (1, VI stop_), (2, VI leave_)] [] m
  unfold C_Labels_canGetOn at h
  obtain ⟨g1, h⟩ := grd_some h
  have kM2 : J SHC G rm_X2_canGetOn (.inl O) C 0 0 39 [(0, VR x), (1, VI stop_), (2, VI leave_)] [VI (if (0 ≤ leave_) ∧ ((m (x + 2) stop_.toNat ≤ leave_) ∨ (m (x + 1) stop_.toNat + m 2 stop_.toNat ≤ leave_)) then 1 else 0)] m := by
    exact s_zret X okT_ite (Nat.le_of_ble_eq_true rfl) (Nat.le_of_ble_eq_true rfl) (by cases h; exact hO) dX2_canGetOn_39
  refine s_iload_n X 2 rfl dX2_canGetOn_0 ?_
  refine s_iflt_f (tgt := 38) X dX2_canGetOn_1 (by omega) (fun c3 => ?_) (fun c4 => ?_)
  · refine s_const X (by unfold InR; omega) dX2_canGetOn_38 ?_
    exact s_eqt (if_neg (fun q => c3 q.1)) kM2
  · have a5 : 0 ≤ leave_ := c4
    refine s_load0 X 0 rfl dX2_canGetOn_4 ?_
    refine s_getR (id := (x + 2)) X fk_X2_15 (shLab hx) rfl dX2_canGetOn_5 ?_
    refine s_iload_n X 1 rfl dX2_canGetOn_8 ?_
    refine s_iald X (shLab2 hx) (g1.1 a5) (g1.2.1 a5) dX2_canGetOn_9 ?_
    refine s_iload_n X 2 rfl dX2_canGetOn_10 ?_
    refine s_icmple_t (tgt := 34) X dX2_canGetOn_11 (by omega) (fun c6 => ?_) (fun c7 => ?_)
    · refine s_const X (by unfold InR; omega) dX2_canGetOn_34 ?_
      refine s_goto (tgt := 39) X dX2_canGetOn_35 (by omega) ?_
      exact s_eqt (if_pos ⟨a5, (Or.inl c6)⟩) kM2
    · have a8 : ¬ (m (x + 2) stop_.toNat ≤ leave_) := c7
      refine s_load0 X 0 rfl dX2_canGetOn_14 ?_
      refine s_getR (id := (x + 1)) X fk_X2_9 (shLab hx) rfl dX2_canGetOn_15 ?_
      refine s_iload_n X 1 rfl dX2_canGetOn_18 ?_
      refine s_iald X (shLab1 hx) (g1.2.2.1 a5 a8) (g1.2.2.2.1 a5 a8) dX2_canGetOn_19 ?_
      refine s_load0 X 0 rfl dX2_canGetOn_20 ?_
      refine s_getR (id := 1) X fk_X2_18 (shLab hx) rfl dX2_canGetOn_21 ?_
      refine s_getR (id := 2) X fk_X2_36 SHC_1 rfl dX2_canGetOn_24 ?_
      refine s_iload_n X 1 rfl dX2_canGetOn_27 ?_
      refine s_iald X SHC_2 (g1.2.2.1 a5 a8) (g1.2.2.2.1 a5 a8) dX2_canGetOn_28 ?_
      refine s_iadd X (g1.2.2.2.2 a5 a8) dX2_canGetOn_29 ?_
      refine s_iload_n X 2 rfl dX2_canGetOn_30 ?_
      refine s_icmpgt_f (tgt := 38) X dX2_canGetOn_31 (by omega) (fun c9 => ?_) (fun c10 => ?_)
      · refine s_const X (by unfold InR; omega) dX2_canGetOn_38 ?_
        exact s_eqt (if_neg (fun q => (fun q => q.elim a8 c9) q.2)) kM2
      · refine s_const X (by unfold InR; omega) dX2_canGetOn_34 ?_
        refine s_goto (tgt := 39) X dX2_canGetOn_35 (by omega) ?_
        exact s_eqt (if_pos ⟨a5, (Or.inr c10)⟩) kM2
set_option maxRecDepth 20000 in
set_option maxHeartbeats 4000000 in
theorem L_C_Labels_getOff (G : Gl) (x : Nat) (stop_ : Int) (minute_ : Int) (m : Mem) (r : (Int × Mem)) (hx : isLab x) (h : C_Labels_getOff x stop_ minute_ m = some r) : Con SHC G yX2_getOff cX2_getOff 3 (some .boolean) rm_X2_getOff [VR x, VI stop_, VI minute_] m (((.inl (some (VI r.1)), r.2) : Res × Mem)) := by
  refine con_of (own := "Lastbus$Labels") (by decide) rfl (Nat.le_of_ble_eq_true rfl) (fun C X => ?_)
  obtain ⟨O, hO⟩ : ∃ O : Res × Mem, O = (((.inl (some (VI r.1)), r.2) : Res × Mem)) := ⟨_, rfl⟩
  rw [← hO]
  show J SHC G rm_X2_getOff (.inl O) C 0 0 0 [(0, VR x), (1, VI stop_), (2, VI minute_)] [] m
  unfold C_Labels_getOff at h
  obtain ⟨g1, h⟩ := grd_some h
  have kT2 : (stop_ = m 1 4) ∨ (m (x + 1) stop_.toNat ≤ minute_) → J SHC G rm_X2_getOff (.inl O) C 0 0 21 [(0, VR x), (1, VI stop_), (2, VI minute_)] [] m := by
    intro c7
    replace h := ite_pos h c7
    refine s_const X (by unfold InR; omega) dX2_getOff_21 ?_
    exact s_zret X (Or.inl rfl) (Nat.le_of_ble_eq_true rfl) (Nat.le_of_ble_eq_true rfl) (by cases h; exact hO) dX2_getOff_22
  refine s_iload_n X 1 rfl dX2_getOff_0 ?_
  refine s_load0 X 0 rfl dX2_getOff_1 ?_
  refine s_getR (id := 1) X fk_X2_18 (shLab hx) rfl dX2_getOff_2 ?_
  refine s_getI X fk_X2_39 SHC_1 rfl dX2_getOff_5 ?_
  refine s_icmpeq_t (tgt := 21) X dX2_getOff_8 (by omega) (fun c4 => ?_) (fun c5 => ?_)
  · exact kT2 (Or.inl c4)
  · have a8 : ¬ (stop_ = m 1 4) := c5
    refine s_iload_n X 2 rfl dX2_getOff_11 ?_
    refine s_load0 X 0 rfl dX2_getOff_12 ?_
    refine s_getR (id := (x + 1)) X fk_X2_9 (shLab hx) rfl dX2_getOff_13 ?_
    refine s_iload_n X 1 rfl dX2_getOff_16 ?_
    refine s_iald X (shLab1 hx) (g1.1 a8) (g1.2 a8) dX2_getOff_17 ?_
    refine s_icmplt_f (tgt := 23) X dX2_getOff_18 (by omega) (fun c9 => ?_) (fun c10 => ?_)
    · replace h := ite_neg h (fun q => q.elim a8 c9)
      obtain ⟨g11, h⟩ := grd_some h
      refine s_load0 X 0 rfl dX2_getOff_23 ?_
      refine s_getR (id := (x + 1)) X fk_X2_9 (shLab hx) rfl dX2_getOff_24 ?_
      refine s_iload_n X 1 rfl dX2_getOff_27 ?_
      refine s_iload_n X 2 rfl dX2_getOff_28 ?_
      obtain ⟨m_, e12, h⟩ := ltv_elim h
      refine s_iast X e12 (shLab1 hx) g11.1 g11.2 dX2_getOff_29 ?_
      refine s_load0 X 0 rfl dX2_getOff_30 ?_
      refine s_iload_n X 1 rfl dX2_getOff_31 ?_
      refine s_iload_n X 2 rfl dX2_getOff_32 ?_
      obtain ⟨m_2, hq14, h⟩ := bnd_some h
      refine s_callV (As := [VI stop_, VI minute_]) X cw_X2_32 (shLab hx) rfl dX2_getOff_33 (L_C_Labels_walkOn G x stop_ minute_ m_ m_2 hx hq14) rfl ⟨Nat.le_of_ble_eq_true rfl, Nat.le_of_ble_eq_true rfl⟩ ⟨Nat.le_of_ble_eq_true rfl, Nat.le_of_ble_eq_true rfl⟩ (Nat.le_of_ble_eq_true rfl) noT (kkU ?_)
      refine s_const X (by unfold InR; omega) dX2_getOff_36 ?_
      exact s_zret X (Or.inr rfl) (Nat.le_of_ble_eq_true rfl) (Nat.le_of_ble_eq_true rfl) (by cases h; exact hO) dX2_getOff_37
    · exact kT2 (Or.inr c10)
set_option maxRecDepth 20000 in
set_option maxHeartbeats 4000000 in
theorem L_C_Search_readHops (G : Gl) (minute_ : Int) (m : Mem) (r : Mem)  (h : C_Search_readHops minute_ m = some r) : Con SHC G yX6_readHops cX6_readHops 7 none rm_X6_readHops [VR 345, VI minute_] m (((.inl none, r) : Res × Mem)) := by
  refine con_of (own := "Lastbus$Search") (by decide) rfl (Nat.le_of_ble_eq_true rfl) (fun C X => ?_)
  obtain ⟨O, hO⟩ : ∃ O : Res × Mem, O = (((.inl none, r) : Res × Mem)) := ⟨_, rfl⟩
  rw [← hO]
  show J SHC G rm_X6_readHops (.inl O) C 0 0 0 [(0, VR 345), (1, VI minute_)] [] m
  unfold C_Search_readHops at h
  refine s_load0 X 0 rfl dX6_readHops_0 ?_
  obtain ⟨m_, hq2, h⟩ := bnd_some h
  refine s_callV (As := []) X cw_X6_85 SHC_345 rfl dX6_readHops_1 (L_C_Search_leaveRuns G m m_ hq2) rfl ⟨Nat.le_of_ble_eq_true rfl, Nat.le_of_ble_eq_true rfl⟩ ⟨Nat.le_of_ble_eq_true rfl, Nat.le_of_ble_eq_true rfl⟩ (Nat.le_of_ble_eq_true rfl) noT (kkU ?_)
  refine s_const X (by unfold InR; omega) dX6_readHops_4 ?_
  obtain ⟨index_, e6, h⟩ := ltv_elim h
  refine s_istore_n X e6 rfl (by omega) dX6_readHops_5 ?_
  obtain ⟨index_5, m_6, hl16, h⟩ := bq2_some h
  obtain ⟨fu70, hl17⟩ := loop_iter hl16
  have KX13 : ∀ q9 : Int × Mem, q9 = (index_5, m_6) → J SHC G rm_X6_readHops (.inl O) C 0 0 145 [(2, VI q9.1), (0, VR 345), (1, VI minute_)] [] (q9.2) := by
    intro q9 e9
    subst e9
    show J SHC G rm_X6_readHops (.inl O) C 0 0 145 [(2, VI index_5), (0, VR 345), (1, VI minute_)] [] m_6
    exact s_vret X (Nat.le_of_ble_eq_true rfl) (Nat.le_of_ble_eq_true rfl) (by cases h; exact hO) dX6_readHops_145
  have LP12 : ∀ (fu7 : Nat) (index_2 : Int) (m_2 : Mem), iter (fun s => C_Search_readHops_b1 minute_ s.1 s.2) fu7 (index_2, m_2) = some (index_5, m_6) → J SHC G rm_X6_readHops (.inl O) C 0 0 6 [(2, VI index_2), (0, VR 345), (1, VI minute_)] [] m_2 := by
    intro fu7
    induction fu7 with
    | zero => intro index_2 m_2 hn8; exact absurd hn8 (by simp [iter])
    | succ fu7 ih11 =>
      intro index_2 m_2 hn8
      obtain ⟨x9, h, hc10⟩ := iter_succ hn8
      replace h : C_Search_readHops_b1 minute_ index_2 m_2 = some x9 := h
      unfold C_Search_readHops_b1 at h
      refine s_iload_n X 0 rfl dX6_readHops_6 ?_
      refine s_load0 X 1 rfl dX6_readHops_7 ?_
      refine s_getR (id := 119) X fk_X6_35 SHC_345 rfl dX6_readHops_8 ?_
      refine s_getI X fk_X6_88 SHC_119 rfl dX6_readHops_11 ?_
      refine s_icmpge_f (tgt := 145) X dX6_readHops_14 (by omega) (fun c21 => ?_) (fun c22 => ?_)
      · replace h := ite_neg h c21
        exact KX13 _ (iter_exit h hc10)
      · replace h := ite_pos h c22
        obtain ⟨g23, h⟩ := grd_some h
        refine s_load0 X 1 rfl dX6_readHops_17 ?_
        refine s_getR (id := 119) X fk_X6_35 SHC_345 rfl dX6_readHops_18 ?_
        refine s_getR (id := 342) X fk_X6_91 SHC_119 rfl dX6_readHops_21 ?_
        refine s_iload_n X 0 rfl dX6_readHops_24 ?_
        refine s_iald X SHC_342 g23.1 g23.2 dX6_readHops_25 ?_
        obtain ⟨key_, e24, h⟩ := ltv_elim h
        refine s_istore_n X e24 rfl (by omega) dX6_readHops_26 ?_
        refine s_iload_n X 0 rfl dX6_readHops_27 ?_
        refine s_sipush X (by omega) dX6_readHops_28 ?_
        refine s_idiv X (by omega) dX6_readHops_31 ?_
        obtain ⟨leave_, e26, h⟩ := ltv_elim h
        refine s_istore X e26 rfl (by omega) dX6_readHops_32 ?_
        refine s_iload_n X 1 rfl dX6_readHops_34 ?_
        refine s_callS (As := [VI key_]) X cw_X6_94 dX6_readHops_35 (L_C_Net_runOf G key_ m_2) rfl ⟨Nat.le_of_ble_eq_true rfl, Nat.le_of_ble_eq_true rfl⟩ ⟨Nat.le_of_ble_eq_true rfl, Nat.le_of_ble_eq_true rfl⟩ (Nat.le_of_ble_eq_true rfl) noT (kkR ?_)
        obtain ⟨run_, e28, h⟩ := ltv_elim h
        refine s_istore X e28 rfl (by omega) dX6_readHops_38 ?_
        refine s_iload_n X 2 rfl dX6_readHops_40 ?_
        refine s_callS (As := [VI key_]) X cw_X6_98 dX6_readHops_41 (L_C_Net_callOf G key_ m_2) rfl ⟨Nat.le_of_ble_eq_true rfl, Nat.le_of_ble_eq_true rfl⟩ ⟨Nat.le_of_ble_eq_true rfl, Nat.le_of_ble_eq_true rfl⟩ (Nat.le_of_ble_eq_true rfl) noT (kkR ?_)
        obtain ⟨call_, e30, h⟩ := ltv_elim h
        refine s_istore X e30 rfl (by omega) dX6_readHops_44 ?_
        obtain ⟨kj_, hk31, h⟩ := ltv_elim h
        have K32 : ∀ (m_3 : Mem), kj_ m_3 = some x9 → J SHC G rm_X6_readHops (.inl O) C 0 0 91 [(6, VI call_), (5, VI run_), (4, VI leave_), (3, VI key_), (2, VI index_2), (0, VR 345), (1, VI minute_)] [] m_3 := by
          intro m_3 h
          subst hk31
          dsimp only at h
          obtain ⟨g47, h⟩ := grd_some h
          refine s_load0 X 5 rfl dX6_readHops_91 ?_
          refine s_getR (id := 346) X fk_X6_9 SHC_345 rfl dX6_readHops_92 ?_
          refine s_iload X 1 rfl dX6_readHops_95 ?_
          refine s_bald X SHC_346 g47.1 g47.2 dX6_readHops_97 ?_
          refine s_ifeq_f (tgt := 139) X dX6_readHops_98 (by omega) (fun c50 => ?_) (fun c51 => ?_)
          · replace h := ite_neg h c50
            obtain ⟨g52, h⟩ := grd_some h
            obtain ⟨index_3, e53, h⟩ := ltv_elim h
            refine s_iinc X 4 rfl g52 e53 rfl (by omega) dX6_readHops_139 ?_
            refine s_goto (tgt := 6) X dX6_readHops_142 (by omega) ?_
            refine s_loc [0, 5, 6] rfl ?_
            exact ih11 _ _ (iter_next h hc10)
          · replace h := ite_pos h c51
            obtain ⟨g54, h⟩ := grd_some h
            refine s_load0 X 5 rfl dX6_readHops_101 ?_
            refine s_getR (id := 352) X fk_X6_44 SHC_345 rfl dX6_readHops_102 ?_
            refine s_load0 X 5 rfl dX6_readHops_105 ?_
            refine s_getR (id := 119) X fk_X6_35 SHC_345 rfl dX6_readHops_106 ?_
            refine s_getR (id := 123) X fk_X6_74 SHC_119 rfl dX6_readHops_109 ?_
            refine s_iload X 1 rfl dX6_readHops_112 ?_
            refine s_aaldI (id := (124 + run_.toNat)) X (by omega) (Or.inl rfl) SHC_123 g47.1 g47.2 dX6_readHops_114 ?_
            refine s_iload X 0 rfl dX6_readHops_115 ?_
            refine s_const X (by unfold InR; omega) dX6_readHops_117 ?_
            refine s_iadd X g54.1 dX6_readHops_118 ?_
            refine s_iald X (SHC_r124 g47.1 g47.2) g54.2.1 g54.2.2 dX6_readHops_119 ?_
            refine s_load0 X 5 rfl dX6_readHops_120 ?_
            refine s_getR (id := 119) X fk_X6_35 SHC_345 rfl dX6_readHops_121 ?_
            refine s_getR (id := 196) X fk_X6_78 SHC_119 rfl dX6_readHops_124 ?_
            refine s_iload X 1 rfl dX6_readHops_127 ?_
            refine s_aaldI (id := (197 + run_.toNat)) X (by omega) (Or.inl rfl) SHC_196 g47.1 g47.2 dX6_readHops_129 ?_
            refine s_iload X 0 rfl dX6_readHops_130 ?_
            refine s_const X (by unfold InR; omega) dX6_readHops_132 ?_
            refine s_iadd X g54.1 dX6_readHops_133 ?_
            refine s_iald X (SHC_r197 g47.1 g47.2) g54.2.1 g54.2.2 dX6_readHops_134 ?_
            obtain ⟨r_2, m_5, hq55, h⟩ := bq2_some h
            refine s_callV (As := [VI (m_3 (124 + run_.toNat) (call_ + 1).toNat), VI (m_3 (197 + run_.toNat) (call_ + 1).toNat)]) X cw_X6_81 (shLab labS) rfl dX6_readHops_135 (L_C_Labels_getOff G 352 (m_3 (124 + run_.toNat) (call_ + 1).toNat) (m_3 (197 + run_.toNat) (call_ + 1).toNat) m_3 (r_2, m_5) labS hq55) rfl ⟨Nat.le_of_ble_eq_true rfl, Nat.le_of_ble_eq_true rfl⟩ ⟨Nat.le_of_ble_eq_true rfl, Nat.le_of_ble_eq_true rfl⟩ (Nat.le_of_ble_eq_true rfl) noT (kkR ?_)
            refine s_pop X rfl dX6_readHops_138 ?_
            obtain ⟨g58, h⟩ := grd_some h
            obtain ⟨index_4, e59, h⟩ := ltv_elim h
            refine s_iinc X 4 rfl g58 e59 rfl (by omega) dX6_readHops_139 ?_
            refine s_goto (tgt := 6) X dX6_readHops_142 (by omega) ?_
            refine s_loc [0, 5, 6] rfl ?_
            exact ih11 _ _ (iter_next h hc10)
        obtain ⟨g33, h⟩ := grd_some h
        have kF35 : ¬ ((minute_ ≤ leave_) ∧ (m_2 346 run_.toNat = 0)) → J SHC G rm_X6_readHops (.inl O) C 0 0 91 [(6, VI call_), (5, VI run_), (4, VI leave_), (3, VI key_), (2, VI index_2), (0, VR 345), (1, VI minute_)] [] m_2 := by
          intro c38
          replace h := ite_neg h c38
          exact s_kn rfl rfl (K32 _ h)
        refine s_iload X 2 rfl dX6_readHops_46 ?_
        refine s_iload_n X 6 rfl dX6_readHops_48 ?_
        refine s_icmplt_f (tgt := 91) X dX6_readHops_49 (by omega) (fun c36 => ?_) (fun c37 => ?_)
        · exact kF35 (fun q => c36 q.1)
        · have a39 : minute_ ≤ leave_ := c37
          refine s_load0 X 5 rfl dX6_readHops_52 ?_
          refine s_getR (id := 346) X fk_X6_9 SHC_345 rfl dX6_readHops_53 ?_
          refine s_iload X 1 rfl dX6_readHops_56 ?_
          refine s_bald X SHC_346 (g33.1 a39) (g33.2 a39) dX6_readHops_58 ?_
          refine s_ifne_f (tgt := 91) X dX6_readHops_59 (by omega) (fun c40 => ?_) (fun c41 => ?_)
          · exact kF35 (fun q => c40 q.2)
          · replace h := ite_pos h ⟨a39, c41⟩
            obtain ⟨g42, h⟩ := grd_some h
            refine s_load0 X 5 rfl dX6_readHops_62 ?_
            refine s_getR (id := 346) X fk_X6_9 SHC_345 rfl dX6_readHops_63 ?_
            refine s_iload X 1 rfl dX6_readHops_66 ?_
            refine s_load0 X 5 rfl dX6_readHops_68 ?_
            refine s_getR (id := 352) X fk_X6_44 SHC_345 rfl dX6_readHops_69 ?_
            refine s_load0 X 5 rfl dX6_readHops_72 ?_
            refine s_getR (id := 119) X fk_X6_35 SHC_345 rfl dX6_readHops_73 ?_
            refine s_getR (id := 123) X fk_X6_74 SHC_119 rfl dX6_readHops_76 ?_
            refine s_iload X 1 rfl dX6_readHops_79 ?_
            refine s_aaldI (id := (124 + run_.toNat)) X (by omega) (Or.inl rfl) SHC_123 g42.1 g42.2.1 dX6_readHops_81 ?_
            refine s_iload X 0 rfl dX6_readHops_82 ?_
            refine s_iald X (SHC_r124 g42.1 g42.2.1) g42.2.2.1 g42.2.2.2 dX6_readHops_84 ?_
            refine s_iload X 2 rfl dX6_readHops_85 ?_
            obtain ⟨r_, hq43, h⟩ := bnd_some h
            refine s_callV (As := [VI (m_2 (124 + run_.toNat) call_.toNat), VI leave_]) X cw_X6_101 (shLab labS) rfl dX6_readHops_87 (L_C_Labels_canGetOn G 352 (m_2 (124 + run_.toNat) call_.toNat) leave_ m_2 r_ labS hq43) rfl ⟨Nat.le_of_ble_eq_true rfl, Nat.le_of_ble_eq_true rfl⟩ ⟨Nat.le_of_ble_eq_true rfl, Nat.le_of_ble_eq_true rfl⟩ (Nat.le_of_ble_eq_true rfl) noT (kkR ?_)
            obtain ⟨g45, h⟩ := grd_some h
            obtain ⟨m_4, e46, h⟩ := ltv_elim h
            refine s_bast X e46 SHC_346 g42.1 g42.2.1 g45 dX6_readHops_90 ?_
            exact s_kn rfl rfl (K32 _ h)
  exact LP12 _ _ _ hl17
set_option maxRecDepth 20000 in
set_option maxHeartbeats 4000000 in
theorem L_C_Search_scan (G : Gl) (from_ : Int) (minute_ : Int) (m : Mem) (r : Mem)  (h : C_Search_scan from_ minute_ m = some r) : Con SHC G yX6_scan cX6_scan 3 none rm_X6_scan [VR 345, VI from_, VI minute_] m (((.inl none, r) : Res × Mem)) := by
  refine con_of (own := "Lastbus$Search") (by decide) rfl (Nat.le_of_ble_eq_true rfl) (fun C X => ?_)
  obtain ⟨O, hO⟩ : ∃ O : Res × Mem, O = (((.inl none, r) : Res × Mem)) := ⟨_, rfl⟩
  rw [← hO]
  show J SHC G rm_X6_scan (.inl O) C 0 0 0 [(0, VR 345), (1, VI from_), (2, VI minute_)] [] m
  unfold C_Search_scan at h
  refine s_load0 X 0 rfl dX6_scan_0 ?_
  refine s_getR (id := 352) X fk_X6_44 SHC_345 rfl dX6_scan_1 ?_
  refine s_iload_n X 1 rfl dX6_scan_4 ?_
  refine s_iload_n X 2 rfl dX6_scan_5 ?_
  obtain ⟨m_, hq2, h⟩ := bnd_some h
  refine s_callV (As := [VI from_, VI minute_]) X cw_X6_48 (shLab labS) rfl dX6_scan_6 (L_C_Labels_begin G 352 from_ minute_ m m_ labS hq2) rfl ⟨Nat.le_of_ble_eq_true rfl, Nat.le_of_ble_eq_true rfl⟩ ⟨Nat.le_of_ble_eq_true rfl, Nat.le_of_ble_eq_true rfl⟩ (Nat.le_of_ble_eq_true rfl) noT (kkU ?_)
  refine s_load0 X 0 rfl dX6_scan_9 ?_
  refine s_iload_n X 2 rfl dX6_scan_10 ?_
  obtain ⟨m_2, hq6, h⟩ := bnd_some h
  refine s_callV (As := [VI minute_]) X cw_X6_52 SHC_345 rfl dX6_scan_11 (L_C_Search_readHops G minute_ m_ m_2 hq6) rfl ⟨Nat.le_of_ble_eq_true rfl, Nat.le_of_ble_eq_true rfl⟩ ⟨Nat.le_of_ble_eq_true rfl, Nat.le_of_ble_eq_true rfl⟩ (Nat.le_of_ble_eq_true rfl) noT (kkU ?_)
  exact s_vret X (Nat.le_of_ble_eq_true rfl) (Nat.le_of_ble_eq_true rfl) (by cases h; exact hO) dX6_scan_14
set_option maxRecDepth 20000 in
set_option maxHeartbeats 4000000 in
theorem L_C_Labels_at (G : Gl) (x : Nat) (stop_ : Int) (m : Mem) (r : Int) (hx : isLab x) (h : C_Labels_at x stop_ m = some r) : Con SHC G yX2_at cX2_at 2 (some .int) rm_X2_at [VR x, VI stop_] m (((.inl (some (VI r)), m) : Res × Mem)) := by
  refine con_of (own := "Lastbus$Labels") (by decide) rfl (Nat.le_of_ble_eq_true rfl) (fun C X => ?_)
  obtain ⟨O, hO⟩ : ∃ O : Res × Mem, O = (((.inl (some (VI r)), m) : Res × Mem)) := ⟨_, rfl⟩
  rw [← hO]
  show J SHC G rm_X2_at (.inl O) C 0 0 0 [(0, VR x), (1, VI stop_)] [] m
  unfold C_Labels_at at h
  obtain ⟨g1, h⟩ := grd_some h
  refine s_load0 X 0 rfl dX2_at_0 ?_
  refine s_getR (id := (x + 1)) X fk_X2_9 (shLab hx) rfl dX2_at_1 ?_
  refine s_iload_n X 1 rfl dX2_at_4 ?_
  refine s_iald X (shLab1 hx) g1.1 g1.2 dX2_at_5 ?_
  refine s_load0 X 0 rfl dX2_at_6 ?_
  refine s_getR (id := (x + 2)) X fk_X2_15 (shLab hx) rfl dX2_at_7 ?_
  refine s_iload_n X 1 rfl dX2_at_10 ?_
  refine s_iald X (shLab2 hx) g1.1 g1.2 dX2_at_11 ?_
  refine s_min X mm_X2_46 (Nat.le_of_ble_eq_true rfl) (Nat.le_of_ble_eq_true rfl) ⟨Nat.le_of_ble_eq_true rfl, Nat.le_of_ble_eq_true rfl⟩ dX2_at_12 ?_
  exact s_iret X (Nat.le_of_ble_eq_true rfl) (Nat.le_of_ble_eq_true rfl) (by cases h; exact hO) dX2_at_15
set_option maxRecDepth 20000 in
set_option maxHeartbeats 4000000 in
theorem L_C_earliest (G : Gl) (from_ : Int) (to_ : Int) (day_ : Int) (minute_ : Int) (m : Mem) (r : ((Int ⊕ Nat) × Mem))  (h : C_earliest from_ to_ day_ minute_ m = some r) : Con SHC G yX11_earliest cX11_earliest 5 (some .int) rm_X11_earliest [VR 0, VI from_, VI to_, VI day_, VI minute_] m (oT wI r) := by
  refine con_of (own := "Lastbus") (by decide) rfl (Nat.le_of_ble_eq_true rfl) (fun C X => ?_)
  obtain ⟨O, hO⟩ : ∃ O : Res × Mem, O = (oT wI r) := ⟨_, rfl⟩
  rw [← hO]
  show J SHC G rm_X11_earliest (.inl O) C 0 0 0 [(0, VR 0), (1, VI from_), (2, VI to_), (3, VI day_), (4, VI minute_)] [] m
  unfold C_earliest at h
  refine s_load0 X 0 rfl dX11_earliest_0 ?_
  refine s_iload_n X 1 rfl dX11_earliest_1 ?_
  refine s_iload_n X 2 rfl dX11_earliest_2 ?_
  refine s_iload_n X 3 rfl dX11_earliest_3 ?_
  refine s_iload X 4 rfl dX11_earliest_4 ?_
  obtain ⟨q3, hq2, h⟩ := bnd_some h
  refine s_callV (As := [VI from_, VI to_, VI day_, VI minute_]) X cw_X11_277 SHC_0 rfl dX11_earliest_6 (L_C_needWay G from_ to_ day_ minute_ m q3 hq2) rfl ⟨Nat.le_of_ble_eq_true rfl, Nat.le_of_ble_eq_true rfl⟩ ⟨Nat.le_of_ble_eq_true rfl, Nat.le_of_ble_eq_true rfl⟩ (Nat.le_of_ble_eq_true rfl) (thr_up hO h) (kkT fun u_ m_ e9 => ?_)
  subst e9
  replace h := tbd_inl h
  refine s_load0 X 0 rfl dX11_earliest_9 ?_
  refine s_getR (id := 119) X fk_X11_49 SHC_0 rfl dX11_earliest_10 ?_
  refine s_iload_n X 3 rfl dX11_earliest_13 ?_
  refine s_const X (by unfold InR; omega) dX11_earliest_14 ?_
  refine s_const X (by unfold InR; omega) dX11_earliest_15 ?_
  obtain ⟨m_2, hq6, h⟩ := bnd_some h
  refine s_callV (As := [VI day_, VI (-1), VI 0]) X cw_X11_280 SHC_119 rfl dX11_earliest_16 (L_C_Net_lay G day_ (-1) 0 m_ m_2 hq6) rfl ⟨Nat.le_of_ble_eq_true rfl, Nat.le_of_ble_eq_true rfl⟩ ⟨Nat.le_of_ble_eq_true rfl, Nat.le_of_ble_eq_true rfl⟩ (Nat.le_of_ble_eq_true rfl) noT (kkU ?_)
  refine s_load0 X 0 rfl dX11_earliest_19 ?_
  refine s_getR (id := 345) X fk_X11_58 SHC_0 rfl dX11_earliest_20 ?_
  refine s_iload_n X 1 rfl dX11_earliest_23 ?_
  refine s_iload X 4 rfl dX11_earliest_24 ?_
  obtain ⟨m_3, hq10, h⟩ := bnd_some h
  refine s_callV (As := [VI from_, VI minute_]) X cw_X11_283 SHC_345 rfl dX11_earliest_26 (L_C_Search_scan G from_ minute_ m_2 m_3 hq10) rfl ⟨Nat.le_of_ble_eq_true rfl, Nat.le_of_ble_eq_true rfl⟩ ⟨Nat.le_of_ble_eq_true rfl, Nat.le_of_ble_eq_true rfl⟩ (Nat.le_of_ble_eq_true rfl) noT (kkU ?_)
  refine s_load0 X 0 rfl dX11_earliest_29 ?_
  refine s_getR (id := 345) X fk_X11_58 SHC_0 rfl dX11_earliest_30 ?_
  refine s_getR (id := 352) X fk_X11_286 SHC_345 rfl dX11_earliest_33 ?_
  refine s_iload_n X 2 rfl dX11_earliest_36 ?_
  obtain ⟨r_, hq14, h⟩ := bnd_some h
  refine s_callV (As := [VI to_]) X cw_X11_290 (shLab labS) rfl dX11_earliest_37 (L_C_Labels_at G 352 to_ m_3 r_ labS hq14) rfl ⟨Nat.le_of_ble_eq_true rfl, Nat.le_of_ble_eq_true rfl⟩ ⟨Nat.le_of_ble_eq_true rfl, Nat.le_of_ble_eq_true rfl⟩ (Nat.le_of_ble_eq_true rfl) noT (kkR ?_)
  obtain ⟨q18, hq17, h⟩ := bnd_some h
  refine s_callS (As := [VI r_]) X cw_X11_128 dX11_earliest_40 (L_C_needFound G r_ m_3 q18 hq17) rfl ⟨Nat.le_of_ble_eq_true rfl, Nat.le_of_ble_eq_true rfl⟩ ⟨Nat.le_of_ble_eq_true rfl, Nat.le_of_ble_eq_true rfl⟩ (Nat.le_of_ble_eq_true rfl) (thr_up hO h) (kkT fun u_2 m_4 e9 => ?_)
  subst e9
  replace h := tbd_inl h
  refine s_load0 X 0 rfl dX11_earliest_43 ?_
  refine s_getR (id := 345) X fk_X11_58 SHC_0 rfl dX11_earliest_44 ?_
  refine s_getR (id := 352) X fk_X11_286 SHC_345 rfl dX11_earliest_47 ?_
  refine s_iload_n X 2 rfl dX11_earliest_50 ?_
  obtain ⟨r_2, hq21, h⟩ := bnd_some h
  refine s_callV (As := [VI to_]) X cw_X11_290 (shLab labS) rfl dX11_earliest_51 (L_C_Labels_at G 352 to_ m_4 r_2 labS hq21) rfl ⟨Nat.le_of_ble_eq_true rfl, Nat.le_of_ble_eq_true rfl⟩ ⟨Nat.le_of_ble_eq_true rfl, Nat.le_of_ble_eq_true rfl⟩ (Nat.le_of_ble_eq_true rfl) noT (kkR ?_)
  exact s_iret X (Nat.le_of_ble_eq_true rfl) (Nat.le_of_ble_eq_true rfl) (by cases h; exact hO) dX11_earliest_54
set_option maxRecDepth 20000 in
set_option maxHeartbeats 4000000 in
theorem L_C_Search_minuteAt (G : Gl) (place_ : Int) (m : Mem) (r : Int)  (h : C_Search_minuteAt place_ m = some r) : Con SHC G yX6_minuteAt cX6_minuteAt 2 (some .int) rm_X6_minuteAt [VR 345, VI place_] m (((.inl (some (VI r)), m) : Res × Mem)) := by
  refine con_of (own := "Lastbus$Search") (by decide) rfl (Nat.le_of_ble_eq_true rfl) (fun C X => ?_)
  obtain ⟨O, hO⟩ : ∃ O : Res × Mem, O = (((.inl (some (VI r)), m) : Res × Mem)) := ⟨_, rfl⟩
  rw [← hO]
  show J SHC G rm_X6_minuteAt (.inl O) C 0 0 0 [(0, VR 345), (1, VI place_)] [] m
  unfold C_Search_minuteAt at h
  obtain ⟨g1, h⟩ := grd_some h
  have kM2 : J SHC G rm_X6_minuteAt (.inl O) C 0 0 30 [(0, VR 345), (1, VI place_)] [VI (if place_ < 12 then m (352 + 2) place_.toNat else m (352 + 1) (place_ - 12).toNat)] m := by
    exact s_iret X (Nat.le_of_ble_eq_true rfl) (Nat.le_of_ble_eq_true rfl) (by cases h; exact hO) dX6_minuteAt_30
  refine s_iload_n X 1 rfl dX6_minuteAt_0 ?_
  refine s_bipush X (by omega) dX6_minuteAt_1 ?_
  refine s_icmpge_f (tgt := 18) X dX6_minuteAt_3 (by omega) (fun c3 => ?_) (fun c4 => ?_)
  · refine s_load0 X 0 rfl dX6_minuteAt_18 ?_
    refine s_getR (id := 352) X fk_X6_44 SHC_345 rfl dX6_minuteAt_19 ?_
    refine s_getR (id := (352 + 1)) X fk_X6_150 (shLab labS) rfl dX6_minuteAt_22 ?_
    refine s_iload_n X 1 rfl dX6_minuteAt_25 ?_
    refine s_bipush X (by omega) dX6_minuteAt_26 ?_
    refine s_isub X (g1.1 c3) dX6_minuteAt_28 ?_
    refine s_iald X (shLab1 labS) (g1.2.1 c3) (g1.2.2.1 c3) dX6_minuteAt_29 ?_
    exact s_eqt (if_neg c3) kM2
  · refine s_load0 X 0 rfl dX6_minuteAt_6 ?_
    refine s_getR (id := 352) X fk_X6_44 SHC_345 rfl dX6_minuteAt_7 ?_
    refine s_getR (id := (352 + 2)) X fk_X6_147 (shLab labS) rfl dX6_minuteAt_10 ?_
    refine s_iload_n X 1 rfl dX6_minuteAt_13 ?_
    refine s_iald X (shLab2 labS) (g1.2.2.2.1 c4) (g1.2.2.2.2 c4) dX6_minuteAt_14 ?_
    refine s_goto (tgt := 30) X dX6_minuteAt_15 (by omega) ?_
    exact s_eqt (if_pos c4) kM2
set_option maxRecDepth 20000 in
set_option maxHeartbeats 4000000 in
theorem L_C_Search_nearest (G : Gl)  (m : Mem) (r : Int)  (h : C_Search_nearest  m = some r) : Con SHC G yX6_nearest cX6_nearest 5 (some .int) rm_X6_nearest [VR 345] m (((.inl (some (VI r)), m) : Res × Mem)) := by
  refine con_of (own := "Lastbus$Search") (by decide) rfl (Nat.le_of_ble_eq_true rfl) (fun C X => ?_)
  obtain ⟨O, hO⟩ : ∃ O : Res × Mem, O = (((.inl (some (VI r)), m) : Res × Mem)) := ⟨_, rfl⟩
  rw [← hO]
  show J SHC G rm_X6_nearest (.inl O) C 0 0 0 [(0, VR 345)] [] m
  unfold C_Search_nearest at h
  refine s_const X (by unfold InR; omega) dX6_nearest_0 ?_
  obtain ⟨best_, e2, h⟩ := ltv_elim h
  refine s_istore_n X e2 rfl (by omega) dX6_nearest_1 ?_
  refine s_ldc (z := 1000000) X (by unfold InR; omega) kc_X6_153 dX6_nearest_2 ?_
  obtain ⟨least_, e4, h⟩ := ltv_elim h
  refine s_istore_n X e4 rfl (by omega) dX6_nearest_4 ?_
  refine s_const X (by unfold InR; omega) dX6_nearest_5 ?_
  obtain ⟨place_, e6, h⟩ := ltv_elim h
  refine s_istore_n X e6 rfl (by omega) dX6_nearest_6 ?_
  obtain ⟨best_4, least_4, place_6, hl16, h⟩ := bq3_some h
  obtain ⟨fu70, hl17⟩ := loop_iter hl16
  have KX13 : ∀ q9 : Int × Int × Int, q9 = (best_4, least_4, place_6) → J SHC G rm_X6_nearest (.inl O) C 0 0 71 [(3, VI q9.2.2), (2, VI q9.2.1), (1, VI q9.1), (0, VR 345)] [] m := by
    intro q9 e9
    subst e9
    show J SHC G rm_X6_nearest (.inl O) C 0 0 71 [(3, VI place_6), (2, VI least_4), (1, VI best_4), (0, VR 345)] [] m
    refine s_iload_n X 2 rfl dX6_nearest_71 ?_
    exact s_iret X (Nat.le_of_ble_eq_true rfl) (Nat.le_of_ble_eq_true rfl) (by cases h; exact hO) dX6_nearest_72
  have LP12 : ∀ (fu7 : Nat) (best_2 : Int) (least_2 : Int) (place_2 : Int), iter (fun s => C_Search_nearest_b1 m s.1 s.2.1 s.2.2) fu7 (best_2, least_2, place_2) = some (best_4, least_4, place_6) → J SHC G rm_X6_nearest (.inl O) C 0 0 7 [(3, VI place_2), (2, VI least_2), (1, VI best_2), (0, VR 345)] [] m := by
    intro fu7
    induction fu7 with
    | zero => intro best_2 least_2 place_2 hn8; exact absurd hn8 (by simp [iter])
    | succ fu7 ih11 =>
      intro best_2 least_2 place_2 hn8
      obtain ⟨x9, h, hc10⟩ := iter_succ hn8
      replace h : C_Search_nearest_b1 m best_2 least_2 place_2 = some x9 := h
      unfold C_Search_nearest_b1 at h
      refine s_iload_n X 0 rfl dX6_nearest_7 ?_
      refine s_bipush X (by omega) dX6_nearest_8 ?_
      refine s_icmpge_f (tgt := 71) X dX6_nearest_10 (by omega) (fun c21 => ?_) (fun c22 => ?_)
      · replace h := ite_neg h c21
        exact KX13 _ (iter_exit h hc10)
      · replace h := ite_pos h c22
        obtain ⟨g23, h⟩ := grd_some h
        have kM24 : J SHC G rm_X6_nearest (.inl O) C 0 0 41 [(3, VI place_2), (2, VI least_2), (1, VI best_2), (0, VR 345)] [VI (if (place_2.tmod 12 < m 1 0) ∧ (m 349 place_2.toNat = 0) then 1 else 0)] m := by
          obtain ⟨isOpen_, e30, h⟩ := ltv_elim h
          refine s_istore X e30 rfl (by omega) dX6_nearest_41 ?_
          refine s_iload X 0 rfl dX6_nearest_43 ?_
          refine s_ifeq_f (tgt := 65) X dX6_nearest_45 (by omega) (fun c34 => ?_) (fun c35 => ?_)
          · replace h := ite_neg h c34
            obtain ⟨g36, h⟩ := grd_some h
            obtain ⟨place_3, e37, h⟩ := ltv_elim h
            refine s_iinc X 1 rfl g36 e37 rfl (by omega) dX6_nearest_65 ?_
            refine s_goto (tgt := 7) X dX6_nearest_68 (by omega) ?_
            refine s_loc [0, 2, 3, 4] rfl ?_
            exact ih11 _ _ _ (iter_next h hc10)
          · replace h := ite_pos h c35
            refine s_load0 X 4 rfl dX6_nearest_48 ?_
            refine s_iload_n X 1 rfl dX6_nearest_49 ?_
            obtain ⟨r_, hq39, h⟩ := bnd_some h
            refine s_callV (As := [VI place_2]) X cw_X6_141 SHC_345 rfl dX6_nearest_50 (L_C_Search_minuteAt G place_2 m r_ hq39) rfl ⟨Nat.le_of_ble_eq_true rfl, Nat.le_of_ble_eq_true rfl⟩ ⟨Nat.le_of_ble_eq_true rfl, Nat.le_of_ble_eq_true rfl⟩ (Nat.le_of_ble_eq_true rfl) noT (kkR ?_)
            refine s_iload_n X 2 rfl dX6_nearest_53 ?_
            refine s_icmpge_f (tgt := 65) X dX6_nearest_54 (by omega) (fun c42 => ?_) (fun c43 => ?_)
            · replace h := ite_neg h c42
              obtain ⟨g44, h⟩ := grd_some h
              obtain ⟨place_4, e45, h⟩ := ltv_elim h
              refine s_iinc X 1 rfl g44 e45 rfl (by omega) dX6_nearest_65 ?_
              refine s_goto (tgt := 7) X dX6_nearest_68 (by omega) ?_
              refine s_loc [0, 2, 3, 4] rfl ?_
              exact ih11 _ _ _ (iter_next h hc10)
            · replace h := ite_pos h c43
              refine s_load0 X 4 rfl dX6_nearest_57 ?_
              refine s_iload_n X 1 rfl dX6_nearest_58 ?_
              obtain ⟨r_2, hq47, h⟩ := bnd_some h
              refine s_callV (As := [VI place_2]) X cw_X6_141 SHC_345 rfl dX6_nearest_59 (L_C_Search_minuteAt G place_2 m r_2 hq47) rfl ⟨Nat.le_of_ble_eq_true rfl, Nat.le_of_ble_eq_true rfl⟩ ⟨Nat.le_of_ble_eq_true rfl, Nat.le_of_ble_eq_true rfl⟩ (Nat.le_of_ble_eq_true rfl) noT (kkR ?_)
              obtain ⟨least_3, e50, h⟩ := ltv_elim h
              refine s_istore_n X e50 rfl (by omega) dX6_nearest_62 ?_
              refine s_iload_n X 2 rfl dX6_nearest_63 ?_
              obtain ⟨best_3, e52, h⟩ := ltv_elim h
              refine s_istore_n X e52 rfl (by omega) dX6_nearest_64 ?_
              obtain ⟨g53, h⟩ := grd_some h
              obtain ⟨place_5, e54, h⟩ := ltv_elim h
              refine s_iinc X 3 rfl g53 e54 rfl (by omega) dX6_nearest_65 ?_
              refine s_goto (tgt := 7) X dX6_nearest_68 (by omega) ?_
              refine s_loc [0, 2, 1, 4] rfl ?_
              exact ih11 _ _ _ (iter_next h hc10)
        refine s_iload_n X 0 rfl dX6_nearest_13 ?_
        refine s_bipush X (by omega) dX6_nearest_14 ?_
        refine s_irem X (by omega) dX6_nearest_16 ?_
        refine s_load0 X 3 rfl dX6_nearest_17 ?_
        refine s_getR (id := 1) X fk_X6_31 SHC_345 rfl dX6_nearest_18 ?_
        refine s_getI X fk_X6_122 SHC_1 rfl dX6_nearest_21 ?_
        refine s_icmpge_f (tgt := 40) X dX6_nearest_24 (by omega) (fun c25 => ?_) (fun c26 => ?_)
        · refine s_const X (by unfold InR; omega) dX6_nearest_40 ?_
          exact s_eqt (if_neg (fun q => c25 q.1)) kM24
        · have a27 : place_2.tmod 12 < m 1 0 := c26
          refine s_load0 X 3 rfl dX6_nearest_27 ?_
          refine s_getR (id := 349) X fk_X6_22 SHC_345 rfl dX6_nearest_28 ?_
          refine s_iload_n X 0 rfl dX6_nearest_31 ?_
          refine s_bald X SHC_349 (g23.1 a27) (g23.2 a27) dX6_nearest_32 ?_
          refine s_ifne_f (tgt := 40) X dX6_nearest_33 (by omega) (fun c28 => ?_) (fun c29 => ?_)
          · refine s_const X (by unfold InR; omega) dX6_nearest_40 ?_
            exact s_eqt (if_neg (fun q => c28 q.2)) kM24
          · refine s_const X (by unfold InR; omega) dX6_nearest_36 ?_
            refine s_goto (tgt := 41) X dX6_nearest_37 (by omega) ?_
            exact s_eqt (if_pos ⟨a27, c29⟩) kM24
  exact LP12 _ _ _ _ hl17
set_option maxRecDepth 20000 in
set_option maxHeartbeats 4000000 in
theorem L_C_Search_getOnAll (G : Gl) (stop_ : Int) (ready_ : Int) (m : Mem) (r : Mem)  (h : C_Search_getOnAll stop_ ready_ m = some r) : Con SHC G yX6_getOnAll cX6_getOnAll 6 none rm_X6_getOnAll [VR 345, VI stop_, VI ready_] m (((.inl none, r) : Res × Mem)) := by
  refine con_of (own := "Lastbus$Search") (by decide) rfl (Nat.le_of_ble_eq_true rfl) (fun C X => ?_)
  obtain ⟨O, hO⟩ : ∃ O : Res × Mem, O = (((.inl none, r) : Res × Mem)) := ⟨_, rfl⟩
  rw [← hO]
  show J SHC G rm_X6_getOnAll (.inl O) C 0 0 0 [(0, VR 345), (1, VI stop_), (2, VI ready_)] [] m
  unfold C_Search_getOnAll at h
  refine s_const X (by unfold InR; omega) dX6_getOnAll_0 ?_
  obtain ⟨run_, e2, h⟩ := ltv_elim h
  refine s_istore_n X e2 rfl (by omega) dX6_getOnAll_1 ?_
  obtain ⟨run_4, m_5, hl12, h⟩ := bq2_some h
  obtain ⟨fu30, hl13⟩ := loop_iter hl12
  have KX9 : ∀ q9 : Int × Mem, q9 = (run_4, m_5) → J SHC G rm_X6_getOnAll (.inl O) C 0 0 124 [(3, VI q9.1), (0, VR 345), (1, VI stop_), (2, VI ready_)] [] (q9.2) := by
    intro q9 e9
    subst e9
    show J SHC G rm_X6_getOnAll (.inl O) C 0 0 124 [(3, VI run_4), (0, VR 345), (1, VI stop_), (2, VI ready_)] [] m_5
    exact s_vret X (Nat.le_of_ble_eq_true rfl) (Nat.le_of_ble_eq_true rfl) (by cases h; exact hO) dX6_getOnAll_124
  have LP8 : ∀ (fu3 : Nat) (run_2 : Int) (m_ : Mem), iter (fun s => C_Search_getOnAll_b1 stop_ ready_ s.1 s.2) fu3 (run_2, m_) = some (run_4, m_5) → J SHC G rm_X6_getOnAll (.inl O) C 0 0 2 [(3, VI run_2), (0, VR 345), (1, VI stop_), (2, VI ready_)] [] m_ := by
    intro fu3
    induction fu3 with
    | zero => intro run_2 m_ hn4; exact absurd hn4 (by simp [iter])
    | succ fu3 ih7 =>
      intro run_2 m_ hn4
      obtain ⟨x5, h, hc6⟩ := iter_succ hn4
      replace h : C_Search_getOnAll_b1 stop_ ready_ run_2 m_ = some x5 := h
      unfold C_Search_getOnAll_b1 at h
      refine s_iload_n X 0 rfl dX6_getOnAll_2 ?_
      refine s_load0 X 1 rfl dX6_getOnAll_3 ?_
      refine s_getR (id := 119) X fk_X6_35 SHC_345 rfl dX6_getOnAll_4 ?_
      refine s_getI X fk_X6_59 SHC_119 rfl dX6_getOnAll_7 ?_
      refine s_icmpge_f (tgt := 124) X dX6_getOnAll_10 (by omega) (fun c17 => ?_) (fun c18 => ?_)
      · replace h := ite_neg h c17
        exact KX9 _ (iter_exit h hc6)
      · replace h := ite_pos h c18
        refine s_const X (by unfold InR; omega) dX6_getOnAll_13 ?_
        obtain ⟨isOn_, e20, h⟩ := ltv_elim h
        refine s_istore X e20 rfl (by omega) dX6_getOnAll_14 ?_
        refine s_const X (by unfold InR; omega) dX6_getOnAll_16 ?_
        obtain ⟨call_, e22, h⟩ := ltv_elim h
        refine s_istore X e22 rfl (by omega) dX6_getOnAll_17 ?_
        obtain ⟨isOn_4, call_5, m_4, hl32, h⟩ := bq3_some h
        obtain ⟨fu230, hl33⟩ := loop_iter hl32
        have KX29 : ∀ q9 : Int × Int × Mem, q9 = (isOn_4, call_5, m_4) → J SHC G rm_X6_getOnAll (.inl O) C 0 0 118 [(5, VI q9.2.1), (4, VI q9.1), (3, VI run_2), (0, VR 345), (1, VI stop_), (2, VI ready_)] [] (q9.2.2) := by
          intro q9 e9
          subst e9
          show J SHC G rm_X6_getOnAll (.inl O) C 0 0 118 [(5, VI call_5), (4, VI isOn_4), (3, VI run_2), (0, VR 345), (1, VI stop_), (2, VI ready_)] [] m_4
          obtain ⟨g60, h⟩ := grd_some h
          obtain ⟨run_3, e61, h⟩ := ltv_elim h
          refine s_iinc X 2 rfl g60 e61 rfl (by omega) dX6_getOnAll_118 ?_
          refine s_goto (tgt := 2) X dX6_getOnAll_121 (by omega) ?_
          refine s_loc [0, 3, 4, 5] rfl ?_
          exact ih7 _ _ (iter_next h hc6)
        have LP28 : ∀ (fu23 : Nat) (isOn_2 : Int) (call_2 : Int) (m_2 : Mem), iter (fun s => C_Search_getOnAll_b2 stop_ ready_ run_2 s.1 s.2.1 s.2.2) fu23 (isOn_2, call_2, m_2) = some (isOn_4, call_5, m_4) → J SHC G rm_X6_getOnAll (.inl O) C 0 0 19 [(5, VI call_2), (4, VI isOn_2), (3, VI run_2), (0, VR 345), (1, VI stop_), (2, VI ready_)] [] m_2 := by
          intro fu23
          induction fu23 with
          | zero => intro isOn_2 call_2 m_2 hn24; exact absurd hn24 (by simp [iter])
          | succ fu23 ih27 =>
            intro isOn_2 call_2 m_2 hn24
            obtain ⟨x25, h, hc26⟩ := iter_succ hn24
            replace h : C_Search_getOnAll_b2 stop_ ready_ run_2 isOn_2 call_2 m_2 = some x25 := h
            unfold C_Search_getOnAll_b2 at h
            obtain ⟨g34, h⟩ := grd_some h
            refine s_iload X 0 rfl dX6_getOnAll_19 ?_
            refine s_load0 X 3 rfl dX6_getOnAll_21 ?_
            refine s_getR (id := 119) X fk_X6_35 SHC_345 rfl dX6_getOnAll_22 ?_
            refine s_getR (id := 122) X fk_X6_71 SHC_119 rfl dX6_getOnAll_25 ?_
            refine s_iload_n X 2 rfl dX6_getOnAll_28 ?_
            refine s_iald X SHC_122 g34.1 g34.2 dX6_getOnAll_29 ?_
            refine s_icmpge_f (tgt := 118) X dX6_getOnAll_30 (by omega) (fun c37 => ?_) (fun c38 => ?_)
            · replace h := ite_neg h c37
              exact KX29 _ (iter_exit h hc26)
            · replace h := ite_pos h c38
              refine s_iload X 1 rfl dX6_getOnAll_33 ?_
              refine s_ifeq_f (tgt := 73) X dX6_getOnAll_35 (by omega) (fun c42 => ?_) (fun c43 => ?_)
              · replace h := ite_neg h c42
                obtain ⟨g44, h⟩ := grd_some h
                have kM45 : J SHC G rm_X6_getOnAll (.inl O) C 0 0 110 [(5, VI call_2), (4, VI isOn_2), (3, VI run_2), (0, VR 345), (1, VI stop_), (2, VI ready_)] [VI (if (m_2 (124 + run_2.toNat) call_2.toNat = stop_) ∧ (ready_ ≤ m_2 (270 + run_2.toNat) call_2.toNat) then 1 else 0)] m_2 := by
                  obtain ⟨isOn_3, e51, h⟩ := ltv_elim h
                  refine s_istore X e51 rfl (by omega) dX6_getOnAll_110 ?_
                  obtain ⟨g52, h⟩ := grd_some h
                  obtain ⟨call_3, e53, h⟩ := ltv_elim h
                  refine s_iinc X 1 rfl g52 e53 rfl (by omega) dX6_getOnAll_112 ?_
                  refine s_goto (tgt := 19) X dX6_getOnAll_115 (by omega) ?_
                  exact ih27 _ _ _ (iter_next h hc26)
                refine s_load0 X 3 rfl dX6_getOnAll_73 ?_
                refine s_getR (id := 119) X fk_X6_35 SHC_345 rfl dX6_getOnAll_74 ?_
                refine s_getR (id := 123) X fk_X6_74 SHC_119 rfl dX6_getOnAll_77 ?_
                refine s_iload_n X 2 rfl dX6_getOnAll_80 ?_
                refine s_aaldI (id := (124 + run_2.toNat)) X (by omega) (Or.inl rfl) SHC_123 g34.1 g34.2 dX6_getOnAll_81 ?_
                refine s_iload X 0 rfl dX6_getOnAll_82 ?_
                refine s_iald X (SHC_r124 g34.1 g34.2) g44.1 g44.2 dX6_getOnAll_84 ?_
                refine s_iload_n X 4 rfl dX6_getOnAll_85 ?_
                refine s_icmpne_f (tgt := 109) X dX6_getOnAll_86 (by omega) (fun c46 => ?_) (fun c47 => ?_)
                · refine s_const X (by unfold InR; omega) dX6_getOnAll_109 ?_
                  exact s_eqt (if_neg (fun q => c46 q.1)) kM45
                · have a48 : m_2 (124 + run_2.toNat) call_2.toNat = stop_ := c47
                  refine s_load0 X 3 rfl dX6_getOnAll_89 ?_
                  refine s_getR (id := 119) X fk_X6_35 SHC_345 rfl dX6_getOnAll_90 ?_
                  refine s_getR (id := 269) X fk_X6_128 SHC_119 rfl dX6_getOnAll_93 ?_
                  refine s_iload_n X 2 rfl dX6_getOnAll_96 ?_
                  refine s_aaldI (id := (270 + run_2.toNat)) X (by omega) (Or.inl rfl) SHC_269 g34.1 g34.2 dX6_getOnAll_97 ?_
                  refine s_iload X 0 rfl dX6_getOnAll_98 ?_
                  refine s_iald X (SHC_r270 g34.1 g34.2) g44.1 g44.2 dX6_getOnAll_100 ?_
                  refine s_iload_n X 5 rfl dX6_getOnAll_101 ?_
                  refine s_icmplt_f (tgt := 109) X dX6_getOnAll_102 (by omega) (fun c49 => ?_) (fun c50 => ?_)
                  · refine s_const X (by unfold InR; omega) dX6_getOnAll_109 ?_
                    exact s_eqt (if_neg (fun q => c49 q.2)) kM45
                  · refine s_const X (by unfold InR; omega) dX6_getOnAll_105 ?_
                    refine s_goto (tgt := 110) X dX6_getOnAll_106 (by omega) ?_
                    exact s_eqt (if_pos ⟨a48, c50⟩) kM45
              · replace h := ite_pos h c43
                obtain ⟨g54, h⟩ := grd_some h
                refine s_load0 X 3 rfl dX6_getOnAll_38 ?_
                refine s_getR (id := 352) X fk_X6_44 SHC_345 rfl dX6_getOnAll_39 ?_
                refine s_load0 X 3 rfl dX6_getOnAll_42 ?_
                refine s_getR (id := 119) X fk_X6_35 SHC_345 rfl dX6_getOnAll_43 ?_
                refine s_getR (id := 123) X fk_X6_74 SHC_119 rfl dX6_getOnAll_46 ?_
                refine s_iload_n X 2 rfl dX6_getOnAll_49 ?_
                refine s_aaldI (id := (124 + run_2.toNat)) X (by omega) (Or.inl rfl) SHC_123 g34.1 g34.2 dX6_getOnAll_50 ?_
                refine s_iload X 0 rfl dX6_getOnAll_51 ?_
                refine s_iald X (SHC_r124 g34.1 g34.2) g54.1 g54.2 dX6_getOnAll_53 ?_
                refine s_load0 X 3 rfl dX6_getOnAll_54 ?_
                refine s_getR (id := 119) X fk_X6_35 SHC_345 rfl dX6_getOnAll_55 ?_
                refine s_getR (id := 196) X fk_X6_78 SHC_119 rfl dX6_getOnAll_58 ?_
                refine s_iload_n X 2 rfl dX6_getOnAll_61 ?_
                refine s_aaldI (id := (197 + run_2.toNat)) X (by omega) (Or.inl rfl) SHC_196 g34.1 g34.2 dX6_getOnAll_62 ?_
                refine s_iload X 0 rfl dX6_getOnAll_63 ?_
                refine s_iald X (SHC_r197 g34.1 g34.2) g54.1 g54.2 dX6_getOnAll_65 ?_
                obtain ⟨r_, m_3, hq55, h⟩ := bq2_some h
                refine s_callV (As := [VI (m_2 (124 + run_2.toNat) call_2.toNat), VI (m_2 (197 + run_2.toNat) call_2.toNat)]) X cw_X6_81 (shLab labS) rfl dX6_getOnAll_66 (L_C_Labels_getOff G 352 (m_2 (124 + run_2.toNat) call_2.toNat) (m_2 (197 + run_2.toNat) call_2.toNat) m_2 (r_, m_3) labS hq55) rfl ⟨Nat.le_of_ble_eq_true rfl, Nat.le_of_ble_eq_true rfl⟩ ⟨Nat.le_of_ble_eq_true rfl, Nat.le_of_ble_eq_true rfl⟩ (Nat.le_of_ble_eq_true rfl) noT (kkR ?_)
                refine s_pop X rfl dX6_getOnAll_69 ?_
                refine s_goto (tgt := 112) X dX6_getOnAll_70 (by omega) ?_
                obtain ⟨g58, h⟩ := grd_some h
                obtain ⟨call_4, e59, h⟩ := ltv_elim h
                refine s_iinc X 0 rfl g58 e59 rfl (by omega) dX6_getOnAll_112 ?_
                refine s_goto (tgt := 19) X dX6_getOnAll_115 (by omega) ?_
                exact ih27 _ _ _ (iter_next h hc26)
        exact LP28 _ _ _ _ hl33
  exact LP8 _ _ _ hl13
set_option maxRecDepth 20000 in
set_option maxHeartbeats 4000000 in
theorem L_C_Search_goOnFromNearest (G : Gl) (from_ : Int) (minute_ : Int) (m : Mem) (r : Mem)  (h : C_Search_goOnFromNearest from_ minute_ m = some r) : Con SHC G yX6_goOnFromNearest cX6_goOnFromNearest 7 none rm_X6_goOnFromNearest [VR 345, VI from_, VI minute_] m (((.inl none, r) : Res × Mem)) := by
  refine con_of (own := "Lastbus$Search") (by decide) rfl (Nat.le_of_ble_eq_true rfl) (fun C X => ?_)
  obtain ⟨O, hO⟩ : ∃ O : Res × Mem, O = (((.inl none, r) : Res × Mem)) := ⟨_, rfl⟩
  rw [← hO]
  show J SHC G rm_X6_goOnFromNearest (.inl O) C 0 0 0 [(0, VR 345), (1, VI from_), (2, VI minute_)] [] m
  unfold C_Search_goOnFromNearest at h
  refine s_load0 X 0 rfl dX6_goOnFromNearest_0 ?_
  refine s_getR (id := 352) X fk_X6_44 SHC_345 rfl dX6_goOnFromNearest_1 ?_
  refine s_iload_n X 1 rfl dX6_goOnFromNearest_4 ?_
  refine s_iload_n X 2 rfl dX6_goOnFromNearest_5 ?_
  obtain ⟨m_, hq2, h⟩ := bnd_some h
  refine s_callV (As := [VI from_, VI minute_]) X cw_X6_48 (shLab labS) rfl dX6_goOnFromNearest_6 (L_C_Labels_begin G 352 from_ minute_ m m_ labS hq2) rfl ⟨Nat.le_of_ble_eq_true rfl, Nat.le_of_ble_eq_true rfl⟩ ⟨Nat.le_of_ble_eq_true rfl, Nat.le_of_ble_eq_true rfl⟩ (Nat.le_of_ble_eq_true rfl) noT (kkU ?_)
  refine s_const X (by unfold InR; omega) dX6_goOnFromNearest_9 ?_
  obtain ⟨place_, e6, h⟩ := ltv_elim h
  refine s_istore_n X e6 rfl (by omega) dX6_goOnFromNearest_10 ?_
  obtain ⟨place_4, m_4, hl16, h⟩ := bq2_some h
  obtain ⟨fu70, hl17⟩ := loop_iter hl16
  have KX13 : ∀ q9 : Int × Mem, q9 = (place_4, m_4) → J SHC G rm_X6_goOnFromNearest (.inl O) C 0 0 30 [(3, VI q9.1), (0, VR 345), (1, VI from_), (2, VI minute_)] [] (q9.2) := by
    intro q9 e9
    subst e9
    show J SHC G rm_X6_goOnFromNearest (.inl O) C 0 0 30 [(3, VI place_4), (0, VR 345), (1, VI from_), (2, VI minute_)] [] m_4
    refine s_const X (by unfold InR; omega) dX6_goOnFromNearest_30 ?_
    obtain ⟨step_, e28, h⟩ := ltv_elim h
    refine s_istore_n X e28 rfl (by omega) dX6_goOnFromNearest_31 ?_
    obtain ⟨s36, hl38, h⟩ := br2_some h
    obtain ⟨fu290, hl39⟩ := loop_iter hl38
    have KR37 : ∀ q9 : Mem, .inr q9 = s36 → O = ((.inl none, q9) : Res × Mem) := by
      intro q9 e9
      subst e9
      replace h := brm2_inr h
      exact (by cases h; exact hO)
    have KX35 : ∀ q9 : Int × Mem, .inl q9 = s36 → J SHC G rm_X6_goOnFromNearest (.inl O) C 0 0 110 [(3, VI q9.1), (0, VR 345), (1, VI from_), (2, VI minute_)] [] (q9.2) := by
      intro q9 e9
      subst e9
      obtain ⟨step_4, m_8⟩ := q9
      replace h := brm2_inl h
      show J SHC G rm_X6_goOnFromNearest (.inl O) C 0 0 110 [(3, VI step_4), (0, VR 345), (1, VI from_), (2, VI minute_)] [] m_8
      exact s_vret X (Nat.le_of_ble_eq_true rfl) (Nat.le_of_ble_eq_true rfl) (by cases h; exact hO) dX6_goOnFromNearest_110
    have LP34 : ∀ (fu29 : Nat) (step_2 : Int) (m_5 : Mem), iter (fun s => C_Search_goOnFromNearest_b2 s.1 s.2) fu29 (step_2, m_5) = some s36 → J SHC G rm_X6_goOnFromNearest (.inl O) C 0 0 32 [(3, VI step_2), (0, VR 345), (1, VI from_), (2, VI minute_)] [] m_5 := by
      intro fu29
      induction fu29 with
      | zero => intro step_2 m_5 hn30; exact absurd hn30 (by simp [iter])
      | succ fu29 ih33 =>
        intro step_2 m_5 hn30
        obtain ⟨x31, h, hc32⟩ := iter_succ hn30
        replace h : C_Search_goOnFromNearest_b2 step_2 m_5 = some x31 := h
        unfold C_Search_goOnFromNearest_b2 at h
        refine s_iload_n X 0 rfl dX6_goOnFromNearest_32 ?_
        refine s_bipush X (by omega) dX6_goOnFromNearest_33 ?_
        refine s_icmpge_f (tgt := 110) X dX6_goOnFromNearest_35 (by omega) (fun c43 => ?_) (fun c44 => ?_)
        · replace h := ite_neg h c43
          exact KX35 _ (iter_exit h hc32)
        · replace h := ite_pos h c44
          refine s_load0 X 1 rfl dX6_goOnFromNearest_38 ?_
          obtain ⟨r_, hq46, h⟩ := bnd_some h
          refine s_callV (As := []) X cw_X6_137 SHC_345 rfl dX6_goOnFromNearest_39 (L_C_Search_nearest G m_5 r_ hq46) rfl ⟨Nat.le_of_ble_eq_true rfl, Nat.le_of_ble_eq_true rfl⟩ ⟨Nat.le_of_ble_eq_true rfl, Nat.le_of_ble_eq_true rfl⟩ (Nat.le_of_ble_eq_true rfl) noT (kkR ?_)
          obtain ⟨place_5, e49, h⟩ := ltv_elim h
          refine s_istore X e49 rfl (by omega) dX6_goOnFromNearest_42 ?_
          refine s_iload X 0 rfl dX6_goOnFromNearest_44 ?_
          refine s_const X (by unfold InR; omega) dX6_goOnFromNearest_46 ?_
          refine s_icmpne_f (tgt := 51) X dX6_goOnFromNearest_47 (by omega) (fun c53 => ?_) (fun c54 => ?_)
          · replace h := ite_neg h c53
            obtain ⟨g55, h⟩ := grd_some h
            refine s_load0 X 2 rfl dX6_goOnFromNearest_51 ?_
            refine s_getR (id := 349) X fk_X6_22 SHC_345 rfl dX6_goOnFromNearest_52 ?_
            refine s_iload X 0 rfl dX6_goOnFromNearest_55 ?_
            refine s_const X (by unfold InR; omega) dX6_goOnFromNearest_57 ?_
            obtain ⟨m_6, e56, h⟩ := ltv_elim h
            refine s_bast X e56 SHC_349 g55.1 g55.2 (Or.inr rfl) dX6_goOnFromNearest_58 ?_
            refine s_iload X 0 rfl dX6_goOnFromNearest_59 ?_
            refine s_bipush X (by omega) dX6_goOnFromNearest_61 ?_
            refine s_irem X (by omega) dX6_goOnFromNearest_63 ?_
            obtain ⟨stop_, e58, h⟩ := ltv_elim h
            refine s_istore X e58 rfl (by omega) dX6_goOnFromNearest_64 ?_
            obtain ⟨g59, h⟩ := grd_some h
            have kM60 : J SHC G rm_X6_goOnFromNearest (.inl O) C 0 0 87 [(5, VI stop_), (4, VI place_5), (3, VI step_2), (0, VR 345), (1, VI from_), (2, VI minute_)] [VI (if place_5 < 12 then 0 else m_6 2 stop_.toNat)] m_6 := by
              obtain ⟨pause_, e63, h⟩ := ltv_elim h
              refine s_istore X e63 rfl (by omega) dX6_goOnFromNearest_87 ?_
              refine s_load0 X 4 rfl dX6_goOnFromNearest_89 ?_
              refine s_iload X 1 rfl dX6_goOnFromNearest_90 ?_
              refine s_load0 X 4 rfl dX6_goOnFromNearest_92 ?_
              refine s_iload X 2 rfl dX6_goOnFromNearest_93 ?_
              obtain ⟨r_2, hq65, h⟩ := bnd_some h
              refine s_callV (As := [VI place_5]) X cw_X6_141 SHC_345 rfl dX6_goOnFromNearest_95 (L_C_Search_minuteAt G place_5 m_6 r_2 hq65) rfl ⟨Nat.le_of_ble_eq_true rfl, Nat.le_of_ble_eq_true rfl⟩ ⟨Nat.le_of_ble_eq_true rfl, Nat.le_of_ble_eq_true rfl⟩ (Nat.le_of_ble_eq_true rfl) noT (kkR ?_)
              obtain ⟨g67, h⟩ := grd_some h
              refine s_iload X 0 rfl dX6_goOnFromNearest_98 ?_
              refine s_iadd X g67 dX6_goOnFromNearest_100 ?_
              obtain ⟨m_7, hq68, h⟩ := bnd_some h
              refine s_callV (As := [VI stop_, VI (r_2 + pause_)]) X cw_X6_144 SHC_345 rfl dX6_goOnFromNearest_101 (L_C_Search_getOnAll G stop_ (r_2 + pause_) m_6 m_7 hq68) rfl ⟨Nat.le_of_ble_eq_true rfl, Nat.le_of_ble_eq_true rfl⟩ ⟨Nat.le_of_ble_eq_true rfl, Nat.le_of_ble_eq_true rfl⟩ (Nat.le_of_ble_eq_true rfl) noT (kkU ?_)
              obtain ⟨g71, h⟩ := grd_some h
              obtain ⟨step_3, e72, h⟩ := ltv_elim h
              refine s_iinc X 3 rfl g71 e72 rfl (by omega) dX6_goOnFromNearest_104 ?_
              refine s_goto (tgt := 32) X dX6_goOnFromNearest_107 (by omega) ?_
              refine s_loc [0, 4, 5, 6] rfl ?_
              exact ih33 _ _ (iter_next h hc32)
            refine s_iload X 1 rfl dX6_goOnFromNearest_66 ?_
            refine s_bipush X (by omega) dX6_goOnFromNearest_68 ?_
            refine s_icmpge_f (tgt := 77) X dX6_goOnFromNearest_70 (by omega) (fun c61 => ?_) (fun c62 => ?_)
            · refine s_load0 X 3 rfl dX6_goOnFromNearest_77 ?_
              refine s_getR (id := 1) X fk_X6_31 SHC_345 rfl dX6_goOnFromNearest_78 ?_
              refine s_getR (id := 2) X fk_X6_134 SHC_1 rfl dX6_goOnFromNearest_81 ?_
              refine s_iload X 0 rfl dX6_goOnFromNearest_84 ?_
              refine s_iald X SHC_2 (g59.1 c61) (g59.2 c61) dX6_goOnFromNearest_86 ?_
              exact s_eqt (if_neg c61) kM60
            · refine s_const X (by unfold InR; omega) dX6_goOnFromNearest_73 ?_
              refine s_goto (tgt := 87) X dX6_goOnFromNearest_74 (by omega) ?_
              exact s_eqt (if_pos c62) kM60
          · replace h := ite_pos h c54
            exact s_vret X (Nat.le_of_ble_eq_true rfl) (Nat.le_of_ble_eq_true rfl) (KR37 _ (iter_exit h hc32)) dX6_goOnFromNearest_50
    exact LP34 _ _ _ hl39
  have LP12 : ∀ (fu7 : Nat) (place_2 : Int) (m_2 : Mem), iter (fun s => C_Search_goOnFromNearest_b1 s.1 s.2) fu7 (place_2, m_2) = some (place_4, m_4) → J SHC G rm_X6_goOnFromNearest (.inl O) C 0 0 11 [(3, VI place_2), (0, VR 345), (1, VI from_), (2, VI minute_)] [] m_2 := by
    intro fu7
    induction fu7 with
    | zero => intro place_2 m_2 hn8; exact absurd hn8 (by simp [iter])
    | succ fu7 ih11 =>
      intro place_2 m_2 hn8
      obtain ⟨x9, h, hc10⟩ := iter_succ hn8
      replace h : C_Search_goOnFromNearest_b1 place_2 m_2 = some x9 := h
      unfold C_Search_goOnFromNearest_b1 at h
      refine s_iload_n X 0 rfl dX6_goOnFromNearest_11 ?_
      refine s_bipush X (by omega) dX6_goOnFromNearest_12 ?_
      refine s_icmpge_f (tgt := 30) X dX6_goOnFromNearest_14 (by omega) (fun c21 => ?_) (fun c22 => ?_)
      · replace h := ite_neg h c21
        exact KX13 _ (iter_exit h hc10)
      · replace h := ite_pos h c22
        obtain ⟨g23, h⟩ := grd_some h
        refine s_load0 X 1 rfl dX6_goOnFromNearest_17 ?_
        refine s_getR (id := 349) X fk_X6_22 SHC_345 rfl dX6_goOnFromNearest_18 ?_
        refine s_iload_n X 0 rfl dX6_goOnFromNearest_21 ?_
        refine s_const X (by unfold InR; omega) dX6_goOnFromNearest_22 ?_
        obtain ⟨m_3, e24, h⟩ := ltv_elim h
        refine s_bast X e24 SHC_349 g23.1 g23.2 (Or.inl rfl) dX6_goOnFromNearest_23 ?_
        obtain ⟨g25, h⟩ := grd_some h
        obtain ⟨place_3, e26, h⟩ := ltv_elim h
        refine s_iinc X 0 rfl g25 e26 rfl (by omega) dX6_goOnFromNearest_24 ?_
        refine s_goto (tgt := 11) X dX6_goOnFromNearest_27 (by omega) ?_
        exact ih11 _ _ (iter_next h hc10)
  exact LP12 _ _ _ hl17
set_option maxRecDepth 20000 in
set_option maxHeartbeats 4000000 in
theorem L_C_earliestByQueue (G : Gl) (from_ : Int) (to_ : Int) (day_ : Int) (minute_ : Int) (m : Mem) (r : ((Int ⊕ Nat) × Mem))  (h : C_earliestByQueue from_ to_ day_ minute_ m = some r) : Con SHC G yX11_earliestByQueue cX11_earliestByQueue 5 (some .int) rm_X11_earliestByQueue [VR 0, VI from_, VI to_, VI day_, VI minute_] m (oT wI r) := by
  refine con_of (own := "Lastbus") (by decide) rfl (Nat.le_of_ble_eq_true rfl) (fun C X => ?_)
  obtain ⟨O, hO⟩ : ∃ O : Res × Mem, O = (oT wI r) := ⟨_, rfl⟩
  rw [← hO]
  show J SHC G rm_X11_earliestByQueue (.inl O) C 0 0 0 [(0, VR 0), (1, VI from_), (2, VI to_), (3, VI day_), (4, VI minute_)] [] m
  unfold C_earliestByQueue at h
  refine s_load0 X 0 rfl dX11_earliestByQueue_0 ?_
  refine s_iload_n X 1 rfl dX11_earliestByQueue_1 ?_
  refine s_iload_n X 2 rfl dX11_earliestByQueue_2 ?_
  refine s_iload_n X 3 rfl dX11_earliestByQueue_3 ?_
  refine s_iload X 4 rfl dX11_earliestByQueue_4 ?_
  obtain ⟨q3, hq2, h⟩ := bnd_some h
  refine s_callV (As := [VI from_, VI to_, VI day_, VI minute_]) X cw_X11_277 SHC_0 rfl dX11_earliestByQueue_6 (L_C_needWay G from_ to_ day_ minute_ m q3 hq2) rfl ⟨Nat.le_of_ble_eq_true rfl, Nat.le_of_ble_eq_true rfl⟩ ⟨Nat.le_of_ble_eq_true rfl, Nat.le_of_ble_eq_true rfl⟩ (Nat.le_of_ble_eq_true rfl) (thr_up hO h) (kkT fun u_ m_ e9 => ?_)
  subst e9
  replace h := tbd_inl h
  refine s_load0 X 0 rfl dX11_earliestByQueue_9 ?_
  refine s_getR (id := 119) X fk_X11_49 SHC_0 rfl dX11_earliestByQueue_10 ?_
  refine s_iload_n X 3 rfl dX11_earliestByQueue_13 ?_
  refine s_const X (by unfold InR; omega) dX11_earliestByQueue_14 ?_
  refine s_const X (by unfold InR; omega) dX11_earliestByQueue_15 ?_
  obtain ⟨m_2, hq6, h⟩ := bnd_some h
  refine s_callV (As := [VI day_, VI (-1), VI 0]) X cw_X11_280 SHC_119 rfl dX11_earliestByQueue_16 (L_C_Net_lay G day_ (-1) 0 m_ m_2 hq6) rfl ⟨Nat.le_of_ble_eq_true rfl, Nat.le_of_ble_eq_true rfl⟩ ⟨Nat.le_of_ble_eq_true rfl, Nat.le_of_ble_eq_true rfl⟩ (Nat.le_of_ble_eq_true rfl) noT (kkU ?_)
  refine s_load0 X 0 rfl dX11_earliestByQueue_19 ?_
  refine s_getR (id := 345) X fk_X11_58 SHC_0 rfl dX11_earliestByQueue_20 ?_
  refine s_iload_n X 1 rfl dX11_earliestByQueue_23 ?_
  refine s_iload X 4 rfl dX11_earliestByQueue_24 ?_
  obtain ⟨m_3, hq10, h⟩ := bnd_some h
  refine s_callV (As := [VI from_, VI minute_]) X cw_X11_294 SHC_345 rfl dX11_earliestByQueue_26 (L_C_Search_goOnFromNearest G from_ minute_ m_2 m_3 hq10) rfl ⟨Nat.le_of_ble_eq_true rfl, Nat.le_of_ble_eq_true rfl⟩ ⟨Nat.le_of_ble_eq_true rfl, Nat.le_of_ble_eq_true rfl⟩ (Nat.le_of_ble_eq_true rfl) noT (kkU ?_)
  refine s_load0 X 0 rfl dX11_earliestByQueue_29 ?_
  refine s_getR (id := 345) X fk_X11_58 SHC_0 rfl dX11_earliestByQueue_30 ?_
  refine s_getR (id := 352) X fk_X11_286 SHC_345 rfl dX11_earliestByQueue_33 ?_
  refine s_iload_n X 2 rfl dX11_earliestByQueue_36 ?_
  obtain ⟨r_, hq14, h⟩ := bnd_some h
  refine s_callV (As := [VI to_]) X cw_X11_290 (shLab labS) rfl dX11_earliestByQueue_37 (L_C_Labels_at G 352 to_ m_3 r_ labS hq14) rfl ⟨Nat.le_of_ble_eq_true rfl, Nat.le_of_ble_eq_true rfl⟩ ⟨Nat.le_of_ble_eq_true rfl, Nat.le_of_ble_eq_true rfl⟩ (Nat.le_of_ble_eq_true rfl) noT (kkR ?_)
  obtain ⟨q18, hq17, h⟩ := bnd_some h
  refine s_callS (As := [VI r_]) X cw_X11_128 dX11_earliestByQueue_40 (L_C_needFound G r_ m_3 q18 hq17) rfl ⟨Nat.le_of_ble_eq_true rfl, Nat.le_of_ble_eq_true rfl⟩ ⟨Nat.le_of_ble_eq_true rfl, Nat.le_of_ble_eq_true rfl⟩ (Nat.le_of_ble_eq_true rfl) (thr_up hO h) (kkT fun u_2 m_4 e9 => ?_)
  subst e9
  replace h := tbd_inl h
  refine s_load0 X 0 rfl dX11_earliestByQueue_43 ?_
  refine s_getR (id := 345) X fk_X11_58 SHC_0 rfl dX11_earliestByQueue_44 ?_
  refine s_getR (id := 352) X fk_X11_286 SHC_345 rfl dX11_earliestByQueue_47 ?_
  refine s_iload_n X 2 rfl dX11_earliestByQueue_50 ?_
  obtain ⟨r_2, hq21, h⟩ := bnd_some h
  refine s_callV (As := [VI to_]) X cw_X11_290 (shLab labS) rfl dX11_earliestByQueue_51 (L_C_Labels_at G 352 to_ m_4 r_2 labS hq21) rfl ⟨Nat.le_of_ble_eq_true rfl, Nat.le_of_ble_eq_true rfl⟩ ⟨Nat.le_of_ble_eq_true rfl, Nat.le_of_ble_eq_true rfl⟩ (Nat.le_of_ble_eq_true rfl) noT (kkR ?_)
  exact s_iret X (Nat.le_of_ble_eq_true rfl) (Nat.le_of_ble_eq_true rfl) (by cases h; exact hO) dX11_earliestByQueue_54
set_option maxRecDepth 20000 in
set_option maxHeartbeats 4000000 in
theorem L_C_Labels_copy (G : Gl) (x : Nat) (other_ : Nat) (m : Mem) (r : Mem) (hx : isLab x) (hother_ : isLab other_) (h : C_Labels_copy x other_ m = some r) : Con SHC G yX2_copy cX2_copy 3 none rm_X2_copy [VR x, VR other_] m (((.inl none, r) : Res × Mem)) := by
  refine con_of (own := "Lastbus$Labels") (by decide) rfl (Nat.le_of_ble_eq_true rfl) (fun C X => ?_)
  obtain ⟨O, hO⟩ : ∃ O : Res × Mem, O = (((.inl none, r) : Res × Mem)) := ⟨_, rfl⟩
  rw [← hO]
  show J SHC G rm_X2_copy (.inl O) C 0 0 0 [(0, VR x), (1, VR other_)] [] m
  unfold C_Labels_copy at h
  refine s_const X (by unfold InR; omega) dX2_copy_0 ?_
  obtain ⟨stop_, e2, h⟩ := ltv_elim h
  refine s_istore_n X e2 rfl (by omega) dX2_copy_1 ?_
  obtain ⟨stop_4, m_4, hl12, h⟩ := bq2_some h
  obtain ⟨fu30, hl13⟩ := loop_iter hl12
  have KX9 : ∀ q9 : Int × Mem, q9 = (stop_4, m_4) → J SHC G rm_X2_copy (.inl O) C 0 0 43 [(2, VI q9.1), (0, VR x), (1, VR other_)] [] (q9.2) := by
    intro q9 e9
    subst e9
    show J SHC G rm_X2_copy (.inl O) C 0 0 43 [(2, VI stop_4), (0, VR x), (1, VR other_)] [] m_4
    exact s_vret X (Nat.le_of_ble_eq_true rfl) (Nat.le_of_ble_eq_true rfl) (by cases h; exact hO) dX2_copy_43
  have LP8 : ∀ (fu3 : Nat) (stop_2 : Int) (m_ : Mem), iter (fun s => C_Labels_copy_b1 x other_ s.1 s.2) fu3 (stop_2, m_) = some (stop_4, m_4) → J SHC G rm_X2_copy (.inl O) C 0 0 2 [(2, VI stop_2), (0, VR x), (1, VR other_)] [] m_ := by
    intro fu3
    induction fu3 with
    | zero => intro stop_2 m_ hn4; exact absurd hn4 (by simp [iter])
    | succ fu3 ih7 =>
      intro stop_2 m_ hn4
      obtain ⟨x5, h, hc6⟩ := iter_succ hn4
      replace h : C_Labels_copy_b1 x other_ stop_2 m_ = some x5 := h
      unfold C_Labels_copy_b1 at h
      refine s_iload_n X 0 rfl dX2_copy_2 ?_
      refine s_load0 X 1 rfl dX2_copy_3 ?_
      refine s_getR (id := 1) X fk_X2_18 (shLab hx) rfl dX2_copy_4 ?_
      refine s_getI X fk_X2_22 SHC_1 rfl dX2_copy_7 ?_
      refine s_icmpge_f (tgt := 43) X dX2_copy_10 (by omega) (fun c17 => ?_) (fun c18 => ?_)
      · replace h := ite_neg h c17
        exact KX9 _ (iter_exit h hc6)
      · replace h := ite_pos h c18
        obtain ⟨g19, h⟩ := grd_some h
        refine s_load0 X 1 rfl dX2_copy_13 ?_
        refine s_getR (id := (x + 1)) X fk_X2_9 (shLab hx) rfl dX2_copy_14 ?_
        refine s_iload_n X 0 rfl dX2_copy_17 ?_
        refine s_load0 X 2 rfl dX2_copy_18 ?_
        refine s_getR (id := (other_ + 1)) X fk_X2_9 (shLab hother_) rfl dX2_copy_19 ?_
        refine s_iload_n X 0 rfl dX2_copy_22 ?_
        refine s_iald X (shLab1 hother_) g19.1 g19.2 dX2_copy_23 ?_
        obtain ⟨m_2, e20, h⟩ := ltv_elim h
        refine s_iast X e20 (shLab1 hx) g19.1 g19.2 dX2_copy_24 ?_
        refine s_load0 X 1 rfl dX2_copy_25 ?_
        refine s_getR (id := (x + 2)) X fk_X2_15 (shLab hx) rfl dX2_copy_26 ?_
        refine s_iload_n X 0 rfl dX2_copy_29 ?_
        refine s_load0 X 2 rfl dX2_copy_30 ?_
        refine s_getR (id := (other_ + 2)) X fk_X2_15 (shLab hother_) rfl dX2_copy_31 ?_
        refine s_iload_n X 0 rfl dX2_copy_34 ?_
        refine s_iald X (shLab2 hother_) g19.1 g19.2 dX2_copy_35 ?_
        obtain ⟨m_3, e22, h⟩ := ltv_elim h
        refine s_iast X e22 (shLab2 hx) g19.1 g19.2 dX2_copy_36 ?_
        obtain ⟨g23, h⟩ := grd_some h
        obtain ⟨stop_3, e24, h⟩ := ltv_elim h
        refine s_iinc X 0 rfl g23 e24 rfl (by omega) dX2_copy_37 ?_
        refine s_goto (tgt := 2) X dX2_copy_40 (by omega) ?_
        exact ih7 _ _ (iter_next h hc6)
  exact LP8 _ _ _ hl13
set_option maxRecDepth 20000 in
set_option maxHeartbeats 4000000 in
theorem L_C_Rounds_rideOnce (G : Gl) (ahead_ : Nat) (then_ : Nat) (m : Mem) (r : (Int × Mem)) (hahead_ : isLab ahead_) (hthen_ : isLab then_) (h : C_Rounds_rideOnce ahead_ then_ m = some r) : Con SHC G yX4_rideOnce cX4_rideOnce 7 (some .boolean) rm_X4_rideOnce [VR 355, VR ahead_, VR then_] m (((.inl (some (VI r.1)), r.2) : Res × Mem)) := by
  refine con_of (own := "Lastbus$Rounds") (by decide) rfl (Nat.le_of_ble_eq_true rfl) (fun C X => ?_)
  obtain ⟨O, hO⟩ : ∃ O : Res × Mem, O = (((.inl (some (VI r.1)), r.2) : Res × Mem)) := ⟨_, rfl⟩
  rw [← hO]
  show J SHC G rm_X4_rideOnce (.inl O) C 0 0 0 [(0, VR 355), (1, VR ahead_), (2, VR then_)] [] m
  unfold C_Rounds_rideOnce at h
  refine s_const X (by unfold InR; omega) dX4_rideOnce_0 ?_
  obtain ⟨isBetter_, e2, h⟩ := ltv_elim h
  refine s_istore_n X e2 rfl (by omega) dX4_rideOnce_1 ?_
  refine s_const X (by unfold InR; omega) dX4_rideOnce_2 ?_
  obtain ⟨run_, e4, h⟩ := ltv_elim h
  refine s_istore X e4 rfl (by omega) dX4_rideOnce_3 ?_
  obtain ⟨isBetter_7, run_4, m_6, hl14, h⟩ := bq3_some h
  obtain ⟨fu50, hl15⟩ := loop_iter hl14
  have KX11 : ∀ q9 : Int × Int × Mem, q9 = (isBetter_7, run_4, m_6) → J SHC G rm_X4_rideOnce (.inl O) C 0 0 135 [(4, VI q9.2.1), (3, VI q9.1), (0, VR 355), (1, VR ahead_), (2, VR then_)] [] (q9.2.2) := by
    intro q9 e9
    subst e9
    show J SHC G rm_X4_rideOnce (.inl O) C 0 0 135 [(4, VI run_4), (3, VI isBetter_7), (0, VR 355), (1, VR ahead_), (2, VR then_)] [] m_6
    obtain ⟨g78, h⟩ := grd_some h
    refine s_iload_n X 1 rfl dX4_rideOnce_135 ?_
    exact s_zret X g78 (Nat.le_of_ble_eq_true rfl) (Nat.le_of_ble_eq_true rfl) (by cases h; exact hO) dX4_rideOnce_136
  have LP10 : ∀ (fu5 : Nat) (isBetter_2 : Int) (run_2 : Int) (m_ : Mem), iter (fun s => C_Rounds_rideOnce_b1 ahead_ then_ s.1 s.2.1 s.2.2) fu5 (isBetter_2, run_2, m_) = some (isBetter_7, run_4, m_6) → J SHC G rm_X4_rideOnce (.inl O) C 0 0 5 [(4, VI run_2), (3, VI isBetter_2), (0, VR 355), (1, VR ahead_), (2, VR then_)] [] m_ := by
    intro fu5
    induction fu5 with
    | zero => intro isBetter_2 run_2 m_ hn6; exact absurd hn6 (by simp [iter])
    | succ fu5 ih9 =>
      intro isBetter_2 run_2 m_ hn6
      obtain ⟨x7, h, hc8⟩ := iter_succ hn6
      replace h : C_Rounds_rideOnce_b1 ahead_ then_ isBetter_2 run_2 m_ = some x7 := h
      unfold C_Rounds_rideOnce_b1 at h
      refine s_iload X 0 rfl dX4_rideOnce_5 ?_
      refine s_load0 X 2 rfl dX4_rideOnce_7 ?_
      refine s_getR (id := 119) X fk_X4_34 SHC_355 rfl dX4_rideOnce_8 ?_
      refine s_getI X fk_X4_57 SHC_119 rfl dX4_rideOnce_11 ?_
      refine s_icmpge_f (tgt := 135) X dX4_rideOnce_14 (by omega) (fun c19 => ?_) (fun c20 => ?_)
      · replace h := ite_neg h c19
        exact KX11 _ (iter_exit h hc8)
      · replace h := ite_pos h c20
        refine s_const X (by unfold InR; omega) dX4_rideOnce_17 ?_
        obtain ⟨isOn_, e22, h⟩ := ltv_elim h
        refine s_istore X e22 rfl (by omega) dX4_rideOnce_18 ?_
        refine s_const X (by unfold InR; omega) dX4_rideOnce_20 ?_
        obtain ⟨call_, e24, h⟩ := ltv_elim h
        refine s_istore X e24 rfl (by omega) dX4_rideOnce_21 ?_
        obtain ⟨isBetter_6, isOn_4, call_4, m_5, hl34, h⟩ := bq4_some h
        obtain ⟨fu250, hl35⟩ := loop_iter hl34
        have KX31 : ∀ q9 : Int × Int × Int × Mem, q9 = (isBetter_6, isOn_4, call_4, m_5) → J SHC G rm_X4_rideOnce (.inl O) C 0 0 129 [(6, VI q9.2.2.1), (5, VI q9.2.1), (4, VI run_2), (3, VI q9.1), (0, VR 355), (1, VR ahead_), (2, VR then_)] [] (q9.2.2.2) := by
          intro q9 e9
          subst e9
          show J SHC G rm_X4_rideOnce (.inl O) C 0 0 129 [(6, VI call_4), (5, VI isOn_4), (4, VI run_2), (3, VI isBetter_6), (0, VR 355), (1, VR ahead_), (2, VR then_)] [] m_5
          obtain ⟨g76, h⟩ := grd_some h
          obtain ⟨run_3, e77, h⟩ := ltv_elim h
          refine s_iinc X 2 rfl g76 e77 rfl (by omega) dX4_rideOnce_129 ?_
          refine s_goto (tgt := 5) X dX4_rideOnce_132 (by omega) ?_
          refine s_loc [0, 3, 4, 5, 6] rfl ?_
          exact ih9 _ _ _ (iter_next h hc8)
        have LP30 : ∀ (fu25 : Nat) (isBetter_3 : Int) (isOn_2 : Int) (call_2 : Int) (m_2 : Mem), iter (fun s => C_Rounds_rideOnce_b2 ahead_ then_ run_2 s.1 s.2.1 s.2.2.1 s.2.2.2) fu25 (isBetter_3, isOn_2, call_2, m_2) = some (isBetter_6, isOn_4, call_4, m_5) → J SHC G rm_X4_rideOnce (.inl O) C 0 0 23 [(6, VI call_2), (5, VI isOn_2), (4, VI run_2), (3, VI isBetter_3), (0, VR 355), (1, VR ahead_), (2, VR then_)] [] m_2 := by
          intro fu25
          induction fu25 with
          | zero => intro isBetter_3 isOn_2 call_2 m_2 hn26; exact absurd hn26 (by simp [iter])
          | succ fu25 ih29 =>
            intro isBetter_3 isOn_2 call_2 m_2 hn26
            obtain ⟨x27, h, hc28⟩ := iter_succ hn26
            replace h : C_Rounds_rideOnce_b2 ahead_ then_ run_2 isBetter_3 isOn_2 call_2 m_2 = some x27 := h
            unfold C_Rounds_rideOnce_b2 at h
            obtain ⟨g36, h⟩ := grd_some h
            refine s_iload X 0 rfl dX4_rideOnce_23 ?_
            refine s_load0 X 4 rfl dX4_rideOnce_25 ?_
            refine s_getR (id := 119) X fk_X4_34 SHC_355 rfl dX4_rideOnce_26 ?_
            refine s_getR (id := 122) X fk_X4_62 SHC_119 rfl dX4_rideOnce_29 ?_
            refine s_iload X 2 rfl dX4_rideOnce_32 ?_
            refine s_iald X SHC_122 g36.1 g36.2 dX4_rideOnce_34 ?_
            refine s_icmpge_f (tgt := 129) X dX4_rideOnce_35 (by omega) (fun c39 => ?_) (fun c40 => ?_)
            · replace h := ite_neg h c39
              exact KX31 _ (iter_exit h hc28)
            · replace h := ite_pos h c40
              obtain ⟨kj_, hk41, h⟩ := ltv_elim h
              have K42 : ∀ (isBetter_4 : Int) (m_3 : Mem), kj_ isBetter_4 m_3 = some x27 → J SHC G rm_X4_rideOnce (.inl O) C 0 0 78 [(6, VI call_2), (5, VI isOn_2), (4, VI run_2), (3, VI isBetter_4), (0, VR 355), (1, VR ahead_), (2, VR then_)] [] m_3 := by
                intro isBetter_4 m_3 h
                subst hk41
                dsimp only at h
                obtain ⟨kj_2, hk57, h⟩ := ltv_elim h
                have K58 : ∀ (v_ : Int), kj_2 v_ = some x27 → J SHC G rm_X4_rideOnce (.inl O) C 0 0 121 [(6, VI call_2), (5, VI isOn_2), (4, VI run_2), (3, VI isBetter_4), (0, VR 355), (1, VR ahead_), (2, VR then_)] [VI v_] m_3 := by
                  intro v_ h
                  subst hk57
                  dsimp only at h
                  obtain ⟨isOn_3, e73, h⟩ := ltv_elim h
                  refine s_istore X e73 rfl (by omega) dX4_rideOnce_121 ?_
                  obtain ⟨g74, h⟩ := grd_some h
                  obtain ⟨call_3, e75, h⟩ := ltv_elim h
                  refine s_iinc X 1 rfl g74 e75 rfl (by omega) dX4_rideOnce_123 ?_
                  refine s_goto (tgt := 23) X dX4_rideOnce_126 (by omega) ?_
                  exact ih29 _ _ _ _ (iter_next h hc28)
                refine s_iload X 1 rfl dX4_rideOnce_78 ?_
                refine s_ifne_t (tgt := 116) X dX4_rideOnce_80 (by omega) (fun c61 => ?_) (fun c62 => ?_)
                · replace h := ite_pos h c61
                  refine s_const X (by unfold InR; omega) dX4_rideOnce_116 ?_
                  refine s_goto (tgt := 121) X dX4_rideOnce_117 (by omega) ?_
                  exact s_kn rfl rfl (K58 _ h)
                · replace h := ite_neg h c62
                  obtain ⟨g64, h⟩ := grd_some h
                  refine s_load0 X 5 rfl dX4_rideOnce_83 ?_
                  refine s_load0 X 4 rfl dX4_rideOnce_84 ?_
                  refine s_getR (id := 119) X fk_X4_34 SHC_355 rfl dX4_rideOnce_85 ?_
                  refine s_getR (id := 123) X fk_X4_65 SHC_119 rfl dX4_rideOnce_88 ?_
                  refine s_iload X 2 rfl dX4_rideOnce_91 ?_
                  refine s_aaldI (id := (124 + run_2.toNat)) X (by omega) (Or.inl rfl) SHC_123 g64.1 g64.2.1 dX4_rideOnce_93 ?_
                  refine s_iload X 0 rfl dX4_rideOnce_94 ?_
                  refine s_iald X (SHC_r124 g64.1 g64.2.1) g64.2.2.1 g64.2.2.2 dX4_rideOnce_96 ?_
                  refine s_load0 X 4 rfl dX4_rideOnce_97 ?_
                  refine s_getR (id := 119) X fk_X4_34 SHC_355 rfl dX4_rideOnce_98 ?_
                  refine s_getR (id := 269) X fk_X4_76 SHC_119 rfl dX4_rideOnce_101 ?_
                  refine s_iload X 2 rfl dX4_rideOnce_104 ?_
                  refine s_aaldI (id := (270 + run_2.toNat)) X (by omega) (Or.inl rfl) SHC_269 g64.1 g64.2.1 dX4_rideOnce_106 ?_
                  refine s_iload X 0 rfl dX4_rideOnce_107 ?_
                  refine s_iald X (SHC_r270 g64.1 g64.2.1) g64.2.2.1 g64.2.2.2 dX4_rideOnce_109 ?_
                  obtain ⟨r_2, hq65, h⟩ := bnd_some h
                  refine s_callV (As := [VI (m_3 (124 + run_2.toNat) call_2.toNat), VI (m_3 (270 + run_2.toNat) call_2.toNat)]) X cw_X4_79 (shLab hahead_) rfl dX4_rideOnce_110 (L_C_Labels_canGetOn G ahead_ (m_3 (124 + run_2.toNat) call_2.toNat) (m_3 (270 + run_2.toNat) call_2.toNat) m_3 r_2 hahead_ hq65) rfl ⟨Nat.le_of_ble_eq_true rfl, Nat.le_of_ble_eq_true rfl⟩ ⟨Nat.le_of_ble_eq_true rfl, Nat.le_of_ble_eq_true rfl⟩ (Nat.le_of_ble_eq_true rfl) noT (kkR ?_)
                  refine s_ifeq_f (tgt := 120) X dX4_rideOnce_113 (by omega) (fun c68 => ?_) (fun c69 => ?_)
                  · replace h := ite_neg h c68
                    refine s_const X (by unfold InR; omega) dX4_rideOnce_120 ?_
                    exact s_kn rfl rfl (K58 _ h)
                  · replace h := ite_pos h c69
                    refine s_const X (by unfold InR; omega) dX4_rideOnce_116 ?_
                    refine s_goto (tgt := 121) X dX4_rideOnce_117 (by omega) ?_
                    exact s_kn rfl rfl (K58 _ h)
              refine s_iload X 1 rfl dX4_rideOnce_38 ?_
              refine s_ifeq_f (tgt := 78) X dX4_rideOnce_40 (by omega) (fun c46 => ?_) (fun c47 => ?_)
              · replace h := ite_neg h c46
                exact s_kn rfl rfl (K42 _ _ h)
              · replace h := ite_pos h c47
                obtain ⟨g48, h⟩ := grd_some h
                refine s_load0 X 6 rfl dX4_rideOnce_43 ?_
                refine s_load0 X 4 rfl dX4_rideOnce_44 ?_
                refine s_getR (id := 119) X fk_X4_34 SHC_355 rfl dX4_rideOnce_45 ?_
                refine s_getR (id := 123) X fk_X4_65 SHC_119 rfl dX4_rideOnce_48 ?_
                refine s_iload X 2 rfl dX4_rideOnce_51 ?_
                refine s_aaldI (id := (124 + run_2.toNat)) X (by omega) (Or.inl rfl) SHC_123 g36.1 g36.2 dX4_rideOnce_53 ?_
                refine s_iload X 0 rfl dX4_rideOnce_54 ?_
                refine s_iald X (SHC_r124 g36.1 g36.2) g48.1 g48.2 dX4_rideOnce_56 ?_
                refine s_load0 X 4 rfl dX4_rideOnce_57 ?_
                refine s_getR (id := 119) X fk_X4_34 SHC_355 rfl dX4_rideOnce_58 ?_
                refine s_getR (id := 196) X fk_X4_69 SHC_119 rfl dX4_rideOnce_61 ?_
                refine s_iload X 2 rfl dX4_rideOnce_64 ?_
                refine s_aaldI (id := (197 + run_2.toNat)) X (by omega) (Or.inl rfl) SHC_196 g36.1 g36.2 dX4_rideOnce_66 ?_
                refine s_iload X 0 rfl dX4_rideOnce_67 ?_
                refine s_iald X (SHC_r197 g36.1 g36.2) g48.1 g48.2 dX4_rideOnce_69 ?_
                obtain ⟨r_, m_4, hq49, h⟩ := bq2_some h
                refine s_callV (As := [VI (m_2 (124 + run_2.toNat) call_2.toNat), VI (m_2 (197 + run_2.toNat) call_2.toNat)]) X cw_X4_72 (shLab hthen_) rfl dX4_rideOnce_70 (L_C_Labels_getOff G then_ (m_2 (124 + run_2.toNat) call_2.toNat) (m_2 (197 + run_2.toNat) call_2.toNat) m_2 (r_, m_4) hthen_ hq49) rfl ⟨Nat.le_of_ble_eq_true rfl, Nat.le_of_ble_eq_true rfl⟩ ⟨Nat.le_of_ble_eq_true rfl, Nat.le_of_ble_eq_true rfl⟩ (Nat.le_of_ble_eq_true rfl) noT (kkR ?_)
                refine s_ifeq_f (tgt := 78) X dX4_rideOnce_73 (by omega) (fun c52 => ?_) (fun c53 => ?_)
                · replace h := ite_neg h c52
                  exact s_kn rfl rfl (K42 _ _ h)
                · replace h := ite_pos h c53
                  refine s_const X (by unfold InR; omega) dX4_rideOnce_76 ?_
                  obtain ⟨isBetter_5, e55, h⟩ := ltv_elim h
                  refine s_istore_n X e55 rfl (by omega) dX4_rideOnce_77 ?_
                  refine s_loc [1, 2, 3, 0, 4, 5, 6] rfl ?_
                  exact s_kn rfl rfl (K42 _ _ h)
        exact LP30 _ _ _ _ _ hl35
  exact LP10 _ _ _ _ hl15
set_option maxRecDepth 20000 in
set_option maxHeartbeats 4000000 in
theorem L_C_Rounds_fill (G : Gl) (from_ : Int) (minute_ : Int) (m : Mem) (r : Mem)  (h : C_Rounds_fill from_ minute_ m = some r) : Con SHC G yX4_fill cX4_fill 4 none rm_X4_fill [VR 355, VI from_, VI minute_] m (((.inl none, r) : Res × Mem)) := by
  refine con_of (own := "Lastbus$Rounds") (by decide) rfl (Nat.le_of_ble_eq_true rfl) (fun C X => ?_)
  obtain ⟨O, hO⟩ : ∃ O : Res × Mem, O = (((.inl none, r) : Res × Mem)) := ⟨_, rfl⟩
  rw [← hO]
  show J SHC G rm_X4_fill (.inl O) C 0 0 0 [(0, VR 355), (1, VI from_), (2, VI minute_)] [] m
  unfold C_Rounds_fill at h
  refine s_load0 X 0 rfl dX4_fill_0 ?_
  refine s_getR (id := 356) X fk_X4_11 SHC_355 rfl dX4_fill_1 ?_
  refine s_const X (by unfold InR; omega) dX4_fill_4 ?_
  refine s_aaldI (id := (361 + 3 * 0)) X (by omega) (Or.inr rfl) SHC_356 (by omega) (by omega) dX4_fill_5 ?_
  refine s_iload_n X 1 rfl dX4_fill_6 ?_
  refine s_iload_n X 2 rfl dX4_fill_7 ?_
  obtain ⟨m_, hq2, h⟩ := bnd_some h
  refine s_callV (As := [VI from_, VI minute_]) X cw_X4_41 (shLab (⟨0, by omega, rfl⟩ : isLab (361 + 3 * 0))) rfl dX4_fill_8 (L_C_Labels_begin G (361 + 3 * 0) from_ minute_ m m_ (⟨0, by omega, rfl⟩ : isLab (361 + 3 * 0)) hq2) rfl ⟨Nat.le_of_ble_eq_true rfl, Nat.le_of_ble_eq_true rfl⟩ ⟨Nat.le_of_ble_eq_true rfl, Nat.le_of_ble_eq_true rfl⟩ (Nat.le_of_ble_eq_true rfl) noT (kkU ?_)
  refine s_load0 X 0 rfl dX4_fill_11 ?_
  refine s_const X (by unfold InR; omega) dX4_fill_12 ?_
  obtain ⟨m_2, e6, h⟩ := ltv_elim h
  refine s_putI X e6 fp_X4_45 SHC_355 rfl trivial dX4_fill_13 ?_
  refine s_const X (by unfold InR; omega) dX4_fill_16 ?_
  obtain ⟨round_, e8, h⟩ := ltv_elim h
  refine s_istore_n X e8 rfl (by omega) dX4_fill_17 ?_
  obtain ⟨s16, hl18, h⟩ := br2_some h
  obtain ⟨fu90, hl19⟩ := loop_iter hl18
  have KR17 : ∀ q9 : Mem, .inr q9 = s16 → O = ((.inl none, q9) : Res × Mem) := by
    intro q9 e9
    subst e9
    replace h := brm2_inr h
    exact (by cases h; exact hO)
  have KX15 : ∀ q9 : Int × Mem, .inl q9 = s16 → J SHC G rm_X4_fill (.inl O) C 0 0 74 [(3, VI q9.1), (0, VR 355), (1, VI from_), (2, VI minute_)] [] (q9.2) := by
    intro q9 e9
    subst e9
    obtain ⟨round_4, m_7⟩ := q9
    replace h := brm2_inl h
    show J SHC G rm_X4_fill (.inl O) C 0 0 74 [(3, VI round_4), (0, VR 355), (1, VI from_), (2, VI minute_)] [] m_7
    exact s_vret X (Nat.le_of_ble_eq_true rfl) (Nat.le_of_ble_eq_true rfl) (by cases h; exact hO) dX4_fill_74
  have LP14 : ∀ (fu9 : Nat) (round_2 : Int) (m_3 : Mem), iter (fun s => C_Rounds_fill_b1 s.1 s.2) fu9 (round_2, m_3) = some s16 → J SHC G rm_X4_fill (.inl O) C 0 0 18 [(3, VI round_2), (0, VR 355), (1, VI from_), (2, VI minute_)] [] m_3 := by
    intro fu9
    induction fu9 with
    | zero => intro round_2 m_3 hn10; exact absurd hn10 (by simp [iter])
    | succ fu9 ih13 =>
      intro round_2 m_3 hn10
      obtain ⟨x11, h, hc12⟩ := iter_succ hn10
      replace h : C_Rounds_fill_b1 round_2 m_3 = some x11 := h
      unfold C_Rounds_fill_b1 at h
      refine s_iload_n X 0 rfl dX4_fill_18 ?_
      refine s_bipush X (by omega) dX4_fill_19 ?_
      refine s_icmpgt_f (tgt := 74) X dX4_fill_21 (by omega) (fun c23 => ?_) (fun c24 => ?_)
      · replace h := ite_neg h c23
        exact KX15 _ (iter_exit h hc12)
      · replace h := ite_pos h c24
        obtain ⟨g25, h⟩ := grd_some h
        refine s_load0 X 1 rfl dX4_fill_24 ?_
        refine s_getR (id := 356) X fk_X4_11 SHC_355 rfl dX4_fill_25 ?_
        refine s_iload_n X 0 rfl dX4_fill_28 ?_
        refine s_aaldI (id := (361 + 3 * round_2.toNat)) X (by omega) (Or.inr rfl) SHC_356 g25.1 g25.2.1 dX4_fill_29 ?_
        refine s_load0 X 1 rfl dX4_fill_30 ?_
        refine s_getR (id := 356) X fk_X4_11 SHC_355 rfl dX4_fill_31 ?_
        refine s_iload_n X 0 rfl dX4_fill_34 ?_
        refine s_const X (by unfold InR; omega) dX4_fill_35 ?_
        refine s_isub X g25.2.2.1 dX4_fill_36 ?_
        refine s_aaldI (id := (361 + 3 * (round_2 - 1).toNat)) X (by omega) (Or.inr rfl) SHC_356 g25.2.2.2.1 g25.2.2.2.2 dX4_fill_37 ?_
        obtain ⟨m_4, hq26, h⟩ := bnd_some h
        refine s_callV (As := [VR (361 + 3 * (round_2 - 1).toNat)]) X cw_X4_49 (shLab (labRow g25.1 g25.2.1)) rfl dX4_fill_38 (L_C_Labels_copy G (361 + 3 * round_2.toNat) (361 + 3 * (round_2 - 1).toNat) m_3 m_4 (labRow g25.1 g25.2.1) (labRow g25.2.2.2.1 g25.2.2.2.2) hq26) rfl ⟨Nat.le_of_ble_eq_true rfl, Nat.le_of_ble_eq_true rfl⟩ ⟨Nat.le_of_ble_eq_true rfl, Nat.le_of_ble_eq_true rfl⟩ (Nat.le_of_ble_eq_true rfl) noT (kkU ?_)
        refine s_load0 X 1 rfl dX4_fill_41 ?_
        refine s_load0 X 1 rfl dX4_fill_42 ?_
        refine s_getR (id := 356) X fk_X4_11 SHC_355 rfl dX4_fill_43 ?_
        refine s_iload_n X 0 rfl dX4_fill_46 ?_
        refine s_const X (by unfold InR; omega) dX4_fill_47 ?_
        refine s_isub X g25.2.2.1 dX4_fill_48 ?_
        refine s_aaldI (id := (361 + 3 * (round_2 - 1).toNat)) X (by omega) (Or.inr rfl) SHC_356 g25.2.2.2.1 g25.2.2.2.2 dX4_fill_49 ?_
        refine s_load0 X 1 rfl dX4_fill_50 ?_
        refine s_getR (id := 356) X fk_X4_11 SHC_355 rfl dX4_fill_51 ?_
        refine s_iload_n X 0 rfl dX4_fill_54 ?_
        refine s_aaldI (id := (361 + 3 * round_2.toNat)) X (by omega) (Or.inr rfl) SHC_356 g25.1 g25.2.1 dX4_fill_55 ?_
        obtain ⟨r_, m_5, hq30, h⟩ := bq2_some h
        refine s_callV (As := [VR (361 + 3 * (round_2 - 1).toNat), VR (361 + 3 * round_2.toNat)]) X cw_X4_53 SHC_355 rfl dX4_fill_56 (L_C_Rounds_rideOnce G (361 + 3 * (round_2 - 1).toNat) (361 + 3 * round_2.toNat) m_4 (r_, m_5) (labRow g25.2.2.2.1 g25.2.2.2.2) (labRow g25.1 g25.2.1) hq30) rfl ⟨Nat.le_of_ble_eq_true rfl, Nat.le_of_ble_eq_true rfl⟩ ⟨Nat.le_of_ble_eq_true rfl, Nat.le_of_ble_eq_true rfl⟩ (Nat.le_of_ble_eq_true rfl) noT (kkR ?_)
        refine s_ifne_t (tgt := 63) X dX4_fill_59 (by omega) (fun c33 => ?_) (fun c34 => ?_)
        · replace h := ite_pos h c33
          refine s_load0 X 1 rfl dX4_fill_63 ?_
          refine s_iload_n X 0 rfl dX4_fill_64 ?_
          obtain ⟨m_6, e36, h⟩ := ltv_elim h
          refine s_putI X e36 fp_X4_45 SHC_355 rfl trivial dX4_fill_65 ?_
          obtain ⟨g37, h⟩ := grd_some h
          obtain ⟨round_3, e38, h⟩ := ltv_elim h
          refine s_iinc X 0 rfl g37 e38 rfl (by omega) dX4_fill_68 ?_
          refine s_goto (tgt := 18) X dX4_fill_71 (by omega) ?_
          exact ih13 _ _ (iter_next h hc12)
        · replace h := ite_neg h c34
          exact s_vret X (Nat.le_of_ble_eq_true rfl) (Nat.le_of_ble_eq_true rfl) (KR17 _ (iter_exit h hc12)) dX4_fill_62
  exact LP14 _ _ _ hl19
set_option maxRecDepth 20000 in
set_option maxHeartbeats 4000000 in
theorem L_C_Rounds_least (G : Gl) (to_ : Int) (m : Mem) (r : Int)  (h : C_Rounds_least to_ m = some r) : Con SHC G yX4_least cX4_least 2 (some .int) rm_X4_least [VR 355, VI to_] m (((.inl (some (VI r)), m) : Res × Mem)) := by
  refine con_of (own := "Lastbus$Rounds") (by decide) rfl (Nat.le_of_ble_eq_true rfl) (fun C X => ?_)
  obtain ⟨O, hO⟩ : ∃ O : Res × Mem, O = (((.inl (some (VI r)), m) : Res × Mem)) := ⟨_, rfl⟩
  rw [← hO]
  show J SHC G rm_X4_least (.inl O) C 0 0 0 [(0, VR 355), (1, VI to_)] [] m
  unfold C_Rounds_least at h
  obtain ⟨g1, h⟩ := grd_some h
  refine s_load0 X 0 rfl dX4_least_0 ?_
  refine s_getR (id := 356) X fk_X4_11 SHC_355 rfl dX4_least_1 ?_
  refine s_load0 X 0 rfl dX4_least_4 ?_
  refine s_getI X fk_X4_45 SHC_355 rfl dX4_least_5 ?_
  refine s_aaldI (id := (361 + 3 * (m 355 3).toNat)) X (by omega) (Or.inr rfl) SHC_356 g1.1 g1.2 dX4_least_8 ?_
  refine s_iload_n X 1 rfl dX4_least_9 ?_
  obtain ⟨r_, hq2, h⟩ := bnd_some h
  refine s_callV (As := [VI to_]) X cw_X4_82 (shLab (labRow g1.1 g1.2)) rfl dX4_least_10 (L_C_Labels_at G (361 + 3 * (m 355 3).toNat) to_ m r_ (labRow g1.1 g1.2) hq2) rfl ⟨Nat.le_of_ble_eq_true rfl, Nat.le_of_ble_eq_true rfl⟩ ⟨Nat.le_of_ble_eq_true rfl, Nat.le_of_ble_eq_true rfl⟩ (Nat.le_of_ble_eq_true rfl) noT (kkR ?_)
  exact s_iret X (Nat.le_of_ble_eq_true rfl) (Nat.le_of_ble_eq_true rfl) (by cases h; exact hO) dX4_least_13
set_option maxRecDepth 20000 in
set_option maxHeartbeats 4000000 in
theorem L_C_earliestByRounds (G : Gl) (from_ : Int) (to_ : Int) (day_ : Int) (minute_ : Int) (m : Mem) (r : ((Int ⊕ Nat) × Mem))  (h : C_earliestByRounds from_ to_ day_ minute_ m = some r) : Con SHC G yX11_earliestByRounds cX11_earliestByRounds 5 (some .int) rm_X11_earliestByRounds [VR 0, VI from_, VI to_, VI day_, VI minute_] m (oT wI r) := by
  refine con_of (own := "Lastbus") (by decide) rfl (Nat.le_of_ble_eq_true rfl) (fun C X => ?_)
  obtain ⟨O, hO⟩ : ∃ O : Res × Mem, O = (oT wI r) := ⟨_, rfl⟩
  rw [← hO]
  show J SHC G rm_X11_earliestByRounds (.inl O) C 0 0 0 [(0, VR 0), (1, VI from_), (2, VI to_), (3, VI day_), (4, VI minute_)] [] m
  unfold C_earliestByRounds at h
  refine s_load0 X 0 rfl dX11_earliestByRounds_0 ?_
  refine s_iload_n X 1 rfl dX11_earliestByRounds_1 ?_
  refine s_iload_n X 2 rfl dX11_earliestByRounds_2 ?_
  refine s_iload_n X 3 rfl dX11_earliestByRounds_3 ?_
  refine s_iload X 4 rfl dX11_earliestByRounds_4 ?_
  obtain ⟨q3, hq2, h⟩ := bnd_some h
  refine s_callV (As := [VI from_, VI to_, VI day_, VI minute_]) X cw_X11_277 SHC_0 rfl dX11_earliestByRounds_6 (L_C_needWay G from_ to_ day_ minute_ m q3 hq2) rfl ⟨Nat.le_of_ble_eq_true rfl, Nat.le_of_ble_eq_true rfl⟩ ⟨Nat.le_of_ble_eq_true rfl, Nat.le_of_ble_eq_true rfl⟩ (Nat.le_of_ble_eq_true rfl) (thr_up hO h) (kkT fun u_ m_ e9 => ?_)
  subst e9
  replace h := tbd_inl h
  refine s_load0 X 0 rfl dX11_earliestByRounds_9 ?_
  refine s_getR (id := 119) X fk_X11_49 SHC_0 rfl dX11_earliestByRounds_10 ?_
  refine s_iload_n X 3 rfl dX11_earliestByRounds_13 ?_
  refine s_const X (by unfold InR; omega) dX11_earliestByRounds_14 ?_
  refine s_const X (by unfold InR; omega) dX11_earliestByRounds_15 ?_
  obtain ⟨m_2, hq6, h⟩ := bnd_some h
  refine s_callV (As := [VI day_, VI (-1), VI 0]) X cw_X11_280 SHC_119 rfl dX11_earliestByRounds_16 (L_C_Net_lay G day_ (-1) 0 m_ m_2 hq6) rfl ⟨Nat.le_of_ble_eq_true rfl, Nat.le_of_ble_eq_true rfl⟩ ⟨Nat.le_of_ble_eq_true rfl, Nat.le_of_ble_eq_true rfl⟩ (Nat.le_of_ble_eq_true rfl) noT (kkU ?_)
  refine s_load0 X 0 rfl dX11_earliestByRounds_19 ?_
  refine s_getR (id := 355) X fk_X11_65 SHC_0 rfl dX11_earliestByRounds_20 ?_
  refine s_iload_n X 1 rfl dX11_earliestByRounds_23 ?_
  refine s_iload X 4 rfl dX11_earliestByRounds_24 ?_
  obtain ⟨m_3, hq10, h⟩ := bnd_some h
  refine s_callV (As := [VI from_, VI minute_]) X cw_X11_297 SHC_355 rfl dX11_earliestByRounds_26 (L_C_Rounds_fill G from_ minute_ m_2 m_3 hq10) rfl ⟨Nat.le_of_ble_eq_true rfl, Nat.le_of_ble_eq_true rfl⟩ ⟨Nat.le_of_ble_eq_true rfl, Nat.le_of_ble_eq_true rfl⟩ (Nat.le_of_ble_eq_true rfl) noT (kkU ?_)
  refine s_load0 X 0 rfl dX11_earliestByRounds_29 ?_
  refine s_getR (id := 355) X fk_X11_65 SHC_0 rfl dX11_earliestByRounds_30 ?_
  refine s_iload_n X 2 rfl dX11_earliestByRounds_33 ?_
  obtain ⟨r_, hq14, h⟩ := bnd_some h
  refine s_callV (As := [VI to_]) X cw_X11_300 SHC_355 rfl dX11_earliestByRounds_34 (L_C_Rounds_least G to_ m_3 r_ hq14) rfl ⟨Nat.le_of_ble_eq_true rfl, Nat.le_of_ble_eq_true rfl⟩ ⟨Nat.le_of_ble_eq_true rfl, Nat.le_of_ble_eq_true rfl⟩ (Nat.le_of_ble_eq_true rfl) noT (kkR ?_)
  obtain ⟨q18, hq17, h⟩ := bnd_some h
  refine s_callS (As := [VI r_]) X cw_X11_128 dX11_earliestByRounds_37 (L_C_needFound G r_ m_3 q18 hq17) rfl ⟨Nat.le_of_ble_eq_true rfl, Nat.le_of_ble_eq_true rfl⟩ ⟨Nat.le_of_ble_eq_true rfl, Nat.le_of_ble_eq_true rfl⟩ (Nat.le_of_ble_eq_true rfl) (thr_up hO h) (kkT fun u_2 m_4 e9 => ?_)
  subst e9
  replace h := tbd_inl h
  refine s_load0 X 0 rfl dX11_earliestByRounds_40 ?_
  refine s_getR (id := 355) X fk_X11_65 SHC_0 rfl dX11_earliestByRounds_41 ?_
  refine s_iload_n X 2 rfl dX11_earliestByRounds_44 ?_
  obtain ⟨r_2, hq21, h⟩ := bnd_some h
  refine s_callV (As := [VI to_]) X cw_X11_300 SHC_355 rfl dX11_earliestByRounds_45 (L_C_Rounds_least G to_ m_4 r_2 hq21) rfl ⟨Nat.le_of_ble_eq_true rfl, Nat.le_of_ble_eq_true rfl⟩ ⟨Nat.le_of_ble_eq_true rfl, Nat.le_of_ble_eq_true rfl⟩ (Nat.le_of_ble_eq_true rfl) noT (kkR ?_)
  exact s_iret X (Nat.le_of_ble_eq_true rfl) (Nat.le_of_ble_eq_true rfl) (by cases h; exact hO) dX11_earliestByRounds_48
