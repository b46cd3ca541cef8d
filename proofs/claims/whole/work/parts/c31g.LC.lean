/-! ===== printed by a program out of the Java source and the decode rows: 31g.LC ===== -/
set_option maxRecDepth 20000 in
set_option maxHeartbeats 4000000 in
theorem L_C_countMoved (G : Gl) (minute_ : Int) (isEarlier_ : Int) (m : Mem) (r : (Int × Mem))  (h : C_countMoved minute_ isEarlier_ m = some r) : Con SHC G yX11_countMoved cX11_countMoved 7 (some .int) rm_X11_countMoved [VR 0, VI minute_, VI isEarlier_] m (((.inl (some (VI r.1)), r.2) : Res × Mem)) := by
  refine con_of (own := "Lastbus") (by decide) rfl (Nat.le_of_ble_eq_true rfl) (fun C X => ?_)
  obtain ⟨O, hO⟩ : ∃ O : Res × Mem, O = (((.inl (some (VI r.1)), r.2) : Res × Mem)) := ⟨_, rfl⟩
  rw [← hO]
  show J SHC G rm_X11_countMoved (.inl O) C 0 0 0 [(0, VR 0), (1, VI minute_), (2, VI isEarlier_)] [] m
  unfold C_countMoved at h
  refine s_const X (by unfold InR; omega) dX11_countMoved_0 ?_
  obtain ⟨count_, e2, h⟩ := ltv_elim h
  refine s_istore_n X e2 rfl (by omega) dX11_countMoved_1 ?_
  refine s_const X (by unfold InR; omega) dX11_countMoved_2 ?_
  obtain ⟨from_, e4, h⟩ := ltv_elim h
  refine s_istore X e4 rfl (by omega) dX11_countMoved_3 ?_
  obtain ⟨count_6, from_4, m_3, hl14, h⟩ := bq3_some h
  obtain ⟨fu50, hl15⟩ := loop_iter hl14
  have KX11 : ∀ q9 : Int × Int × Mem, q9 = (count_6, from_4, m_3) → J SHC G rm_X11_countMoved (.inl O) C 0 0 108 [(4, VI q9.2.1), (3, VI q9.1), (0, VR 0), (1, VI minute_), (2, VI isEarlier_)] [] (q9.2.2) := by
    intro q9 e9
    subst e9
    show J SHC G rm_X11_countMoved (.inl O) C 0 0 108 [(4, VI from_4), (3, VI count_6), (0, VR 0), (1, VI minute_), (2, VI isEarlier_)] [] m_3
    refine s_iload_n X 1 rfl dX11_countMoved_108 ?_
    exact s_iret X (Nat.le_of_ble_eq_true rfl) (Nat.le_of_ble_eq_true rfl) (by cases h; exact hO) dX11_countMoved_109
  have LP10 : ∀ (fu5 : Nat) (count_2 : Int) (from_2 : Int) (m_ : Mem), iter (fun s => C_countMoved_b1 minute_ isEarlier_ s.1 s.2.1 s.2.2) fu5 (count_2, from_2, m_) = some (count_6, from_4, m_3) → J SHC G rm_X11_countMoved (.inl O) C 0 0 5 [(4, VI from_2), (3, VI count_2), (0, VR 0), (1, VI minute_), (2, VI isEarlier_)] [] m_ := by
    intro fu5
    induction fu5 with
    | zero => intro count_2 from_2 m_ hn6; exact absurd hn6 (by simp [iter])
    | succ fu5 ih9 =>
      intro count_2 from_2 m_ hn6
      obtain ⟨x7, h, hc8⟩ := iter_succ hn6
      replace h : C_countMoved_b1 minute_ isEarlier_ count_2 from_2 m_ = some x7 := h
      unfold C_countMoved_b1 at h
      refine s_iload X 0 rfl dX11_countMoved_5 ?_
      refine s_load0 X 2 rfl dX11_countMoved_7 ?_
      refine s_getR (id := 1) X fk_X11_12 SHC_0 rfl dX11_countMoved_8 ?_
      refine s_getI X fk_X11_92 SHC_1 rfl dX11_countMoved_11 ?_
      refine s_icmpge_f (tgt := 108) X dX11_countMoved_14 (by omega) (fun c19 => ?_) (fun c20 => ?_)
      · replace h := ite_neg h c19
        exact KX11 _ (iter_exit h hc8)
      · replace h := ite_pos h c20
        refine s_load0 X 2 rfl dX11_countMoved_17 ?_
        refine s_getR (id := 345) X fk_X11_58 SHC_0 rfl dX11_countMoved_18 ?_
        refine s_iload X 0 rfl dX11_countMoved_21 ?_
        refine s_iload_n X 3 rfl dX11_countMoved_23 ?_
        obtain ⟨m_2, hq22, h⟩ := bnd_some h
        refine s_callV (As := [VI from_2, VI minute_]) X cw_X11_283 SHC_345 rfl dX11_countMoved_24 (L_C_Search_scan G from_2 minute_ m_ m_2 hq22) rfl ⟨Nat.le_of_ble_eq_true rfl, Nat.le_of_ble_eq_true rfl⟩ ⟨Nat.le_of_ble_eq_true rfl, Nat.le_of_ble_eq_true rfl⟩ (Nat.le_of_ble_eq_true rfl) noT (kkU ?_)
        refine s_const X (by unfold InR; omega) dX11_countMoved_27 ?_
        obtain ⟨to_, e26, h⟩ := ltv_elim h
        refine s_istore X e26 rfl (by omega) dX11_countMoved_28 ?_
        obtain ⟨count_5, to_5, hl36, h⟩ := bq2_some h
        obtain ⟨fu270, hl37⟩ := loop_iter hl36
        have KX33 : ∀ q9 : Int × Int, q9 = (count_5, to_5) → J SHC G rm_X11_countMoved (.inl O) C 0 0 102 [(5, VI q9.2), (4, VI from_2), (3, VI q9.1), (0, VR 0), (1, VI minute_), (2, VI isEarlier_)] [] m_2 := by
          intro q9 e9
          subst e9
          show J SHC G rm_X11_countMoved (.inl O) C 0 0 102 [(5, VI to_5), (4, VI from_2), (3, VI count_5), (0, VR 0), (1, VI minute_), (2, VI isEarlier_)] [] m_2
          obtain ⟨g67, h⟩ := grd_some h
          obtain ⟨from_3, e68, h⟩ := ltv_elim h
          refine s_iinc X 1 rfl g67 e68 rfl (by omega) dX11_countMoved_102 ?_
          refine s_goto (tgt := 5) X dX11_countMoved_105 (by omega) ?_
          refine s_loc [0, 2, 3, 4, 5] rfl ?_
          exact ih9 _ _ _ (iter_next h hc8)
        have LP32 : ∀ (fu27 : Nat) (count_3 : Int) (to_2 : Int), iter (fun s => C_countMoved_b2 isEarlier_ from_2 m_2 s.1 s.2) fu27 (count_3, to_2) = some (count_5, to_5) → J SHC G rm_X11_countMoved (.inl O) C 0 0 30 [(5, VI to_2), (4, VI from_2), (3, VI count_3), (0, VR 0), (1, VI minute_), (2, VI isEarlier_)] [] m_2 := by
          intro fu27
          induction fu27 with
          | zero => intro count_3 to_2 hn28; exact absurd hn28 (by simp [iter])
          | succ fu27 ih31 =>
            intro count_3 to_2 hn28
            obtain ⟨x29, h, hc30⟩ := iter_succ hn28
            replace h : C_countMoved_b2 isEarlier_ from_2 m_2 count_3 to_2 = some x29 := h
            unfold C_countMoved_b2 at h
            refine s_iload X 0 rfl dX11_countMoved_30 ?_
            refine s_load0 X 3 rfl dX11_countMoved_32 ?_
            refine s_getR (id := 1) X fk_X11_12 SHC_0 rfl dX11_countMoved_33 ?_
            refine s_getI X fk_X11_92 SHC_1 rfl dX11_countMoved_36 ?_
            refine s_icmpge_f (tgt := 102) X dX11_countMoved_39 (by omega) (fun c41 => ?_) (fun c42 => ?_)
            · replace h := ite_neg h c41
              exact KX33 _ (iter_exit h hc30)
            · replace h := ite_pos h c42
              refine s_load0 X 3 rfl dX11_countMoved_42 ?_
              refine s_getR (id := 345) X fk_X11_58 SHC_0 rfl dX11_countMoved_43 ?_
              refine s_getR (id := 352) X fk_X11_286 SHC_345 rfl dX11_countMoved_46 ?_
              refine s_iload X 0 rfl dX11_countMoved_49 ?_
              obtain ⟨r_, hq44, h⟩ := bnd_some h
              refine s_callV (As := [VI to_2]) X cw_X11_290 (shLab labS) rfl dX11_countMoved_51 (L_C_Labels_at G 352 to_2 m_2 r_ labS hq44) rfl ⟨Nat.le_of_ble_eq_true rfl, Nat.le_of_ble_eq_true rfl⟩ ⟨Nat.le_of_ble_eq_true rfl, Nat.le_of_ble_eq_true rfl⟩ (Nat.le_of_ble_eq_true rfl) noT (kkR ?_)
              obtain ⟨then_, e47, h⟩ := ltv_elim h
              refine s_istore X e47 rfl (by omega) dX11_countMoved_54 ?_
              obtain ⟨g48, h⟩ := grd_some h
              have kF50 : ¬ (((¬ isEarlier_ = 0) → (then_ < m_2 (443 + from_2.toNat) to_2.toNat)) ∧ (¬ (¬ isEarlier_ = 0) → (m_2 (443 + from_2.toNat) to_2.toNat < then_))) → J SHC G rm_X11_countMoved (.inl O) C 0 0 96 [(6, VI then_), (5, VI to_2), (4, VI from_2), (3, VI count_3), (0, VR 0), (1, VI minute_), (2, VI isEarlier_)] [] m_2 := by
                intro c58
                replace h := ite_neg h c58
                obtain ⟨g56, h⟩ := grd_some h
                obtain ⟨to_3, e57, h⟩ := ltv_elim h
                refine s_iinc X 1 rfl g56 e57 rfl (by omega) dX11_countMoved_96 ?_
                refine s_goto (tgt := 30) X dX11_countMoved_99 (by omega) ?_
                refine s_loc [0, 2, 3, 4, 5, 6] rfl ?_
                exact ih31 _ _ (iter_next h hc30)
              have kT49 : ((¬ isEarlier_ = 0) → (then_ < m_2 (443 + from_2.toNat) to_2.toNat)) ∧ (¬ (¬ isEarlier_ = 0) → (m_2 (443 + from_2.toNat) to_2.toNat < then_)) → J SHC G rm_X11_countMoved (.inl O) C 0 0 93 [(6, VI then_), (5, VI to_2), (4, VI from_2), (3, VI count_3), (0, VR 0), (1, VI minute_), (2, VI isEarlier_)] [] m_2 := by
                intro c63
                replace h := ite_pos h c63
                obtain ⟨g59, h⟩ := grd_some h
                obtain ⟨count_4, e60, h⟩ := ltv_elim h
                refine s_iinc X 3 rfl g59 e60 rfl (by omega) dX11_countMoved_93 ?_
                obtain ⟨g61, h⟩ := grd_some h
                obtain ⟨to_4, e62, h⟩ := ltv_elim h
                refine s_iinc X 2 rfl g61 e62 rfl (by omega) dX11_countMoved_96 ?_
                refine s_goto (tgt := 30) X dX11_countMoved_99 (by omega) ?_
                refine s_loc [0, 3, 1, 4, 5, 6] rfl ?_
                exact ih31 _ _ (iter_next h hc30)
              refine s_iload_n X 6 rfl dX11_countMoved_56 ?_
              refine s_ifeq_f (tgt := 78) X dX11_countMoved_57 (by omega) (fun c51 => ?_) (fun c52 => ?_)
              · have a53 : ¬ (¬ isEarlier_ = 0) := c51
                refine s_iload X 0 rfl dX11_countMoved_78 ?_
                refine s_load0 X 4 rfl dX11_countMoved_80 ?_
                refine s_getR (id := 442) X fk_X11_85 SHC_0 rfl dX11_countMoved_81 ?_
                refine s_iload X 2 rfl dX11_countMoved_84 ?_
                refine s_aaldI (id := (443 + from_2.toNat)) X (by omega) (Or.inl rfl) SHC_442 (g48.1 a53) (g48.2.1 a53) dX11_countMoved_86 ?_
                refine s_iload X 1 rfl dX11_countMoved_87 ?_
                refine s_iald X (SHC_r443 (g48.1 a53) (g48.2.1 a53)) (g48.2.2.1 a53) (g48.2.2.2.1 a53) dX11_countMoved_89 ?_
                refine s_icmple_f (tgt := 96) X dX11_countMoved_90 (by omega) (fun c54 => ?_) (fun c55 => ?_)
                · exact kF50 (fun q => c54 (q.2 a53))
                · exact kT49 ⟨fun q => absurd q a53, fun _ => c55⟩
              · have a64 : ¬ isEarlier_ = 0 := c52
                refine s_iload X 0 rfl dX11_countMoved_60 ?_
                refine s_load0 X 4 rfl dX11_countMoved_62 ?_
                refine s_getR (id := 442) X fk_X11_85 SHC_0 rfl dX11_countMoved_63 ?_
                refine s_iload X 2 rfl dX11_countMoved_66 ?_
                refine s_aaldI (id := (443 + from_2.toNat)) X (by omega) (Or.inl rfl) SHC_442 (g48.2.2.2.2.1 a64) (g48.2.2.2.2.2.1 a64) dX11_countMoved_68 ?_
                refine s_iload X 1 rfl dX11_countMoved_69 ?_
                refine s_iald X (SHC_r443 (g48.2.2.2.2.1 a64) (g48.2.2.2.2.2.1 a64)) (g48.2.2.2.2.2.2.1 a64) (g48.2.2.2.2.2.2.2 a64) dX11_countMoved_71 ?_
                refine s_icmpge_f (tgt := 96) X dX11_countMoved_72 (by omega) (fun c65 => ?_) (fun c66 => ?_)
                · exact kF50 (fun q => c65 (q.1 a64))
                · refine s_goto (tgt := 93) X dX11_countMoved_75 (by omega) ?_
                  exact kT49 ⟨fun _ => c66, fun q => absurd a64 q⟩
        exact LP32 _ _ _ hl37
  exact LP10 _ _ _ _ hl15
set_option maxRecDepth 20000 in
set_option maxHeartbeats 4000000 in
theorem L_C_gains (G : Gl) (trip_ : Int) (minutes_ : Int) (day_ : Int) (minute_ : Int) (m : Mem) (r : ((Int ⊕ Nat) × Mem))  (h : C_gains trip_ minutes_ day_ minute_ m = some r) : Con SHC G yX11_gains cX11_gains 5 (some .int) rm_X11_gains [VR 0, VI trip_, VI minutes_, VI day_, VI minute_] m (oT wI r) := by
  refine con_of (own := "Lastbus") (by decide) rfl (Nat.le_of_ble_eq_true rfl) (fun C X => ?_)
  obtain ⟨O, hO⟩ : ∃ O : Res × Mem, O = (oT wI r) := ⟨_, rfl⟩
  rw [← hO]
  show J SHC G rm_X11_gains (.inl O) C 0 0 0 [(0, VR 0), (1, VI trip_), (2, VI minutes_), (3, VI day_), (4, VI minute_)] [] m
  unfold C_gains at h
  refine s_load0 X 0 rfl dX11_gains_0 ?_
  refine s_iload_n X 1 rfl dX11_gains_1 ?_
  obtain ⟨q3, hq2, h⟩ := bnd_some h
  refine s_callV (As := [VI trip_]) X cw_X11_180 SHC_0 rfl dX11_gains_2 (L_C_needTrip G trip_ m q3 hq2) rfl ⟨Nat.le_of_ble_eq_true rfl, Nat.le_of_ble_eq_true rfl⟩ ⟨Nat.le_of_ble_eq_true rfl, Nat.le_of_ble_eq_true rfl⟩ (Nat.le_of_ble_eq_true rfl) (thr_up hO h) (kkT fun u_ m_ e9 => ?_)
  subst e9
  replace h := tbd_inl h
  refine s_load0 X 0 rfl dX11_gains_5 ?_
  refine s_iload_n X 1 rfl dX11_gains_6 ?_
  refine s_iload_n X 2 rfl dX11_gains_7 ?_
  obtain ⟨q7, hq6, h⟩ := bnd_some h
  refine s_callV (As := [VI trip_, VI minutes_]) X cw_X11_210 SHC_0 rfl dX11_gains_8 (L_C_needShift G trip_ minutes_ m_ q7 hq6) rfl ⟨Nat.le_of_ble_eq_true rfl, Nat.le_of_ble_eq_true rfl⟩ ⟨Nat.le_of_ble_eq_true rfl, Nat.le_of_ble_eq_true rfl⟩ (Nat.le_of_ble_eq_true rfl) (thr_up hO h) (kkT fun u_2 m_2 e9 => ?_)
  subst e9
  replace h := tbd_inl h
  refine s_iload_n X 3 rfl dX11_gains_11 ?_
  obtain ⟨q11, hq10, h⟩ := bnd_some h
  refine s_callS (As := [VI day_]) X cw_X11_140 dX11_gains_12 (L_C_needDay G day_ m_2 q11 hq10) rfl ⟨Nat.le_of_ble_eq_true rfl, Nat.le_of_ble_eq_true rfl⟩ ⟨Nat.le_of_ble_eq_true rfl, Nat.le_of_ble_eq_true rfl⟩ (Nat.le_of_ble_eq_true rfl) (thr_up hO h) (kkT fun u_3 m_3 e9 => ?_)
  subst e9
  replace h := tbd_inl h
  refine s_iload X 4 rfl dX11_gains_15 ?_
  refine s_const X (by unfold InR; omega) dX11_gains_17 ?_
  refine s_sipush X (by omega) dX11_gains_18 ?_
  obtain ⟨q15, hq14, h⟩ := bnd_some h
  refine s_callS (As := [VI minute_, VI 0, VI 1439]) X cw_X11_88 dX11_gains_21 (L_C_needNumber G minute_ 0 1439 m_3 q15 hq14) rfl ⟨Nat.le_of_ble_eq_true rfl, Nat.le_of_ble_eq_true rfl⟩ ⟨Nat.le_of_ble_eq_true rfl, Nat.le_of_ble_eq_true rfl⟩ (Nat.le_of_ble_eq_true rfl) (thr_up hO h) (kkT fun u_4 m_4 e9 => ?_)
  subst e9
  replace h := tbd_inl h
  refine s_load0 X 0 rfl dX11_gains_24 ?_
  refine s_iload_n X 1 rfl dX11_gains_25 ?_
  refine s_iload_n X 2 rfl dX11_gains_26 ?_
  refine s_iload_n X 3 rfl dX11_gains_27 ?_
  refine s_iload X 4 rfl dX11_gains_28 ?_
  obtain ⟨m_5, hq18, h⟩ := bnd_some h
  refine s_callV (As := [VI trip_, VI minutes_, VI day_, VI minute_]) X cw_X11_408 SHC_0 rfl dX11_gains_30 (L_C_fillArrivalsAndShift G trip_ minutes_ day_ minute_ m_4 m_5 hq18) rfl ⟨Nat.le_of_ble_eq_true rfl, Nat.le_of_ble_eq_true rfl⟩ ⟨Nat.le_of_ble_eq_true rfl, Nat.le_of_ble_eq_true rfl⟩ (Nat.le_of_ble_eq_true rfl) noT (kkU ?_)
  refine s_load0 X 0 rfl dX11_gains_33 ?_
  refine s_iload X 4 rfl dX11_gains_34 ?_
  refine s_const X (by unfold InR; omega) dX11_gains_36 ?_
  obtain ⟨r_, m_6, hq22, h⟩ := bq2_some h
  refine s_callV (As := [VI minute_, VI 1]) X cw_X11_411 SHC_0 rfl dX11_gains_37 (L_C_countMoved G minute_ 1 m_5 (r_, m_6) hq22) rfl ⟨Nat.le_of_ble_eq_true rfl, Nat.le_of_ble_eq_true rfl⟩ ⟨Nat.le_of_ble_eq_true rfl, Nat.le_of_ble_eq_true rfl⟩ (Nat.le_of_ble_eq_true rfl) noT (kkR ?_)
  exact s_iret X (Nat.le_of_ble_eq_true rfl) (Nat.le_of_ble_eq_true rfl) (by cases h; exact hO) dX11_gains_40
set_option maxRecDepth 20000 in
set_option maxHeartbeats 4000000 in
theorem L_C_loses (G : Gl) (trip_ : Int) (minutes_ : Int) (day_ : Int) (minute_ : Int) (m : Mem) (r : ((Int ⊕ Nat) × Mem))  (h : C_loses trip_ minutes_ day_ minute_ m = some r) : Con SHC G yX11_loses cX11_loses 5 (some .int) rm_X11_loses [VR 0, VI trip_, VI minutes_, VI day_, VI minute_] m (oT wI r) := by
  refine con_of (own := "Lastbus") (by decide) rfl (Nat.le_of_ble_eq_true rfl) (fun C X => ?_)
  obtain ⟨O, hO⟩ : ∃ O : Res × Mem, O = (oT wI r) := ⟨_, rfl⟩
  rw [← hO]
  show J SHC G rm_X11_loses (.inl O) C 0 0 0 [(0, VR 0), (1, VI trip_), (2, VI minutes_), (3, VI day_), (4, VI minute_)] [] m
  unfold C_loses at h
  refine s_load0 X 0 rfl dX11_loses_0 ?_
  refine s_iload_n X 1 rfl dX11_loses_1 ?_
  obtain ⟨q3, hq2, h⟩ := bnd_some h
  refine s_callV (As := [VI trip_]) X cw_X11_180 SHC_0 rfl dX11_loses_2 (L_C_needTrip G trip_ m q3 hq2) rfl ⟨Nat.le_of_ble_eq_true rfl, Nat.le_of_ble_eq_true rfl⟩ ⟨Nat.le_of_ble_eq_true rfl, Nat.le_of_ble_eq_true rfl⟩ (Nat.le_of_ble_eq_true rfl) (thr_up hO h) (kkT fun u_ m_ e9 => ?_)
  subst e9
  replace h := tbd_inl h
  refine s_load0 X 0 rfl dX11_loses_5 ?_
  refine s_iload_n X 1 rfl dX11_loses_6 ?_
  refine s_iload_n X 2 rfl dX11_loses_7 ?_
  obtain ⟨q7, hq6, h⟩ := bnd_some h
  refine s_callV (As := [VI trip_, VI minutes_]) X cw_X11_210 SHC_0 rfl dX11_loses_8 (L_C_needShift G trip_ minutes_ m_ q7 hq6) rfl ⟨Nat.le_of_ble_eq_true rfl, Nat.le_of_ble_eq_true rfl⟩ ⟨Nat.le_of_ble_eq_true rfl, Nat.le_of_ble_eq_true rfl⟩ (Nat.le_of_ble_eq_true rfl) (thr_up hO h) (kkT fun u_2 m_2 e9 => ?_)
  subst e9
  replace h := tbd_inl h
  refine s_iload_n X 3 rfl dX11_loses_11 ?_
  obtain ⟨q11, hq10, h⟩ := bnd_some h
  refine s_callS (As := [VI day_]) X cw_X11_140 dX11_loses_12 (L_C_needDay G day_ m_2 q11 hq10) rfl ⟨Nat.le_of_ble_eq_true rfl, Nat.le_of_ble_eq_true rfl⟩ ⟨Nat.le_of_ble_eq_true rfl, Nat.le_of_ble_eq_true rfl⟩ (Nat.le_of_ble_eq_true rfl) (thr_up hO h) (kkT fun u_3 m_3 e9 => ?_)
  subst e9
  replace h := tbd_inl h
  refine s_iload X 4 rfl dX11_loses_15 ?_
  refine s_const X (by unfold InR; omega) dX11_loses_17 ?_
  refine s_sipush X (by omega) dX11_loses_18 ?_
  obtain ⟨q15, hq14, h⟩ := bnd_some h
  refine s_callS (As := [VI minute_, VI 0, VI 1439]) X cw_X11_88 dX11_loses_21 (L_C_needNumber G minute_ 0 1439 m_3 q15 hq14) rfl ⟨Nat.le_of_ble_eq_true rfl, Nat.le_of_ble_eq_true rfl⟩ ⟨Nat.le_of_ble_eq_true rfl, Nat.le_of_ble_eq_true rfl⟩ (Nat.le_of_ble_eq_true rfl) (thr_up hO h) (kkT fun u_4 m_4 e9 => ?_)
  subst e9
  replace h := tbd_inl h
  refine s_load0 X 0 rfl dX11_loses_24 ?_
  refine s_iload_n X 1 rfl dX11_loses_25 ?_
  refine s_iload_n X 2 rfl dX11_loses_26 ?_
  refine s_iload_n X 3 rfl dX11_loses_27 ?_
  refine s_iload X 4 rfl dX11_loses_28 ?_
  obtain ⟨m_5, hq18, h⟩ := bnd_some h
  refine s_callV (As := [VI trip_, VI minutes_, VI day_, VI minute_]) X cw_X11_408 SHC_0 rfl dX11_loses_30 (L_C_fillArrivalsAndShift G trip_ minutes_ day_ minute_ m_4 m_5 hq18) rfl ⟨Nat.le_of_ble_eq_true rfl, Nat.le_of_ble_eq_true rfl⟩ ⟨Nat.le_of_ble_eq_true rfl, Nat.le_of_ble_eq_true rfl⟩ (Nat.le_of_ble_eq_true rfl) noT (kkU ?_)
  refine s_load0 X 0 rfl dX11_loses_33 ?_
  refine s_iload X 4 rfl dX11_loses_34 ?_
  refine s_const X (by unfold InR; omega) dX11_loses_36 ?_
  obtain ⟨r_, m_6, hq22, h⟩ := bq2_some h
  refine s_callV (As := [VI minute_, VI 0]) X cw_X11_411 SHC_0 rfl dX11_loses_37 (L_C_countMoved G minute_ 0 m_5 (r_, m_6) hq22) rfl ⟨Nat.le_of_ble_eq_true rfl, Nat.le_of_ble_eq_true rfl⟩ ⟨Nat.le_of_ble_eq_true rfl, Nat.le_of_ble_eq_true rfl⟩ (Nat.le_of_ble_eq_true rfl) noT (kkR ?_)
  exact s_iret X (Nat.le_of_ble_eq_true rfl) (Nat.le_of_ble_eq_true rfl) (by cases h; exact hO) dX11_loses_40
set_option maxRecDepth 20000 in
set_option maxHeartbeats 4000000 in
theorem L_C_reachShare (G : Gl) (day_ : Int) (m : Mem) (r : ((UInt32 ⊕ Nat) × Mem))  (h : C_reachShare day_ m = some r) : Con SHC G yX11_reachShare cX11_reachShare 6 (some .float) rm_X11_reachShare [VR 0, VI day_] m (oT wF r) := by
  refine con_of (own := "Lastbus") (by decide) rfl (Nat.le_of_ble_eq_true rfl) (fun C X => ?_)
  obtain ⟨O, hO⟩ : ∃ O : Res × Mem, O = (oT wF r) := ⟨_, rfl⟩
  rw [← hO]
  show J SHC G rm_X11_reachShare (.inl O) C 0 0 0 [(0, VR 0), (1, VI day_)] [] m
  unfold C_reachShare at h
  refine s_iload_n X 1 rfl dX11_reachShare_0 ?_
  obtain ⟨q3, hq2, h⟩ := bnd_some h
  refine s_callS (As := [VI day_]) X cw_X11_140 dX11_reachShare_1 (L_C_needDay G day_ m q3 hq2) rfl ⟨Nat.le_of_ble_eq_true rfl, Nat.le_of_ble_eq_true rfl⟩ ⟨Nat.le_of_ble_eq_true rfl, Nat.le_of_ble_eq_true rfl⟩ (Nat.le_of_ble_eq_true rfl) (thr_up hO h) (kkT fun u_ m_ e9 => ?_)
  subst e9
  replace h := tbd_inl h
  obtain ⟨g5, h⟩ := grd_some h
  refine s_load0 X 0 rfl dX11_reachShare_4 ?_
  refine s_getR (id := 1) X fk_X11_12 SHC_0 rfl dX11_reachShare_5 ?_
  refine s_getI X fk_X11_92 SHC_1 rfl dX11_reachShare_8 ?_
  refine s_load0 X 0 rfl dX11_reachShare_11 ?_
  refine s_getR (id := 1) X fk_X11_12 SHC_0 rfl dX11_reachShare_12 ?_
  refine s_getI X fk_X11_92 SHC_1 rfl dX11_reachShare_15 ?_
  refine s_const X (by unfold InR; omega) dX11_reachShare_18 ?_
  refine s_isub X g5.1 dX11_reachShare_19 ?_
  refine s_imul X g5.2 dX11_reachShare_20 ?_
  obtain ⟨all_, e6, h⟩ := ltv_elim h
  refine s_istore_n X e6 rfl (by omega) dX11_reachShare_21 ?_
  refine s_iload_n X 0 rfl dX11_reachShare_22 ?_
  refine s_ifne_f (tgt := 37) X dX11_reachShare_23 (by omega) (fun c10 => ?_) (fun c11 => ?_)
  · replace h := ite_neg h c10
    refine s_load0 X 1 rfl dX11_reachShare_37 ?_
    refine s_getR (id := 119) X fk_X11_49 SHC_0 rfl dX11_reachShare_38 ?_
    refine s_iload_n X 2 rfl dX11_reachShare_41 ?_
    refine s_const X (by unfold InR; omega) dX11_reachShare_42 ?_
    refine s_const X (by unfold InR; omega) dX11_reachShare_43 ?_
    obtain ⟨m_2, hq13, h⟩ := bnd_some h
    refine s_callV (As := [VI day_, VI (-1), VI 0]) X cw_X11_280 SHC_119 rfl dX11_reachShare_44 (L_C_Net_lay G day_ (-1) 0 m_ m_2 hq13) rfl ⟨Nat.le_of_ble_eq_true rfl, Nat.le_of_ble_eq_true rfl⟩ ⟨Nat.le_of_ble_eq_true rfl, Nat.le_of_ble_eq_true rfl⟩ (Nat.le_of_ble_eq_true rfl) noT (kkU ?_)
    refine s_load0 X 1 rfl dX11_reachShare_47 ?_
    refine s_const X (by unfold InR; omega) dX11_reachShare_48 ?_
    obtain ⟨m_3, hq17, h⟩ := bnd_some h
    refine s_callV (As := [VI 0]) X cw_X11_392 SHC_0 rfl dX11_reachShare_49 (L_C_fillArrivals G 0 m_2 m_3 hq17) rfl ⟨Nat.le_of_ble_eq_true rfl, Nat.le_of_ble_eq_true rfl⟩ ⟨Nat.le_of_ble_eq_true rfl, Nat.le_of_ble_eq_true rfl⟩ (Nat.le_of_ble_eq_true rfl) noT (kkU ?_)
    refine s_const X (by unfold InR; omega) dX11_reachShare_52 ?_
    obtain ⟨reached_, e21, h⟩ := ltv_elim h
    refine s_istore_n X e21 rfl (by omega) dX11_reachShare_53 ?_
    refine s_const X (by unfold InR; omega) dX11_reachShare_54 ?_
    obtain ⟨from_, e23, h⟩ := ltv_elim h
    refine s_istore X e23 rfl (by omega) dX11_reachShare_55 ?_
    obtain ⟨reached_6, from_4, hl33, h⟩ := bq2_some h
    obtain ⟨fu240, hl34⟩ := loop_iter hl33
    have KX30 : ∀ q9 : Int × Int, q9 = (reached_6, from_4) → J SHC G rm_X11_reachShare (.inl O) C 1 6 122 [(4, VI q9.2), (3, VI q9.1), (2, VI all_), (0, VR 0), (1, VI day_)] [] m_3 := by
      intro q9 e9
      subst e9
      show J SHC G rm_X11_reachShare (.inl O) C 1 6 122 [(4, VI from_4), (3, VI reached_6), (2, VI all_), (0, VR 0), (1, VI day_)] [] m_3
      obtain ⟨g75, h⟩ := grd_some h
      refine s_iload_n X 1 rfl dX11_reachShare_122 ?_
      refine s_i2f X dX11_reachShare_123 ?_
      refine s_iload_n X 2 rfl dX11_reachShare_124 ?_
      refine s_i2f X dX11_reachShare_125 ?_
      refine s_fdiv X g75 dX11_reachShare_126 ?_
      exact s_fret X (Nat.le_of_ble_eq_true rfl) (Nat.le_of_ble_eq_true rfl) (by cases h; exact hO) dX11_reachShare_127
    have LP29 : ∀ (fu24 : Nat) (reached_2 : Int) (from_2 : Int), iter (fun s => C_reachShare_b1 m_3 s.1 s.2) fu24 (reached_2, from_2) = some (reached_6, from_4) → J SHC G rm_X11_reachShare (.inl O) C 1 6 57 [(4, VI from_2), (3, VI reached_2), (2, VI all_), (0, VR 0), (1, VI day_)] [] m_3 := by
      intro fu24
      induction fu24 with
      | zero => intro reached_2 from_2 hn25; exact absurd hn25 (by simp [iter])
      | succ fu24 ih28 =>
        intro reached_2 from_2 hn25
        obtain ⟨x26, h, hc27⟩ := iter_succ hn25
        replace h : C_reachShare_b1 m_3 reached_2 from_2 = some x26 := h
        unfold C_reachShare_b1 at h
        refine s_iload X 0 rfl dX11_reachShare_57 ?_
        refine s_load0 X 3 rfl dX11_reachShare_59 ?_
        refine s_getR (id := 1) X fk_X11_12 SHC_0 rfl dX11_reachShare_60 ?_
        refine s_getI X fk_X11_92 SHC_1 rfl dX11_reachShare_63 ?_
        refine s_icmpge_f (tgt := 122) X dX11_reachShare_66 (by omega) (fun c38 => ?_) (fun c39 => ?_)
        · replace h := ite_neg h c38
          exact KX30 _ (iter_exit h hc27)
        · replace h := ite_pos h c39
          refine s_const X (by unfold InR; omega) dX11_reachShare_69 ?_
          obtain ⟨to_, e41, h⟩ := ltv_elim h
          refine s_istore X e41 rfl (by omega) dX11_reachShare_70 ?_
          obtain ⟨reached_5, to_5, hl51, h⟩ := bq2_some h
          obtain ⟨fu420, hl52⟩ := loop_iter hl51
          have KX48 : ∀ q9 : Int × Int, q9 = (reached_5, to_5) → J SHC G rm_X11_reachShare (.inl O) C 1 6 116 [(5, VI q9.2), (4, VI from_2), (3, VI q9.1), (2, VI all_), (0, VR 0), (1, VI day_)] [] m_3 := by
            intro q9 e9
            subst e9
            show J SHC G rm_X11_reachShare (.inl O) C 1 6 116 [(5, VI to_5), (4, VI from_2), (3, VI reached_5), (2, VI all_), (0, VR 0), (1, VI day_)] [] m_3
            obtain ⟨g73, h⟩ := grd_some h
            obtain ⟨from_3, e74, h⟩ := ltv_elim h
            refine s_iinc X 1 rfl g73 e74 rfl (by omega) dX11_reachShare_116 ?_
            refine s_goto (tgt := 57) X dX11_reachShare_119 (by omega) ?_
            refine s_loc [0, 2, 3, 4, 5] rfl ?_
            exact ih28 _ _ (iter_next h hc27)
          have LP47 : ∀ (fu42 : Nat) (reached_3 : Int) (to_2 : Int), iter (fun s => C_reachShare_b2 m_3 from_2 s.1 s.2) fu42 (reached_3, to_2) = some (reached_5, to_5) → J SHC G rm_X11_reachShare (.inl O) C 1 6 72 [(5, VI to_2), (4, VI from_2), (3, VI reached_3), (2, VI all_), (0, VR 0), (1, VI day_)] [] m_3 := by
            intro fu42
            induction fu42 with
            | zero => intro reached_3 to_2 hn43; exact absurd hn43 (by simp [iter])
            | succ fu42 ih46 =>
              intro reached_3 to_2 hn43
              obtain ⟨x44, h, hc45⟩ := iter_succ hn43
              replace h : C_reachShare_b2 m_3 from_2 reached_3 to_2 = some x44 := h
              unfold C_reachShare_b2 at h
              refine s_iload X 0 rfl dX11_reachShare_72 ?_
              refine s_load0 X 4 rfl dX11_reachShare_74 ?_
              refine s_getR (id := 1) X fk_X11_12 SHC_0 rfl dX11_reachShare_75 ?_
              refine s_getI X fk_X11_92 SHC_1 rfl dX11_reachShare_78 ?_
              refine s_icmpge_f (tgt := 116) X dX11_reachShare_81 (by omega) (fun c56 => ?_) (fun c57 => ?_)
              · replace h := ite_neg h c56
                exact KX48 _ (iter_exit h hc45)
              · replace h := ite_pos h c57
                obtain ⟨g58, h⟩ := grd_some h
                have kF60 : ¬ ((¬ from_2 = to_2) ∧ (m_3 (443 + from_2.toNat) to_2.toNat < 1000000)) → J SHC G rm_X11_reachShare (.inl O) C 1 6 110 [(5, VI to_2), (4, VI from_2), (3, VI reached_3), (2, VI all_), (0, VR 0), (1, VI day_)] [] m_3 := by
                  intro c65
                  replace h := ite_neg h c65
                  obtain ⟨g63, h⟩ := grd_some h
                  obtain ⟨to_3, e64, h⟩ := ltv_elim h
                  refine s_iinc X 0 rfl g63 e64 rfl (by omega) dX11_reachShare_110 ?_
                  refine s_goto (tgt := 72) X dX11_reachShare_113 (by omega) ?_
                  exact ih46 _ _ (iter_next h hc45)
                refine s_iload X 1 rfl dX11_reachShare_84 ?_
                refine s_iload X 0 rfl dX11_reachShare_86 ?_
                refine s_icmpeq_f (tgt := 110) X dX11_reachShare_88 (by omega) (fun c61 => ?_) (fun c62 => ?_)
                · exact kF60 (fun q => c61 q.1)
                · have a66 : ¬ from_2 = to_2 := c62
                  refine s_load0 X 4 rfl dX11_reachShare_91 ?_
                  refine s_getR (id := 442) X fk_X11_85 SHC_0 rfl dX11_reachShare_92 ?_
                  refine s_iload X 1 rfl dX11_reachShare_95 ?_
                  refine s_aaldI (id := (443 + from_2.toNat)) X (by omega) (Or.inl rfl) SHC_442 (g58.1 a66) (g58.2.1 a66) dX11_reachShare_97 ?_
                  refine s_iload X 0 rfl dX11_reachShare_98 ?_
                  refine s_iald X (SHC_r443 (g58.1 a66) (g58.2.1 a66)) (g58.2.2.1 a66) (g58.2.2.2 a66) dX11_reachShare_100 ?_
                  refine s_ldcW (z := 1000000) X (by unfold InR; omega) kc_X11_420 dX11_reachShare_101 ?_
                  refine s_icmpge_f (tgt := 110) X dX11_reachShare_104 (by omega) (fun c67 => ?_) (fun c68 => ?_)
                  · exact kF60 (fun q => c67 q.2)
                  · replace h := ite_pos h ⟨a66, c68⟩
                    obtain ⟨g69, h⟩ := grd_some h
                    obtain ⟨reached_4, e70, h⟩ := ltv_elim h
                    refine s_iinc X 2 rfl g69 e70 rfl (by omega) dX11_reachShare_107 ?_
                    obtain ⟨g71, h⟩ := grd_some h
                    obtain ⟨to_4, e72, h⟩ := ltv_elim h
                    refine s_iinc X 1 rfl g71 e72 rfl (by omega) dX11_reachShare_110 ?_
                    refine s_goto (tgt := 72) X dX11_reachShare_113 (by omega) ?_
                    refine s_loc [0, 2, 1, 3, 4, 5] rfl ?_
                    exact ih46 _ _ (iter_next h hc45)
          exact LP47 _ _ _ hl52
    exact LP29 _ _ _ hl34
  · replace h := ite_pos h c11
    exact s_throwW X th_X11_415_417_419 (by cases h; exact hO) (Nat.le_of_ble_eq_true rfl) (Nat.le_of_ble_eq_true rfl) (Nat.le_of_ble_eq_true rfl) (Nat.le_of_ble_eq_true rfl) dX11_reachShare_26 dX11_reachShare_29 dX11_reachShare_30 dX11_reachShare_33 dX11_reachShare_36
set_option maxRecDepth 20000 in
set_option maxHeartbeats 4000000 in
theorem L_C_meanBetween (G : Gl)  (m : Mem) (r : ((UInt64 ⊕ Nat) × Mem))  (h : C_meanBetween  m = some r) : Con SHC G yX11_meanBetween cX11_meanBetween 5 (some .double) rm_X11_meanBetween [VR 0] m (oT wD r) := by
  refine con_of (own := "Lastbus") (by decide) rfl (Nat.le_of_ble_eq_true rfl) (fun C X => ?_)
  obtain ⟨O, hO⟩ : ∃ O : Res × Mem, O = (oT wD r) := ⟨_, rfl⟩
  rw [← hO]
  show J SHC G rm_X11_meanBetween (.inl O) C 0 0 0 [(0, VR 0)] [] m
  unfold C_meanBetween at h
  refine s_const X (by unfold InR; omega) dX11_meanBetween_0 ?_
  obtain ⟨minutes_, e2, h⟩ := ltv_elim h
  refine s_istore_n X e2 rfl (by omega) dX11_meanBetween_1 ?_
  refine s_const X (by unfold InR; omega) dX11_meanBetween_2 ?_
  obtain ⟨count_, e4, h⟩ := ltv_elim h
  refine s_istore_n X e4 rfl (by omega) dX11_meanBetween_3 ?_
  refine s_const X (by unfold InR; omega) dX11_meanBetween_4 ?_
  obtain ⟨trip_, e6, h⟩ := ltv_elim h
  refine s_istore_n X e6 rfl (by omega) dX11_meanBetween_5 ?_
  obtain ⟨minutes_6, count_6, trip_4, hl16, h⟩ := bq3_some h
  obtain ⟨fu70, hl17⟩ := loop_iter hl16
  have KX13 : ∀ q9 : Int × Int × Int, q9 = (minutes_6, count_6, trip_4) → J SHC G rm_X11_meanBetween (.inl O) C 0 0 79 [(3, VI q9.2.2), (2, VI q9.2.1), (1, VI q9.1), (0, VR 0)] [] m := by
    intro q9 e9
    subst e9
    show J SHC G rm_X11_meanBetween (.inl O) C 0 0 79 [(3, VI trip_4), (2, VI count_6), (1, VI minutes_6), (0, VR 0)] [] m
    refine s_iload_n X 1 rfl dX11_meanBetween_79 ?_
    refine s_ifne_f (tgt := 94) X dX11_meanBetween_80 (by omega) (fun c52 => ?_) (fun c53 => ?_)
    · replace h := ite_neg h c52
      obtain ⟨g54, h⟩ := grd_some h
      refine s_iload_n X 2 rfl dX11_meanBetween_94 ?_
      refine s_i2d X dX11_meanBetween_95 ?_
      refine s_iload_n X 1 rfl dX11_meanBetween_96 ?_
      refine s_i2d X dX11_meanBetween_97 ?_
      refine s_ddiv X g54 dX11_meanBetween_98 ?_
      exact s_dret X (Nat.le_of_ble_eq_true rfl) (Nat.le_of_ble_eq_true rfl) (by cases h; exact hO) dX11_meanBetween_99
    · replace h := ite_pos h c53
      exact s_throwW X th_X11_415_421_419 (by cases h; exact hO) (Nat.le_of_ble_eq_true rfl) (Nat.le_of_ble_eq_true rfl) (Nat.le_of_ble_eq_true rfl) (Nat.le_of_ble_eq_true rfl) dX11_meanBetween_83 dX11_meanBetween_86 dX11_meanBetween_87 dX11_meanBetween_90 dX11_meanBetween_93
  have LP12 : ∀ (fu7 : Nat) (minutes_2 : Int) (count_2 : Int) (trip_2 : Int), iter (fun s => C_meanBetween_b1 m s.1 s.2.1 s.2.2) fu7 (minutes_2, count_2, trip_2) = some (minutes_6, count_6, trip_4) → J SHC G rm_X11_meanBetween (.inl O) C 0 0 6 [(3, VI trip_2), (2, VI count_2), (1, VI minutes_2), (0, VR 0)] [] m := by
    intro fu7
    induction fu7 with
    | zero => intro minutes_2 count_2 trip_2 hn8; exact absurd hn8 (by simp [iter])
    | succ fu7 ih11 =>
      intro minutes_2 count_2 trip_2 hn8
      obtain ⟨x9, h, hc10⟩ := iter_succ hn8
      replace h : C_meanBetween_b1 m minutes_2 count_2 trip_2 = some x9 := h
      unfold C_meanBetween_b1 at h
      refine s_iload_n X 0 rfl dX11_meanBetween_6 ?_
      refine s_load0 X 3 rfl dX11_meanBetween_7 ?_
      refine s_getR (id := 31) X fk_X11_26 SHC_0 rfl dX11_meanBetween_8 ?_
      refine s_getI X fk_X11_203 SHC_31 rfl dX11_meanBetween_11 ?_
      refine s_icmpge_f (tgt := 79) X dX11_meanBetween_14 (by omega) (fun c21 => ?_) (fun c22 => ?_)
      · replace h := ite_neg h c21
        exact KX13 _ (iter_exit h hc10)
      · replace h := ite_pos h c22
        refine s_const X (by unfold InR; omega) dX11_meanBetween_17 ?_
        obtain ⟨call_, e24, h⟩ := ltv_elim h
        refine s_istore X e24 rfl (by omega) dX11_meanBetween_18 ?_
        obtain ⟨minutes_5, count_5, call_4, hl34, h⟩ := bq3_some h
        obtain ⟨fu250, hl35⟩ := loop_iter hl34
        have KX31 : ∀ q9 : Int × Int × Int, q9 = (minutes_5, count_5, call_4) → J SHC G rm_X11_meanBetween (.inl O) C 0 0 73 [(4, VI q9.2.2), (3, VI trip_2), (2, VI q9.2.1), (1, VI q9.1), (0, VR 0)] [] m := by
          intro q9 e9
          subst e9
          show J SHC G rm_X11_meanBetween (.inl O) C 0 0 73 [(4, VI call_4), (3, VI trip_2), (2, VI count_5), (1, VI minutes_5), (0, VR 0)] [] m
          obtain ⟨g47, h⟩ := grd_some h
          obtain ⟨trip_3, e48, h⟩ := ltv_elim h
          refine s_iinc X 1 rfl g47 e48 rfl (by omega) dX11_meanBetween_73 ?_
          refine s_goto (tgt := 6) X dX11_meanBetween_76 (by omega) ?_
          refine s_loc [0, 2, 3, 4] rfl ?_
          exact ih11 _ _ _ (iter_next h hc10)
        have LP30 : ∀ (fu25 : Nat) (minutes_3 : Int) (count_3 : Int) (call_2 : Int), iter (fun s => C_meanBetween_b2 m trip_2 s.1 s.2.1 s.2.2) fu25 (minutes_3, count_3, call_2) = some (minutes_5, count_5, call_4) → J SHC G rm_X11_meanBetween (.inl O) C 0 0 20 [(4, VI call_2), (3, VI trip_2), (2, VI count_3), (1, VI minutes_3), (0, VR 0)] [] m := by
          intro fu25
          induction fu25 with
          | zero => intro minutes_3 count_3 call_2 hn26; exact absurd hn26 (by simp [iter])
          | succ fu25 ih29 =>
            intro minutes_3 count_3 call_2 hn26
            obtain ⟨x27, h, hc28⟩ := iter_succ hn26
            replace h : C_meanBetween_b2 m trip_2 minutes_3 count_3 call_2 = some x27 := h
            unfold C_meanBetween_b2 at h
            obtain ⟨g36, h⟩ := grd_some h
            refine s_iload X 0 rfl dX11_meanBetween_20 ?_
            refine s_load0 X 4 rfl dX11_meanBetween_22 ?_
            refine s_getR (id := 31) X fk_X11_26 SHC_0 rfl dX11_meanBetween_23 ?_
            refine s_getR (id := 33) X fk_X11_183 SHC_31 rfl dX11_meanBetween_26 ?_
            refine s_iload_n X 1 rfl dX11_meanBetween_29 ?_
            refine s_iald X SHC_33 g36.1 g36.2 dX11_meanBetween_30 ?_
            refine s_icmpge_f (tgt := 73) X dX11_meanBetween_31 (by omega) (fun c39 => ?_) (fun c40 => ?_)
            · replace h := ite_neg h c39
              exact KX31 _ (iter_exit h hc28)
            · replace h := ite_pos h c40
              obtain ⟨g41, h⟩ := grd_some h
              refine s_iload_n X 3 rfl dX11_meanBetween_34 ?_
              refine s_load0 X 4 rfl dX11_meanBetween_35 ?_
              refine s_getR (id := 31) X fk_X11_26 SHC_0 rfl dX11_meanBetween_36 ?_
              refine s_getR (id := 59) X fk_X11_207 SHC_31 rfl dX11_meanBetween_39 ?_
              refine s_iload_n X 1 rfl dX11_meanBetween_42 ?_
              refine s_aaldI (id := (60 + trip_2.toNat)) X (by omega) (Or.inl rfl) SHC_59 g36.1 g36.2 dX11_meanBetween_43 ?_
              refine s_iload X 0 rfl dX11_meanBetween_44 ?_
              refine s_iald X (SHC_r60 g36.1 g36.2) g41.1 g41.2.1 dX11_meanBetween_46 ?_
              refine s_load0 X 4 rfl dX11_meanBetween_47 ?_
              refine s_getR (id := 31) X fk_X11_26 SHC_0 rfl dX11_meanBetween_48 ?_
              refine s_getR (id := 84) X fk_X11_186 SHC_31 rfl dX11_meanBetween_51 ?_
              refine s_iload_n X 1 rfl dX11_meanBetween_54 ?_
              refine s_aaldI (id := (85 + trip_2.toNat)) X (by omega) (Or.inl rfl) SHC_84 g36.1 g36.2 dX11_meanBetween_55 ?_
              refine s_iload X 0 rfl dX11_meanBetween_56 ?_
              refine s_const X (by unfold InR; omega) dX11_meanBetween_58 ?_
              refine s_isub X g41.2.2.1 dX11_meanBetween_59 ?_
              refine s_iald X (SHC_r85 g36.1 g36.2) g41.2.2.2.1 g41.2.2.2.2.1 dX11_meanBetween_60 ?_
              refine s_isub X g41.2.2.2.2.2.1 dX11_meanBetween_61 ?_
              refine s_iadd X g41.2.2.2.2.2.2 dX11_meanBetween_62 ?_
              obtain ⟨minutes_4, e42, h⟩ := ltv_elim h
              refine s_istore_n X e42 rfl (by omega) dX11_meanBetween_63 ?_
              obtain ⟨g43, h⟩ := grd_some h
              obtain ⟨count_4, e44, h⟩ := ltv_elim h
              refine s_iinc X 3 rfl g43 e44 rfl (by omega) dX11_meanBetween_64 ?_
              obtain ⟨g45, h⟩ := grd_some h
              obtain ⟨call_3, e46, h⟩ := ltv_elim h
              refine s_iinc X 2 rfl g45 e46 rfl (by omega) dX11_meanBetween_67 ?_
              refine s_goto (tgt := 20) X dX11_meanBetween_70 (by omega) ?_
              refine s_loc [0, 3, 1, 2, 4] rfl ?_
              exact ih29 _ _ _ (iter_next h hc28)
        exact LP30 _ _ _ _ hl35
  exact LP12 _ _ _ _ hl17
set_option maxRecDepth 20000 in
set_option maxHeartbeats 4000000 in
theorem L_C_Stops_addTo (G : Gl) (sum_ : Int64) (m : Mem) (r : Int64)  (h : C_Stops_addTo sum_ m = some r) : Con SHC G yX8_addTo cX8_addTo 6 (some .long) rm_X8_addTo [VR 1, VL sum_] m (((.inl (some (VL r)), m) : Res × Mem)) := by
  refine con_of (own := "Lastbus$Stops") (by decide) rfl (Nat.le_of_ble_eq_true rfl) (fun C X => ?_)
  obtain ⟨O, hO⟩ : ∃ O : Res × Mem, O = (((.inl (some (VL r)), m) : Res × Mem)) := ⟨_, rfl⟩
  rw [← hO]
  show J SHC G rm_X8_addTo (.inl O) C 0 0 0 [(0, VR 1), (1, VL sum_)] [] m
  unfold C_Stops_addTo at h
  refine s_lload_n X 1 rfl dX8_addTo_0 ?_
  obtain ⟨then_, e2, h⟩ := ltv_elim h
  refine s_lstore_n X e2 rfl (by omega) dX8_addTo_1 ?_
  refine s_const X (by unfold InR; omega) dX8_addTo_2 ?_
  obtain ⟨stop_, e4, h⟩ := ltv_elim h
  refine s_istore X e4 rfl (by omega) dX8_addTo_3 ?_
  obtain ⟨then_4, stop_4, hl14, h⟩ := bq2_some h
  obtain ⟨fu50, hl15⟩ := loop_iter hl14
  have KX11 : ∀ q9 : Int64 × Int, q9 = (then_4, stop_4) → J SHC G rm_X8_addTo (.inl O) C 0 0 35 [(5, VI q9.2), (3, VL q9.1), (0, VR 1), (1, VL sum_)] [] m := by
    intro q9 e9
    subst e9
    show J SHC G rm_X8_addTo (.inl O) C 0 0 35 [(5, VI stop_4), (3, VL then_4), (0, VR 1), (1, VL sum_)] [] m
    refine s_lload_n X 1 rfl dX8_addTo_35 ?_
    exact s_lret X (Nat.le_of_ble_eq_true rfl) (Nat.le_of_ble_eq_true rfl) (by cases h; exact hO) dX8_addTo_36
  have LP10 : ∀ (fu5 : Nat) (then_2 : Int64) (stop_2 : Int), iter (fun s => C_Stops_addTo_b1 m s.1 s.2) fu5 (then_2, stop_2) = some (then_4, stop_4) → J SHC G rm_X8_addTo (.inl O) C 0 0 5 [(5, VI stop_2), (3, VL then_2), (0, VR 1), (1, VL sum_)] [] m := by
    intro fu5
    induction fu5 with
    | zero => intro then_2 stop_2 hn6; exact absurd hn6 (by simp [iter])
    | succ fu5 ih9 =>
      intro then_2 stop_2 hn6
      obtain ⟨x7, h, hc8⟩ := iter_succ hn6
      replace h : C_Stops_addTo_b1 m then_2 stop_2 = some x7 := h
      unfold C_Stops_addTo_b1 at h
      refine s_iload X 0 rfl dX8_addTo_5 ?_
      refine s_load0 X 2 rfl dX8_addTo_7 ?_
      refine s_getI X fk_X8_27 SHC_1 rfl dX8_addTo_8 ?_
      refine s_icmpge_f (tgt := 35) X dX8_addTo_11 (by omega) (fun c19 => ?_) (fun c20 => ?_)
      · replace h := ite_neg h c19
        exact KX11 _ (iter_exit h hc8)
      · replace h := ite_pos h c20
        obtain ⟨g21, h⟩ := grd_some h
        refine s_ldc2 X kl_X8_35 dX8_addTo_14 ?_
        refine s_lload_n X 1 rfl dX8_addTo_17 ?_
        refine s_lmul X dX8_addTo_18 ?_
        refine s_load0 X 2 rfl dX8_addTo_19 ?_
        refine s_getR (id := 2) X fk_X8_9 SHC_1 rfl dX8_addTo_20 ?_
        refine s_iload X 0 rfl dX8_addTo_23 ?_
        refine s_iald X SHC_2 g21.1 g21.2 dX8_addTo_25 ?_
        refine s_i2l X dX8_addTo_26 ?_
        refine s_ladd X dX8_addTo_27 ?_
        obtain ⟨then_3, e22, h⟩ := ltv_elim h
        refine s_lstore_n X e22 rfl (by omega) dX8_addTo_28 ?_
        obtain ⟨g23, h⟩ := grd_some h
        obtain ⟨stop_3, e24, h⟩ := ltv_elim h
        refine s_iinc X 1 rfl g23 e24 rfl (by omega) dX8_addTo_29 ?_
        refine s_goto (tgt := 5) X dX8_addTo_32 (by omega) ?_
        exact ih9 _ _ (iter_next h hc8)
  exact LP10 _ _ _ hl15
set_option maxRecDepth 20000 in
set_option maxHeartbeats 4000000 in
theorem L_C_Trips_addTo (G : Gl) (sum_ : Int64) (m : Mem) (r : Int64)  (h : C_Trips_addTo sum_ m = some r) : Con SHC G yX9_addTo cX9_addTo 7 (some .long) rm_X9_addTo [VR 31, VL sum_] m (((.inl (some (VL r)), m) : Res × Mem)) := by
  refine con_of (own := "Lastbus$Trips") (by decide) rfl (Nat.le_of_ble_eq_true rfl) (fun C X => ?_)
  obtain ⟨O, hO⟩ : ∃ O : Res × Mem, O = (((.inl (some (VL r)), m) : Res × Mem)) := ⟨_, rfl⟩
  rw [← hO]
  show J SHC G rm_X9_addTo (.inl O) C 0 0 0 [(0, VR 31), (1, VL sum_)] [] m
  unfold C_Trips_addTo at h
  refine s_lload_n X 1 rfl dX9_addTo_0 ?_
  obtain ⟨then_, e2, h⟩ := ltv_elim h
  refine s_lstore_n X e2 rfl (by omega) dX9_addTo_1 ?_
  refine s_const X (by unfold InR; omega) dX9_addTo_2 ?_
  obtain ⟨trip_, e4, h⟩ := ltv_elim h
  refine s_istore X e4 rfl (by omega) dX9_addTo_3 ?_
  obtain ⟨then_9, trip_4, hl14, h⟩ := bq2_some h
  obtain ⟨fu50, hl15⟩ := loop_iter hl14
  have KX11 : ∀ q9 : Int64 × Int, q9 = (then_9, trip_4) → J SHC G rm_X9_addTo (.inl O) C 0 0 110 [(5, VI q9.2), (3, VL q9.1), (0, VR 31), (1, VL sum_)] [] m := by
    intro q9 e9
    subst e9
    show J SHC G rm_X9_addTo (.inl O) C 0 0 110 [(5, VI trip_4), (3, VL then_9), (0, VR 31), (1, VL sum_)] [] m
    refine s_lload_n X 1 rfl dX9_addTo_110 ?_
    exact s_lret X (Nat.le_of_ble_eq_true rfl) (Nat.le_of_ble_eq_true rfl) (by cases h; exact hO) dX9_addTo_111
  have LP10 : ∀ (fu5 : Nat) (then_2 : Int64) (trip_2 : Int), iter (fun s => C_Trips_addTo_b1 m s.1 s.2) fu5 (then_2, trip_2) = some (then_9, trip_4) → J SHC G rm_X9_addTo (.inl O) C 0 0 5 [(5, VI trip_2), (3, VL then_2), (0, VR 31), (1, VL sum_)] [] m := by
    intro fu5
    induction fu5 with
    | zero => intro then_2 trip_2 hn6; exact absurd hn6 (by simp [iter])
    | succ fu5 ih9 =>
      intro then_2 trip_2 hn6
      obtain ⟨x7, h, hc8⟩ := iter_succ hn6
      replace h : C_Trips_addTo_b1 m then_2 trip_2 = some x7 := h
      unfold C_Trips_addTo_b1 at h
      refine s_iload X 0 rfl dX9_addTo_5 ?_
      refine s_load0 X 2 rfl dX9_addTo_7 ?_
      refine s_getI X fk_X9_29 SHC_31 rfl dX9_addTo_8 ?_
      refine s_icmpge_f (tgt := 110) X dX9_addTo_11 (by omega) (fun c19 => ?_) (fun c20 => ?_)
      · replace h := ite_neg h c19
        exact KX11 _ (iter_exit h hc8)
      · replace h := ite_pos h c20
        obtain ⟨g21, h⟩ := grd_some h
        refine s_ldc2 X kl_X9_37 dX9_addTo_14 ?_
        refine s_lload_n X 1 rfl dX9_addTo_17 ?_
        refine s_lmul X dX9_addTo_18 ?_
        refine s_load0 X 2 rfl dX9_addTo_19 ?_
        refine s_getR (id := 32) X fk_X9_9 SHC_31 rfl dX9_addTo_20 ?_
        refine s_iload X 0 rfl dX9_addTo_23 ?_
        refine s_iald X SHC_32 g21.1 g21.2 dX9_addTo_25 ?_
        refine s_i2l X dX9_addTo_26 ?_
        refine s_ladd X dX9_addTo_27 ?_
        obtain ⟨then_3, e22, h⟩ := ltv_elim h
        refine s_lstore_n X e22 rfl (by omega) dX9_addTo_28 ?_
        refine s_const X (by unfold InR; omega) dX9_addTo_29 ?_
        obtain ⟨call_, e24, h⟩ := ltv_elim h
        refine s_istore X e24 rfl (by omega) dX9_addTo_30 ?_
        obtain ⟨then_8, call_4, hl34, h⟩ := bq2_some h
        obtain ⟨fu250, hl35⟩ := loop_iter hl34
        have KX31 : ∀ q9 : Int64 × Int, q9 = (then_8, call_4) → J SHC G rm_X9_addTo (.inl O) C 0 0 104 [(6, VI q9.2), (3, VL q9.1), (5, VI trip_2), (0, VR 31), (1, VL sum_)] [] m := by
          intro q9 e9
          subst e9
          show J SHC G rm_X9_addTo (.inl O) C 0 0 104 [(6, VI call_4), (3, VL then_8), (5, VI trip_2), (0, VR 31), (1, VL sum_)] [] m
          obtain ⟨g49, h⟩ := grd_some h
          obtain ⟨trip_3, e50, h⟩ := ltv_elim h
          refine s_iinc X 2 rfl g49 e50 rfl (by omega) dX9_addTo_104 ?_
          refine s_goto (tgt := 5) X dX9_addTo_107 (by omega) ?_
          refine s_loc [0, 2, 3, 4] rfl ?_
          exact ih9 _ _ (iter_next h hc8)
        have LP30 : ∀ (fu25 : Nat) (then_4 : Int64) (call_2 : Int), iter (fun s => C_Trips_addTo_b2 m trip_2 s.1 s.2) fu25 (then_4, call_2) = some (then_8, call_4) → J SHC G rm_X9_addTo (.inl O) C 0 0 32 [(6, VI call_2), (3, VL then_4), (5, VI trip_2), (0, VR 31), (1, VL sum_)] [] m := by
          intro fu25
          induction fu25 with
          | zero => intro then_4 call_2 hn26; exact absurd hn26 (by simp [iter])
          | succ fu25 ih29 =>
            intro then_4 call_2 hn26
            obtain ⟨x27, h, hc28⟩ := iter_succ hn26
            replace h : C_Trips_addTo_b2 m trip_2 then_4 call_2 = some x27 := h
            unfold C_Trips_addTo_b2 at h
            obtain ⟨g36, h⟩ := grd_some h
            refine s_iload X 0 rfl dX9_addTo_32 ?_
            refine s_load0 X 3 rfl dX9_addTo_34 ?_
            refine s_getR (id := 33) X fk_X9_15 SHC_31 rfl dX9_addTo_35 ?_
            refine s_iload X 2 rfl dX9_addTo_38 ?_
            refine s_iald X SHC_33 g36.1 g36.2 dX9_addTo_40 ?_
            refine s_icmpge_f (tgt := 104) X dX9_addTo_41 (by omega) (fun c39 => ?_) (fun c40 => ?_)
            · replace h := ite_neg h c39
              exact KX31 _ (iter_exit h hc28)
            · replace h := ite_pos h c40
              obtain ⟨g41, h⟩ := grd_some h
              refine s_ldc2 X kl_X9_37 dX9_addTo_44 ?_
              refine s_lload_n X 1 rfl dX9_addTo_47 ?_
              refine s_lmul X dX9_addTo_48 ?_
              refine s_load0 X 3 rfl dX9_addTo_49 ?_
              refine s_getR (id := 34) X fk_X9_20 SHC_31 rfl dX9_addTo_50 ?_
              refine s_iload X 2 rfl dX9_addTo_53 ?_
              refine s_aaldI (id := (35 + trip_2.toNat)) X (by omega) (Or.inl rfl) SHC_34 g36.1 g36.2 dX9_addTo_55 ?_
              refine s_iload X 0 rfl dX9_addTo_56 ?_
              refine s_iald X (SHC_r35 g36.1 g36.2) g41.1 g41.2 dX9_addTo_58 ?_
              refine s_i2l X dX9_addTo_59 ?_
              refine s_ladd X dX9_addTo_60 ?_
              obtain ⟨then_5, e42, h⟩ := ltv_elim h
              refine s_lstore_n X e42 rfl (by omega) dX9_addTo_61 ?_
              refine s_ldc2 X kl_X9_37 dX9_addTo_62 ?_
              refine s_lload_n X 0 rfl dX9_addTo_65 ?_
              refine s_lmul X dX9_addTo_66 ?_
              refine s_load0 X 3 rfl dX9_addTo_67 ?_
              refine s_getR (id := 59) X fk_X9_23 SHC_31 rfl dX9_addTo_68 ?_
              refine s_iload X 2 rfl dX9_addTo_71 ?_
              refine s_aaldI (id := (60 + trip_2.toNat)) X (by omega) (Or.inl rfl) SHC_59 g36.1 g36.2 dX9_addTo_73 ?_
              refine s_iload X 1 rfl dX9_addTo_74 ?_
              refine s_iald X (SHC_r60 g36.1 g36.2) g41.1 g41.2 dX9_addTo_76 ?_
              refine s_i2l X dX9_addTo_77 ?_
              refine s_ladd X dX9_addTo_78 ?_
              obtain ⟨then_6, e44, h⟩ := ltv_elim h
              refine s_lstore_n X e44 rfl (by omega) dX9_addTo_79 ?_
              refine s_ldc2 X kl_X9_37 dX9_addTo_80 ?_
              refine s_lload_n X 0 rfl dX9_addTo_83 ?_
              refine s_lmul X dX9_addTo_84 ?_
              refine s_load0 X 3 rfl dX9_addTo_85 ?_
              refine s_getR (id := 84) X fk_X9_26 SHC_31 rfl dX9_addTo_86 ?_
              refine s_iload X 2 rfl dX9_addTo_89 ?_
              refine s_aaldI (id := (85 + trip_2.toNat)) X (by omega) (Or.inl rfl) SHC_84 g36.1 g36.2 dX9_addTo_91 ?_
              refine s_iload X 1 rfl dX9_addTo_92 ?_
              refine s_iald X (SHC_r85 g36.1 g36.2) g41.1 g41.2 dX9_addTo_94 ?_
              refine s_i2l X dX9_addTo_95 ?_
              refine s_ladd X dX9_addTo_96 ?_
              obtain ⟨then_7, e46, h⟩ := ltv_elim h
              refine s_lstore_n X e46 rfl (by omega) dX9_addTo_97 ?_
              obtain ⟨g47, h⟩ := grd_some h
              obtain ⟨call_3, e48, h⟩ := ltv_elim h
              refine s_iinc X 1 rfl g47 e48 rfl (by omega) dX9_addTo_98 ?_
              refine s_goto (tgt := 32) X dX9_addTo_101 (by omega) ?_
              exact ih29 _ _ (iter_next h hc28)
        exact LP30 _ _ _ hl35
  exact LP10 _ _ _ hl15
set_option maxRecDepth 20000 in
set_option maxHeartbeats 4000000 in
theorem L_C_Services_addTo (G : Gl) (sum_ : Int64) (m : Mem) (r : Int64)  (h : C_Services_addTo sum_ m = some r) : Con SHC G yX7_addTo cX7_addTo 7 (some .long) rm_X7_addTo [VR 29, VL sum_] m (((.inl (some (VL r)), m) : Res × Mem)) := by
  refine con_of (own := "Lastbus$Services") (by decide) rfl (Nat.le_of_ble_eq_true rfl) (fun C X => ?_)
  obtain ⟨O, hO⟩ : ∃ O : Res × Mem, O = (((.inl (some (VL r)), m) : Res × Mem)) := ⟨_, rfl⟩
  rw [← hO]
  show J SHC G rm_X7_addTo (.inl O) C 0 0 0 [(0, VR 29), (1, VL sum_)] [] m
  unfold C_Services_addTo at h
  refine s_lload_n X 1 rfl dX7_addTo_0 ?_
  obtain ⟨then_, e2, h⟩ := ltv_elim h
  refine s_lstore_n X e2 rfl (by omega) dX7_addTo_1 ?_
  refine s_const X (by unfold InR; omega) dX7_addTo_2 ?_
  obtain ⟨service_, e4, h⟩ := ltv_elim h
  refine s_istore X e4 rfl (by omega) dX7_addTo_3 ?_
  obtain ⟨then_6, service_4, hl14, h⟩ := bq2_some h
  obtain ⟨fu50, hl15⟩ := loop_iter hl14
  have KX11 : ∀ q9 : Int64 × Int, q9 = (then_6, service_4) → J SHC G rm_X7_addTo (.inl O) C 0 0 60 [(5, VI q9.2), (3, VL q9.1), (0, VR 29), (1, VL sum_)] [] m := by
    intro q9 e9
    subst e9
    show J SHC G rm_X7_addTo (.inl O) C 0 0 60 [(5, VI service_4), (3, VL then_6), (0, VR 29), (1, VL sum_)] [] m
    refine s_lload_n X 1 rfl dX7_addTo_60 ?_
    exact s_lret X (Nat.le_of_ble_eq_true rfl) (Nat.le_of_ble_eq_true rfl) (by cases h; exact hO) dX7_addTo_61
  have LP10 : ∀ (fu5 : Nat) (then_2 : Int64) (service_2 : Int), iter (fun s => C_Services_addTo_b1 m s.1 s.2) fu5 (then_2, service_2) = some (then_6, service_4) → J SHC G rm_X7_addTo (.inl O) C 0 0 5 [(5, VI service_2), (3, VL then_2), (0, VR 29), (1, VL sum_)] [] m := by
    intro fu5
    induction fu5 with
    | zero => intro then_2 service_2 hn6; exact absurd hn6 (by simp [iter])
    | succ fu5 ih9 =>
      intro then_2 service_2 hn6
      obtain ⟨x7, h, hc8⟩ := iter_succ hn6
      replace h : C_Services_addTo_b1 m then_2 service_2 = some x7 := h
      unfold C_Services_addTo_b1 at h
      refine s_iload X 0 rfl dX7_addTo_5 ?_
      refine s_load0 X 2 rfl dX7_addTo_7 ?_
      refine s_getI X fk_X7_15 SHC_29 rfl dX7_addTo_8 ?_
      refine s_icmpge_f (tgt := 60) X dX7_addTo_11 (by omega) (fun c19 => ?_) (fun c20 => ?_)
      · replace h := ite_neg h c19
        exact KX11 _ (iter_exit h hc8)
      · replace h := ite_pos h c20
        refine s_const X (by unfold InR; omega) dX7_addTo_14 ?_
        obtain ⟨day_, e22, h⟩ := ltv_elim h
        refine s_istore X e22 rfl (by omega) dX7_addTo_15 ?_
        obtain ⟨then_5, day_4, hl32, h⟩ := bq2_some h
        obtain ⟨fu230, hl33⟩ := loop_iter hl32
        have KX29 : ∀ q9 : Int64 × Int, q9 = (then_5, day_4) → J SHC G rm_X7_addTo (.inl O) C 0 0 54 [(6, VI q9.2), (5, VI service_2), (3, VL q9.1), (0, VR 29), (1, VL sum_)] [] m := by
          intro q9 e9
          subst e9
          show J SHC G rm_X7_addTo (.inl O) C 0 0 54 [(6, VI day_4), (5, VI service_2), (3, VL then_5), (0, VR 29), (1, VL sum_)] [] m
          obtain ⟨g53, h⟩ := grd_some h
          obtain ⟨service_3, e54, h⟩ := ltv_elim h
          refine s_iinc X 1 rfl g53 e54 rfl (by omega) dX7_addTo_54 ?_
          refine s_goto (tgt := 5) X dX7_addTo_57 (by omega) ?_
          refine s_loc [0, 2, 3, 4] rfl ?_
          exact ih9 _ _ (iter_next h hc8)
        have LP28 : ∀ (fu23 : Nat) (then_3 : Int64) (day_2 : Int), iter (fun s => C_Services_addTo_b2 m service_2 s.1 s.2) fu23 (then_3, day_2) = some (then_5, day_4) → J SHC G rm_X7_addTo (.inl O) C 0 0 17 [(6, VI day_2), (5, VI service_2), (3, VL then_3), (0, VR 29), (1, VL sum_)] [] m := by
          intro fu23
          induction fu23 with
          | zero => intro then_3 day_2 hn24; exact absurd hn24 (by simp [iter])
          | succ fu23 ih27 =>
            intro then_3 day_2 hn24
            obtain ⟨x25, h, hc26⟩ := iter_succ hn24
            replace h : C_Services_addTo_b2 m service_2 then_3 day_2 = some x25 := h
            unfold C_Services_addTo_b2 at h
            refine s_iload X 0 rfl dX7_addTo_17 ?_
            refine s_bipush X (by omega) dX7_addTo_19 ?_
            refine s_icmpge_f (tgt := 54) X dX7_addTo_21 (by omega) (fun c37 => ?_) (fun c38 => ?_)
            · replace h := ite_neg h c37
              exact KX29 _ (iter_exit h hc26)
            · replace h := ite_pos h c38
              refine s_ldc2 X kl_X7_23 dX7_addTo_24 ?_
              refine s_lload_n X 2 rfl dX7_addTo_27 ?_
              refine s_lmul X dX7_addTo_28 ?_
              obtain ⟨kj_, hk40, h⟩ := ltv_elim h
              have K41 : ∀ (v_ : Int), kj_ v_ = some x25 → J SHC G rm_X7_addTo (.inl O) C 0 0 45 [(6, VI day_2), (5, VI service_2), (3, VL then_3), (0, VR 29), (1, VL sum_)] [VI v_, VL (31 * then_3)] m := by
                intro v_ h
                subst hk40
                dsimp only at h
                refine s_i2l X dX7_addTo_45 ?_
                refine s_ladd X dX7_addTo_46 ?_
                obtain ⟨then_4, e50, h⟩ := ltv_elim h
                refine s_lstore_n X e50 rfl (by omega) dX7_addTo_47 ?_
                obtain ⟨g51, h⟩ := grd_some h
                obtain ⟨day_3, e52, h⟩ := ltv_elim h
                refine s_iinc X 1 rfl g51 e52 rfl (by omega) dX7_addTo_48 ?_
                refine s_goto (tgt := 17) X dX7_addTo_51 (by omega) ?_
                refine s_loc [0, 2, 1, 3, 4] rfl ?_
                exact ih27 _ _ (iter_next h hc26)
              refine s_load0 X 3 rfl dX7_addTo_29 ?_
              refine s_iload X 1 rfl dX7_addTo_30 ?_
              refine s_iload X 0 rfl dX7_addTo_32 ?_
              obtain ⟨r_, hq42, h⟩ := bnd_some h
              refine s_callV (As := [VI service_2, VI day_2]) X cw_X7_19 SHC_29 rfl dX7_addTo_34 (L_C_Services_isOn G service_2 day_2 m r_ hq42) rfl ⟨Nat.le_of_ble_eq_true rfl, Nat.le_of_ble_eq_true rfl⟩ ⟨Nat.le_of_ble_eq_true rfl, Nat.le_of_ble_eq_true rfl⟩ (Nat.le_of_ble_eq_true rfl) noT (kkR ?_)
              refine s_ifeq_f (tgt := 44) X dX7_addTo_37 (by omega) (fun c45 => ?_) (fun c46 => ?_)
              · replace h := ite_neg h c45
                refine s_const X (by unfold InR; omega) dX7_addTo_44 ?_
                exact s_kn rfl rfl (K41 _ h)
              · replace h := ite_pos h c46
                refine s_const X (by unfold InR; omega) dX7_addTo_40 ?_
                refine s_goto (tgt := 45) X dX7_addTo_41 (by omega) ?_
                exact s_kn rfl rfl (K41 _ h)
        exact LP28 _ _ _ hl33
  exact LP10 _ _ _ hl15
set_option maxRecDepth 20000 in
set_option maxHeartbeats 4000000 in
theorem L_C_checksum (G : Gl)  (m : Mem) (r : Int64)  (h : C_checksum  m = some r) : Con SHC G yX11_checksum cX11_checksum 3 (some .long) rm_X11_checksum [VR 0] m (((.inl (some (VL r)), m) : Res × Mem)) := by
  refine con_of (own := "Lastbus") (by decide) rfl (Nat.le_of_ble_eq_true rfl) (fun C X => ?_)
  obtain ⟨O, hO⟩ : ∃ O : Res × Mem, O = (((.inl (some (VL r)), m) : Res × Mem)) := ⟨_, rfl⟩
  rw [← hO]
  show J SHC G rm_X11_checksum (.inl O) C 0 0 0 [(0, VR 0)] [] m
  unfold C_checksum at h
  refine s_load0 X 0 rfl dX11_checksum_0 ?_
  refine s_getR (id := 1) X fk_X11_12 SHC_0 rfl dX11_checksum_1 ?_
  refine s_ldc2 X kl_X11_423 dX11_checksum_4 ?_
  obtain ⟨r_, hq2, h⟩ := bnd_some h
  refine s_callV (As := [VL 7]) X cw_X11_425 SHC_1 rfl dX11_checksum_7 (L_C_Stops_addTo G 7 m r_ hq2) rfl ⟨Nat.le_of_ble_eq_true rfl, Nat.le_of_ble_eq_true rfl⟩ ⟨Nat.le_of_ble_eq_true rfl, Nat.le_of_ble_eq_true rfl⟩ (Nat.le_of_ble_eq_true rfl) noT (kkR ?_)
  obtain ⟨sum_, e5, h⟩ := ltv_elim h
  refine s_lstore_n X e5 rfl (by omega) dX11_checksum_10 ?_
  refine s_load0 X 1 rfl dX11_checksum_11 ?_
  refine s_getR (id := 31) X fk_X11_26 SHC_0 rfl dX11_checksum_12 ?_
  refine s_lload_n X 0 rfl dX11_checksum_15 ?_
  obtain ⟨r_2, hq7, h⟩ := bnd_some h
  refine s_callV (As := [VL sum_]) X cw_X11_429 SHC_31 rfl dX11_checksum_16 (L_C_Trips_addTo G sum_ m r_2 hq7) rfl ⟨Nat.le_of_ble_eq_true rfl, Nat.le_of_ble_eq_true rfl⟩ ⟨Nat.le_of_ble_eq_true rfl, Nat.le_of_ble_eq_true rfl⟩ (Nat.le_of_ble_eq_true rfl) noT (kkR ?_)
  obtain ⟨sum_2, e10, h⟩ := ltv_elim h
  refine s_lstore_n X e10 rfl (by omega) dX11_checksum_19 ?_
  refine s_load0 X 1 rfl dX11_checksum_20 ?_
  refine s_getR (id := 29) X fk_X11_19 SHC_0 rfl dX11_checksum_21 ?_
  refine s_lload_n X 0 rfl dX11_checksum_24 ?_
  obtain ⟨r_3, hq12, h⟩ := bnd_some h
  refine s_callV (As := [VL sum_2]) X cw_X11_430 SHC_29 rfl dX11_checksum_25 (L_C_Services_addTo G sum_2 m r_3 hq12) rfl ⟨Nat.le_of_ble_eq_true rfl, Nat.le_of_ble_eq_true rfl⟩ ⟨Nat.le_of_ble_eq_true rfl, Nat.le_of_ble_eq_true rfl⟩ (Nat.le_of_ble_eq_true rfl) noT (kkR ?_)
  obtain ⟨sum_3, e15, h⟩ := ltv_elim h
  refine s_lstore_n X e15 rfl (by omega) dX11_checksum_28 ?_
  refine s_ldc2 X kl_X11_431 dX11_checksum_29 ?_
  refine s_lload_n X 0 rfl dX11_checksum_32 ?_
  refine s_lmul X dX11_checksum_33 ?_
  refine s_load0 X 1 rfl dX11_checksum_34 ?_
  refine s_getR (id := 114) X fk_X11_40 SHC_0 rfl dX11_checksum_35 ?_
  refine s_getI X fk_X11_433 SHC_114 rfl dX11_checksum_38 ?_
  refine s_i2l X dX11_checksum_41 ?_
  refine s_ladd X dX11_checksum_42 ?_
  exact s_lret X (Nat.le_of_ble_eq_true rfl) (Nat.le_of_ble_eq_true rfl) (by cases h; exact hO) dX11_checksum_43
set_option maxRecDepth 20000 in
set_option maxHeartbeats 4000000 in
theorem L_C_lastIsSound (G : Gl) (stop_ : Int) (by_ : Int) (m : Mem) (r : (Int × Mem))  (h : C_lastIsSound stop_ by_ m = some r) : Con SHC G yX11_lastIsSound cX11_lastIsSound 5 (some .boolean) rm_X11_lastIsSound [VR 0, VI stop_, VI by_] m (((.inl (some (VI r.1)), r.2) : Res × Mem)) := by
  refine con_of (own := "Lastbus") (by decide) rfl (Nat.le_of_ble_eq_true rfl) (fun C X => ?_)
  obtain ⟨O, hO⟩ : ∃ O : Res × Mem, O = (((.inl (some (VI r.1)), r.2) : Res × Mem)) := ⟨_, rfl⟩
  rw [← hO]
  show J SHC G rm_X11_lastIsSound (.inl O) C 0 0 0 [(0, VR 0), (1, VI stop_), (2, VI by_)] [] m
  unfold C_lastIsSound at h
  refine s_load0 X 0 rfl dX11_lastIsSound_0 ?_
  refine s_getR (id := 345) X fk_X11_58 SHC_0 rfl dX11_lastIsSound_1 ?_
  refine s_const X (by unfold InR; omega) dX11_lastIsSound_4 ?_
  refine s_iload_n X 1 rfl dX11_lastIsSound_5 ?_
  refine s_iload_n X 2 rfl dX11_lastIsSound_6 ?_
  obtain ⟨r_, m_, hq2, h⟩ := bq2_some h
  refine s_callV (As := [VI 0, VI stop_, VI by_]) X cw_X11_303 SHC_345 rfl dX11_lastIsSound_7 (L_C_Search_lastLeave G 0 stop_ by_ m (r_, m_) hq2) rfl ⟨Nat.le_of_ble_eq_true rfl, Nat.le_of_ble_eq_true rfl⟩ ⟨Nat.le_of_ble_eq_true rfl, Nat.le_of_ble_eq_true rfl⟩ (Nat.le_of_ble_eq_true rfl) noT (kkR ?_)
  obtain ⟨leave_, e5, h⟩ := ltv_elim h
  refine s_istore_n X e5 rfl (by omega) dX11_lastIsSound_10 ?_
  refine s_iload_n X 0 rfl dX11_lastIsSound_11 ?_
  refine s_ifge_f (tgt := 17) X dX11_lastIsSound_12 (by omega) (fun c9 => ?_) (fun c10 => ?_)
  · replace h := ite_neg h c9
    refine s_load0 X 1 rfl dX11_lastIsSound_17 ?_
    refine s_getR (id := 345) X fk_X11_58 SHC_0 rfl dX11_lastIsSound_18 ?_
    refine s_const X (by unfold InR; omega) dX11_lastIsSound_21 ?_
    refine s_iload_n X 0 rfl dX11_lastIsSound_22 ?_
    obtain ⟨m_2, hq12, h⟩ := bnd_some h
    refine s_callV (As := [VI 0, VI leave_]) X cw_X11_283 SHC_345 rfl dX11_lastIsSound_23 (L_C_Search_scan G 0 leave_ m_ m_2 hq12) rfl ⟨Nat.le_of_ble_eq_true rfl, Nat.le_of_ble_eq_true rfl⟩ ⟨Nat.le_of_ble_eq_true rfl, Nat.le_of_ble_eq_true rfl⟩ (Nat.le_of_ble_eq_true rfl) noT (kkU ?_)
    obtain ⟨kj_, hk16, h⟩ := ltv_elim h
    have K17 : ∀ (v_ : Int), kj_ v_ = some r → J SHC G rm_X11_lastIsSound (.inl O) C 0 0 46 [(3, VI leave_), (0, VR 0), (1, VI stop_), (2, VI by_)] [VI v_] m_2 := by
      intro v_ h
      subst hk16
      dsimp only at h
      obtain ⟨isInTime_, e26, h⟩ := ltv_elim h
      refine s_istore X e26 rfl (by omega) dX11_lastIsSound_46 ?_
      obtain ⟨g27, h⟩ := grd_some h
      refine s_load0 X 2 rfl dX11_lastIsSound_48 ?_
      refine s_getR (id := 345) X fk_X11_58 SHC_0 rfl dX11_lastIsSound_49 ?_
      refine s_const X (by unfold InR; omega) dX11_lastIsSound_52 ?_
      refine s_iload_n X 1 rfl dX11_lastIsSound_53 ?_
      refine s_const X (by unfold InR; omega) dX11_lastIsSound_54 ?_
      refine s_iadd X g27 dX11_lastIsSound_55 ?_
      obtain ⟨m_3, hq28, h⟩ := bnd_some h
      refine s_callV (As := [VI 0, VI (leave_ + 1)]) X cw_X11_283 SHC_345 rfl dX11_lastIsSound_56 (L_C_Search_scan G 0 (leave_ + 1) m_2 m_3 hq28) rfl ⟨Nat.le_of_ble_eq_true rfl, Nat.le_of_ble_eq_true rfl⟩ ⟨Nat.le_of_ble_eq_true rfl, Nat.le_of_ble_eq_true rfl⟩ (Nat.le_of_ble_eq_true rfl) noT (kkU ?_)
      refine s_iload X 0 rfl dX11_lastIsSound_59 ?_
      refine s_ifeq_f (tgt := 83) X dX11_lastIsSound_61 (by omega) (fun c34 => ?_) (fun c35 => ?_)
      · replace h := ite_neg h c34
        refine s_const X (by unfold InR; omega) dX11_lastIsSound_83 ?_
        exact s_zret X (Or.inl rfl) (Nat.le_of_ble_eq_true rfl) (Nat.le_of_ble_eq_true rfl) (by cases h; exact hO) dX11_lastIsSound_84
      · replace h := ite_pos h c35
        refine s_load0 X 2 rfl dX11_lastIsSound_64 ?_
        refine s_getR (id := 345) X fk_X11_58 SHC_0 rfl dX11_lastIsSound_65 ?_
        refine s_getR (id := 352) X fk_X11_286 SHC_345 rfl dX11_lastIsSound_68 ?_
        refine s_iload_n X 3 rfl dX11_lastIsSound_71 ?_
        obtain ⟨r_3, hq38, h⟩ := bnd_some h
        refine s_callV (As := [VI stop_]) X cw_X11_290 (shLab labS) rfl dX11_lastIsSound_72 (L_C_Labels_at G 352 stop_ m_3 r_3 labS hq38) rfl ⟨Nat.le_of_ble_eq_true rfl, Nat.le_of_ble_eq_true rfl⟩ ⟨Nat.le_of_ble_eq_true rfl, Nat.le_of_ble_eq_true rfl⟩ (Nat.le_of_ble_eq_true rfl) noT (kkR ?_)
        refine s_iload_n X 4 rfl dX11_lastIsSound_75 ?_
        refine s_icmple_f (tgt := 83) X dX11_lastIsSound_76 (by omega) (fun c41 => ?_) (fun c42 => ?_)
        · replace h := ite_neg h c41
          refine s_const X (by unfold InR; omega) dX11_lastIsSound_83 ?_
          exact s_zret X (Or.inl rfl) (Nat.le_of_ble_eq_true rfl) (Nat.le_of_ble_eq_true rfl) (by cases h; exact hO) dX11_lastIsSound_84
        · replace h := ite_pos h c42
          refine s_const X (by unfold InR; omega) dX11_lastIsSound_79 ?_
          refine s_goto (tgt := 84) X dX11_lastIsSound_80 (by omega) ?_
          exact s_zret X (Or.inr rfl) (Nat.le_of_ble_eq_true rfl) (Nat.le_of_ble_eq_true rfl) (by cases h; exact hO) dX11_lastIsSound_84
    refine s_load0 X 1 rfl dX11_lastIsSound_26 ?_
    refine s_getR (id := 345) X fk_X11_58 SHC_0 rfl dX11_lastIsSound_27 ?_
    refine s_getR (id := 352) X fk_X11_286 SHC_345 rfl dX11_lastIsSound_30 ?_
    refine s_iload_n X 2 rfl dX11_lastIsSound_33 ?_
    obtain ⟨r_2, hq18, h⟩ := bnd_some h
    refine s_callV (As := [VI stop_]) X cw_X11_290 (shLab labS) rfl dX11_lastIsSound_34 (L_C_Labels_at G 352 stop_ m_2 r_2 labS hq18) rfl ⟨Nat.le_of_ble_eq_true rfl, Nat.le_of_ble_eq_true rfl⟩ ⟨Nat.le_of_ble_eq_true rfl, Nat.le_of_ble_eq_true rfl⟩ (Nat.le_of_ble_eq_true rfl) noT (kkR ?_)
    refine s_iload_n X 3 rfl dX11_lastIsSound_37 ?_
    refine s_icmpgt_f (tgt := 45) X dX11_lastIsSound_38 (by omega) (fun c21 => ?_) (fun c22 => ?_)
    · replace h := ite_neg h c21
      refine s_const X (by unfold InR; omega) dX11_lastIsSound_45 ?_
      exact s_kn rfl rfl (K17 _ h)
    · replace h := ite_pos h c22
      refine s_const X (by unfold InR; omega) dX11_lastIsSound_41 ?_
      refine s_goto (tgt := 46) X dX11_lastIsSound_42 (by omega) ?_
      exact s_kn rfl rfl (K17 _ h)
  · replace h := ite_pos h c10
    refine s_const X (by unfold InR; omega) dX11_lastIsSound_15 ?_
    exact s_zret X (Or.inl rfl) (Nat.le_of_ble_eq_true rfl) (Nat.le_of_ble_eq_true rfl) (by cases h; exact hO) dX11_lastIsSound_16
set_option maxRecDepth 20000 in
set_option maxHeartbeats 4000000 in
theorem L_C_waysAreSound (G : Gl)  (m : Mem) (r : (Int × Mem))  (h : C_waysAreSound  m = some r) : Con SHC G yX11_waysAreSound cX11_waysAreSound 3 (some .boolean) rm_X11_waysAreSound [VR 0] m (((.inl (some (VI r.1)), r.2) : Res × Mem)) := by
  refine con_of (own := "Lastbus") (by decide) rfl (Nat.le_of_ble_eq_true rfl) (fun C X => ?_)
  obtain ⟨O, hO⟩ : ∃ O : Res × Mem, O = (((.inl (some (VI r.1)), r.2) : Res × Mem)) := ⟨_, rfl⟩
  rw [← hO]
  show J SHC G rm_X11_waysAreSound (.inl O) C 0 0 0 [(0, VR 0)] [] m
  unfold C_waysAreSound at h
  refine s_load0 X 0 rfl dX11_waysAreSound_0 ?_
  refine s_getR (id := 345) X fk_X11_58 SHC_0 rfl dX11_waysAreSound_1 ?_
  refine s_const X (by unfold InR; omega) dX11_waysAreSound_4 ?_
  refine s_sipush X (by omega) dX11_waysAreSound_5 ?_
  obtain ⟨m_, hq2, h⟩ := bnd_some h
  refine s_callV (As := [VI 0, VI 480]) X cw_X11_283 SHC_345 rfl dX11_waysAreSound_8 (L_C_Search_scan G 0 480 m m_ hq2) rfl ⟨Nat.le_of_ble_eq_true rfl, Nat.le_of_ble_eq_true rfl⟩ ⟨Nat.le_of_ble_eq_true rfl, Nat.le_of_ble_eq_true rfl⟩ (Nat.le_of_ble_eq_true rfl) noT (kkU ?_)
  refine s_load0 X 0 rfl dX11_waysAreSound_11 ?_
  refine s_getR (id := 442) X fk_X11_85 SHC_0 rfl dX11_waysAreSound_12 ?_
  refine s_const X (by unfold InR; omega) dX11_waysAreSound_15 ?_
  refine s_aaldI (id := 443) X (by omega) (Or.inl rfl) SHC_442 (by omega) (by omega) dX11_waysAreSound_16 ?_
  refine s_astore_n X rfl rfl (by omega) dX11_waysAreSound_17 ?_
  refine s_const X (by unfold InR; omega) dX11_waysAreSound_18 ?_
  obtain ⟨stop_, e7, h⟩ := ltv_elim h
  refine s_istore_n X e7 rfl (by omega) dX11_waysAreSound_19 ?_
  obtain ⟨stop_4, m_4, hl17, h⟩ := bq2_some h
  obtain ⟨fu80, hl18⟩ := loop_iter hl17
  have KX14 : ∀ q9 : Int × Mem, q9 = (stop_4, m_4) → J SHC G rm_X11_waysAreSound (.inl O) C 0 0 51 [(2, VI q9.1), (1, VR 443), (0, VR 0)] [] (q9.2) := by
    intro q9 e9
    subst e9
    show J SHC G rm_X11_waysAreSound (.inl O) C 0 0 51 [(2, VI stop_4), (1, VR 443), (0, VR 0)] [] m_4
    refine s_load0 X 2 rfl dX11_waysAreSound_51 ?_
    refine s_getR (id := 345) X fk_X11_58 SHC_0 rfl dX11_waysAreSound_52 ?_
    refine s_const X (by unfold InR; omega) dX11_waysAreSound_55 ?_
    refine s_sipush X (by omega) dX11_waysAreSound_56 ?_
    obtain ⟨m_5, hq32, h⟩ := bnd_some h
    refine s_callV (As := [VI 0, VI 480]) X cw_X11_294 SHC_345 rfl dX11_waysAreSound_59 (L_C_Search_goOnFromNearest G 0 480 m_4 m_5 hq32) rfl ⟨Nat.le_of_ble_eq_true rfl, Nat.le_of_ble_eq_true rfl⟩ ⟨Nat.le_of_ble_eq_true rfl, Nat.le_of_ble_eq_true rfl⟩ (Nat.le_of_ble_eq_true rfl) noT (kkU ?_)
    refine s_load0 X 2 rfl dX11_waysAreSound_62 ?_
    refine s_getR (id := 355) X fk_X11_65 SHC_0 rfl dX11_waysAreSound_63 ?_
    refine s_const X (by unfold InR; omega) dX11_waysAreSound_66 ?_
    refine s_sipush X (by omega) dX11_waysAreSound_67 ?_
    obtain ⟨m_6, hq36, h⟩ := bnd_some h
    refine s_callV (As := [VI 0, VI 480]) X cw_X11_297 SHC_355 rfl dX11_waysAreSound_70 (L_C_Rounds_fill G 0 480 m_5 m_6 hq36) rfl ⟨Nat.le_of_ble_eq_true rfl, Nat.le_of_ble_eq_true rfl⟩ ⟨Nat.le_of_ble_eq_true rfl, Nat.le_of_ble_eq_true rfl⟩ (Nat.le_of_ble_eq_true rfl) noT (kkU ?_)
    refine s_const X (by unfold InR; omega) dX11_waysAreSound_73 ?_
    obtain ⟨stop_5, e40, h⟩ := ltv_elim h
    refine s_istore_n X e40 rfl (by omega) dX11_waysAreSound_74 ?_
    obtain ⟨s48, hl50, h⟩ := br1_some h
    obtain ⟨fu410, hl51⟩ := loop_iter hl50
    have KR49 : ∀ q9 : (Int × Mem), .inr q9 = s48 → O = ((.inl (some (VI q9.1)), q9.2) : Res × Mem) := by
      intro q9 e9
      subst e9
      replace h := brm1_inr h
      exact (by cases h; exact hO)
    have KX47 : ∀ q9 : Int, .inl q9 = s48 → J SHC G rm_X11_waysAreSound (.inl O) C 0 0 125 [(2, VI q9), (1, VR 443), (0, VR 0)] [] m_6 := by
      intro q9 e9
      subst e9
      replace h := brm1_inl h
      obtain ⟨stop_8, e8⟩ : ∃ z, z = q9 := ⟨_, rfl⟩
      subst e8
      show J SHC G rm_X11_waysAreSound (.inl O) C 0 0 125 [(2, VI stop_8), (1, VR 443), (0, VR 0)] [] m_6
      refine s_const X (by unfold InR; omega) dX11_waysAreSound_125 ?_
      obtain ⟨stop_9, e74, h⟩ := ltv_elim h
      refine s_istore_n X e74 rfl (by omega) dX11_waysAreSound_126 ?_
      obtain ⟨s82, hl84, h⟩ := br2_some h
      obtain ⟨fu750, hl85⟩ := loop_iter hl84
      have KR83 : ∀ q9 : (Int × Mem), .inr q9 = s82 → O = ((.inl (some (VI q9.1)), q9.2) : Res × Mem) := by
        intro q9 e9
        subst e9
        replace h := brm2_inr h
        exact (by cases h; exact hO)
      have KX81 : ∀ q9 : Int × Mem, .inl q9 = s82 → J SHC G rm_X11_waysAreSound (.inl O) C 0 0 166 [(2, VI q9.1), (1, VR 443), (0, VR 0)] [] (q9.2) := by
        intro q9 e9
        subst e9
        obtain ⟨stop_13, m_9⟩ := q9
        replace h := brm2_inl h
        show J SHC G rm_X11_waysAreSound (.inl O) C 0 0 166 [(2, VI stop_13), (1, VR 443), (0, VR 0)] [] m_9
        refine s_const X (by unfold InR; omega) dX11_waysAreSound_166 ?_
        exact s_zret X (Or.inr rfl) (Nat.le_of_ble_eq_true rfl) (Nat.le_of_ble_eq_true rfl) (by cases h; exact hO) dX11_waysAreSound_167
      have LP80 : ∀ (fu75 : Nat) (stop_10 : Int) (m_7 : Mem), iter (fun s => C_waysAreSound_b3 s.1 s.2) fu75 (stop_10, m_7) = some s82 → J SHC G rm_X11_waysAreSound (.inl O) C 0 0 127 [(2, VI stop_10), (1, VR 443), (0, VR 0)] [] m_7 := by
        intro fu75
        induction fu75 with
        | zero => intro stop_10 m_7 hn76; exact absurd hn76 (by simp [iter])
        | succ fu75 ih79 =>
          intro stop_10 m_7 hn76
          obtain ⟨x77, h, hc78⟩ := iter_succ hn76
          replace h : C_waysAreSound_b3 stop_10 m_7 = some x77 := h
          unfold C_waysAreSound_b3 at h
          refine s_iload_n X 0 rfl dX11_waysAreSound_127 ?_
          refine s_load0 X 2 rfl dX11_waysAreSound_128 ?_
          refine s_getR (id := 1) X fk_X11_12 SHC_0 rfl dX11_waysAreSound_129 ?_
          refine s_getI X fk_X11_92 SHC_1 rfl dX11_waysAreSound_132 ?_
          refine s_icmpge_f (tgt := 166) X dX11_waysAreSound_135 (by omega) (fun c89 => ?_) (fun c90 => ?_)
          · replace h := ite_neg h c89
            exact KX81 _ (iter_exit h hc78)
          · replace h := ite_pos h c90
            obtain ⟨g91, h⟩ := grd_some h
            refine s_load0 X 1 rfl dX11_waysAreSound_138 ?_
            refine s_iload_n X 0 rfl dX11_waysAreSound_139 ?_
            refine s_iald X SHC_443 g91.1 g91.2 dX11_waysAreSound_140 ?_
            refine s_ldcW (z := 1000000) X (by unfold InR; omega) kc_X11_420 dX11_waysAreSound_141 ?_
            refine s_icmpge_f (tgt := 160) X dX11_waysAreSound_144 (by omega) (fun c94 => ?_) (fun c95 => ?_)
            · replace h := ite_neg h c94
              obtain ⟨g96, h⟩ := grd_some h
              obtain ⟨stop_11, e97, h⟩ := ltv_elim h
              refine s_iinc X 0 rfl g96 e97 rfl (by omega) dX11_waysAreSound_160 ?_
              refine s_goto (tgt := 127) X dX11_waysAreSound_163 (by omega) ?_
              exact ih79 _ _ (iter_next h hc78)
            · replace h := ite_pos h c95
              refine s_load0 X 2 rfl dX11_waysAreSound_147 ?_
              refine s_iload_n X 0 rfl dX11_waysAreSound_148 ?_
              refine s_load0 X 1 rfl dX11_waysAreSound_149 ?_
              refine s_iload_n X 0 rfl dX11_waysAreSound_150 ?_
              refine s_iald X SHC_443 g91.1 g91.2 dX11_waysAreSound_151 ?_
              obtain ⟨r_4, m_8, hq99, h⟩ := bq2_some h
              refine s_callV (As := [VI stop_10, VI (m_7 443 stop_10.toNat)]) X cw_X11_483 SHC_0 rfl dX11_waysAreSound_152 (L_C_lastIsSound G stop_10 (m_7 443 stop_10.toNat) m_7 (r_4, m_8) hq99) rfl ⟨Nat.le_of_ble_eq_true rfl, Nat.le_of_ble_eq_true rfl⟩ ⟨Nat.le_of_ble_eq_true rfl, Nat.le_of_ble_eq_true rfl⟩ (Nat.le_of_ble_eq_true rfl) noT (kkR ?_)
              refine s_ifne_t (tgt := 160) X dX11_waysAreSound_155 (by omega) (fun c102 => ?_) (fun c103 => ?_)
              · replace h := ite_pos h c102
                obtain ⟨g104, h⟩ := grd_some h
                obtain ⟨stop_12, e105, h⟩ := ltv_elim h
                refine s_iinc X 0 rfl g104 e105 rfl (by omega) dX11_waysAreSound_160 ?_
                refine s_goto (tgt := 127) X dX11_waysAreSound_163 (by omega) ?_
                exact ih79 _ _ (iter_next h hc78)
              · replace h := ite_neg h c103
                refine s_const X (by unfold InR; omega) dX11_waysAreSound_158 ?_
                exact s_zret X (Or.inl rfl) (Nat.le_of_ble_eq_true rfl) (Nat.le_of_ble_eq_true rfl) (KR83 _ (iter_exit h hc78)) dX11_waysAreSound_159
      exact LP80 _ _ _ hl85
    have LP46 : ∀ (fu41 : Nat) (stop_6 : Int), iter (fun s => C_waysAreSound_b2 m_6 s) fu41 stop_6 = some s48 → J SHC G rm_X11_waysAreSound (.inl O) C 0 0 75 [(2, VI stop_6), (1, VR 443), (0, VR 0)] [] m_6 := by
      intro fu41
      induction fu41 with
      | zero => intro stop_6 hn42; exact absurd hn42 (by simp [iter])
      | succ fu41 ih45 =>
        intro stop_6 hn42
        obtain ⟨x43, h, hc44⟩ := iter_succ hn42
        replace h : C_waysAreSound_b2 m_6 stop_6 = some x43 := h
        unfold C_waysAreSound_b2 at h
        refine s_iload_n X 0 rfl dX11_waysAreSound_75 ?_
        refine s_load0 X 2 rfl dX11_waysAreSound_76 ?_
        refine s_getR (id := 1) X fk_X11_12 SHC_0 rfl dX11_waysAreSound_77 ?_
        refine s_getI X fk_X11_92 SHC_1 rfl dX11_waysAreSound_80 ?_
        refine s_icmpge_f (tgt := 125) X dX11_waysAreSound_83 (by omega) (fun c55 => ?_) (fun c56 => ?_)
        · replace h := ite_neg h c55
          exact KX47 _ (iter_exit h hc44)
        · replace h := ite_pos h c56
          refine s_load0 X 2 rfl dX11_waysAreSound_86 ?_
          refine s_getR (id := 345) X fk_X11_58 SHC_0 rfl dX11_waysAreSound_87 ?_
          refine s_getR (id := 352) X fk_X11_286 SHC_345 rfl dX11_waysAreSound_90 ?_
          refine s_iload_n X 0 rfl dX11_waysAreSound_93 ?_
          obtain ⟨r_2, hq58, h⟩ := bnd_some h
          refine s_callV (As := [VI stop_6]) X cw_X11_290 (shLab labS) rfl dX11_waysAreSound_94 (L_C_Labels_at G 352 stop_6 m_6 r_2 labS hq58) rfl ⟨Nat.le_of_ble_eq_true rfl, Nat.le_of_ble_eq_true rfl⟩ ⟨Nat.le_of_ble_eq_true rfl, Nat.le_of_ble_eq_true rfl⟩ (Nat.le_of_ble_eq_true rfl) noT (kkR ?_)
          obtain ⟨g60, h⟩ := grd_some h
          refine s_load0 X 1 rfl dX11_waysAreSound_97 ?_
          refine s_iload_n X 0 rfl dX11_waysAreSound_98 ?_
          refine s_iald X SHC_443 g60.1 g60.2 dX11_waysAreSound_99 ?_
          refine s_icmpne_t (tgt := 117) X dX11_waysAreSound_100 (by omega) (fun c61 => ?_) (fun c62 => ?_)
          · replace h := ite_pos h c61
            refine s_const X (by unfold InR; omega) dX11_waysAreSound_117 ?_
            exact s_zret X (Or.inl rfl) (Nat.le_of_ble_eq_true rfl) (Nat.le_of_ble_eq_true rfl) (KR49 _ (iter_exit h hc44)) dX11_waysAreSound_118
          · replace h := ite_neg h c62
            refine s_load0 X 2 rfl dX11_waysAreSound_103 ?_
            refine s_getR (id := 355) X fk_X11_65 SHC_0 rfl dX11_waysAreSound_104 ?_
            refine s_iload_n X 0 rfl dX11_waysAreSound_107 ?_
            obtain ⟨r_3, hq65, h⟩ := bnd_some h
            refine s_callV (As := [VI stop_6]) X cw_X11_300 SHC_355 rfl dX11_waysAreSound_108 (L_C_Rounds_least G stop_6 m_6 r_3 hq65) rfl ⟨Nat.le_of_ble_eq_true rfl, Nat.le_of_ble_eq_true rfl⟩ ⟨Nat.le_of_ble_eq_true rfl, Nat.le_of_ble_eq_true rfl⟩ (Nat.le_of_ble_eq_true rfl) noT (kkR ?_)
            refine s_load0 X 1 rfl dX11_waysAreSound_111 ?_
            refine s_iload_n X 0 rfl dX11_waysAreSound_112 ?_
            refine s_iald X SHC_443 g60.1 g60.2 dX11_waysAreSound_113 ?_
            refine s_icmpeq_f (tgt := 119) X dX11_waysAreSound_114 (by omega) (fun c68 => ?_) (fun c69 => ?_)
            · replace h := ite_neg h c68
              obtain ⟨g70, h⟩ := grd_some h
              obtain ⟨stop_7, e71, h⟩ := ltv_elim h
              refine s_iinc X 0 rfl g70 e71 rfl (by omega) dX11_waysAreSound_119 ?_
              refine s_goto (tgt := 75) X dX11_waysAreSound_122 (by omega) ?_
              exact ih45 _ (iter_next h hc44)
            · replace h := ite_pos h c69
              refine s_const X (by unfold InR; omega) dX11_waysAreSound_117 ?_
              exact s_zret X (Or.inl rfl) (Nat.le_of_ble_eq_true rfl) (Nat.le_of_ble_eq_true rfl) (KR49 _ (iter_exit h hc44)) dX11_waysAreSound_118
    exact LP46 _ _ hl51
  have LP13 : ∀ (fu8 : Nat) (stop_2 : Int) (m_2 : Mem), iter (fun s => C_waysAreSound_b1 s.1 s.2) fu8 (stop_2, m_2) = some (stop_4, m_4) → J SHC G rm_X11_waysAreSound (.inl O) C 0 0 20 [(2, VI stop_2), (1, VR 443), (0, VR 0)] [] m_2 := by
    intro fu8
    induction fu8 with
    | zero => intro stop_2 m_2 hn9; exact absurd hn9 (by simp [iter])
    | succ fu8 ih12 =>
      intro stop_2 m_2 hn9
      obtain ⟨x10, h, hc11⟩ := iter_succ hn9
      replace h : C_waysAreSound_b1 stop_2 m_2 = some x10 := h
      unfold C_waysAreSound_b1 at h
      refine s_iload_n X 0 rfl dX11_waysAreSound_20 ?_
      refine s_load0 X 2 rfl dX11_waysAreSound_21 ?_
      refine s_getR (id := 1) X fk_X11_12 SHC_0 rfl dX11_waysAreSound_22 ?_
      refine s_getI X fk_X11_92 SHC_1 rfl dX11_waysAreSound_25 ?_
      refine s_icmpge_f (tgt := 51) X dX11_waysAreSound_28 (by omega) (fun c22 => ?_) (fun c23 => ?_)
      · replace h := ite_neg h c22
        exact KX14 _ (iter_exit h hc11)
      · replace h := ite_pos h c23
        obtain ⟨g24, h⟩ := grd_some h
        refine s_load0 X 1 rfl dX11_waysAreSound_31 ?_
        refine s_iload_n X 0 rfl dX11_waysAreSound_32 ?_
        refine s_load0 X 2 rfl dX11_waysAreSound_33 ?_
        refine s_getR (id := 345) X fk_X11_58 SHC_0 rfl dX11_waysAreSound_34 ?_
        refine s_getR (id := 352) X fk_X11_286 SHC_345 rfl dX11_waysAreSound_37 ?_
        refine s_iload_n X 0 rfl dX11_waysAreSound_40 ?_
        obtain ⟨r_, hq25, h⟩ := bnd_some h
        refine s_callV (As := [VI stop_2]) X cw_X11_290 (shLab labS) rfl dX11_waysAreSound_41 (L_C_Labels_at G 352 stop_2 m_2 r_ labS hq25) rfl ⟨Nat.le_of_ble_eq_true rfl, Nat.le_of_ble_eq_true rfl⟩ ⟨Nat.le_of_ble_eq_true rfl, Nat.le_of_ble_eq_true rfl⟩ (Nat.le_of_ble_eq_true rfl) noT (kkR ?_)
        obtain ⟨m_3, e28, h⟩ := ltv_elim h
        refine s_iast X e28 SHC_443 g24.1 g24.2 dX11_waysAreSound_44 ?_
        obtain ⟨g29, h⟩ := grd_some h
        obtain ⟨stop_3, e30, h⟩ := ltv_elim h
        refine s_iinc X 0 rfl g29 e30 rfl (by omega) dX11_waysAreSound_45 ?_
        refine s_goto (tgt := 20) X dX11_waysAreSound_48 (by omega) ?_
        exact ih12 _ _ (iter_next h hc11)
  exact LP13 _ _ _ hl18
set_option maxRecDepth 20000 in
set_option maxHeartbeats 4000000 in
theorem L_C_pairsAreSound (G : Gl) (to_ : Int) (m : Mem) (r : (Int × Mem))  (h : C_pairsAreSound to_ m = some r) : Con SHC G yX11_pairsAreSound cX11_pairsAreSound 4 (some .boolean) rm_X11_pairsAreSound [VR 0, VI to_] m (((.inl (some (VI r.1)), r.2) : Res × Mem)) := by
  refine con_of (own := "Lastbus") (by decide) rfl (Nat.le_of_ble_eq_true rfl) (fun C X => ?_)
  obtain ⟨O, hO⟩ : ∃ O : Res × Mem, O = (((.inl (some (VI r.1)), r.2) : Res × Mem)) := ⟨_, rfl⟩
  rw [← hO]
  show J SHC G rm_X11_pairsAreSound (.inl O) C 0 0 0 [(0, VR 0), (1, VI to_)] [] m
  unfold C_pairsAreSound at h
  refine s_load0 X 0 rfl dX11_pairsAreSound_0 ?_
  refine s_getR (id := 345) X fk_X11_58 SHC_0 rfl dX11_pairsAreSound_1 ?_
  refine s_const X (by unfold InR; omega) dX11_pairsAreSound_4 ?_
  refine s_iload_n X 1 rfl dX11_pairsAreSound_5 ?_
  obtain ⟨m_, hq2, h⟩ := bnd_some h
  refine s_callV (As := [VI 0, VI to_]) X cw_X11_352 SHC_345 rfl dX11_pairsAreSound_6 (L_C_Search_collectPairs G 0 to_ m m_ hq2) rfl ⟨Nat.le_of_ble_eq_true rfl, Nat.le_of_ble_eq_true rfl⟩ ⟨Nat.le_of_ble_eq_true rfl, Nat.le_of_ble_eq_true rfl⟩ (Nat.le_of_ble_eq_true rfl) noT (kkU ?_)
  refine s_const X (by unfold InR; omega) dX11_pairsAreSound_9 ?_
  obtain ⟨index_, e6, h⟩ := ltv_elim h
  refine s_istore_n X e6 rfl (by omega) dX11_pairsAreSound_10 ?_
  obtain ⟨s14, hl16, h⟩ := br1_some h
  obtain ⟨fu70, hl17⟩ := loop_iter hl16
  have KR15 : ∀ q9 : (Int × Mem), .inr q9 = s14 → O = ((.inl (some (VI q9.1)), q9.2) : Res × Mem) := by
    intro q9 e9
    subst e9
    replace h := brm1_inr h
    exact (by cases h; exact hO)
  have KX13 : ∀ q9 : Int, .inl q9 = s14 → J SHC G rm_X11_pairsAreSound (.inl O) C 0 0 86 [(2, VI q9), (0, VR 0), (1, VI to_)] [] m_ := by
    intro q9 e9
    subst e9
    replace h := brm1_inl h
    obtain ⟨index_4, e8⟩ : ∃ z, z = q9 := ⟨_, rfl⟩
    subst e8
    show J SHC G rm_X11_pairsAreSound (.inl O) C 0 0 86 [(2, VI index_4), (0, VR 0), (1, VI to_)] [] m_
    refine s_load0 X 1 rfl dX11_pairsAreSound_86 ?_
    refine s_getR (id := 345) X fk_X11_58 SHC_0 rfl dX11_pairsAreSound_87 ?_
    refine s_sipush X (by omega) dX11_pairsAreSound_90 ?_
    obtain ⟨r_, hq41, h⟩ := bnd_some h
    refine s_callV (As := [VI 480]) X cw_X11_355 SHC_345 rfl dX11_pairsAreSound_93 (L_C_Search_pairArrivalFrom G 480 m_ r_ hq41) rfl ⟨Nat.le_of_ble_eq_true rfl, Nat.le_of_ble_eq_true rfl⟩ ⟨Nat.le_of_ble_eq_true rfl, Nat.le_of_ble_eq_true rfl⟩ (Nat.le_of_ble_eq_true rfl) noT (kkR ?_)
    obtain ⟨byPair_, e44, h⟩ := ltv_elim h
    refine s_istore_n X e44 rfl (by omega) dX11_pairsAreSound_96 ?_
    refine s_load0 X 1 rfl dX11_pairsAreSound_97 ?_
    refine s_getR (id := 345) X fk_X11_58 SHC_0 rfl dX11_pairsAreSound_98 ?_
    refine s_const X (by unfold InR; omega) dX11_pairsAreSound_101 ?_
    refine s_sipush X (by omega) dX11_pairsAreSound_102 ?_
    obtain ⟨m_2, hq46, h⟩ := bnd_some h
    refine s_callV (As := [VI 0, VI 480]) X cw_X11_283 SHC_345 rfl dX11_pairsAreSound_105 (L_C_Search_scan G 0 480 m_ m_2 hq46) rfl ⟨Nat.le_of_ble_eq_true rfl, Nat.le_of_ble_eq_true rfl⟩ ⟨Nat.le_of_ble_eq_true rfl, Nat.le_of_ble_eq_true rfl⟩ (Nat.le_of_ble_eq_true rfl) noT (kkU ?_)
    obtain ⟨g49, h⟩ := grd_some h
    refine s_iload_n X 0 rfl dX11_pairsAreSound_108 ?_
    refine s_sipush X (by omega) dX11_pairsAreSound_109 ?_
    refine s_load0 X 1 rfl dX11_pairsAreSound_112 ?_
    refine s_getR (id := 1) X fk_X11_12 SHC_0 rfl dX11_pairsAreSound_113 ?_
    refine s_getR (id := 16) X fk_X11_125 SHC_1 rfl dX11_pairsAreSound_116 ?_
    refine s_const X (by unfold InR; omega) dX11_pairsAreSound_119 ?_
    refine s_aaldI (id := 17) X (by omega) (Or.inl rfl) SHC_16 (by omega) (by omega) dX11_pairsAreSound_120 ?_
    refine s_iload_n X 2 rfl dX11_pairsAreSound_121 ?_
    refine s_iald X SHC_17 g49.1 g49.2.1 dX11_pairsAreSound_122 ?_
    refine s_iadd X g49.2.2 dX11_pairsAreSound_123 ?_
    refine s_min X mm_X11_358 (Nat.le_of_ble_eq_true rfl) (Nat.le_of_ble_eq_true rfl) ⟨Nat.le_of_ble_eq_true rfl, Nat.le_of_ble_eq_true rfl⟩ dX11_pairsAreSound_124 ?_
    refine s_load0 X 1 rfl dX11_pairsAreSound_127 ?_
    refine s_getR (id := 345) X fk_X11_58 SHC_0 rfl dX11_pairsAreSound_128 ?_
    refine s_getR (id := 352) X fk_X11_286 SHC_345 rfl dX11_pairsAreSound_131 ?_
    refine s_iload_n X 2 rfl dX11_pairsAreSound_134 ?_
    obtain ⟨r_2, hq50, h⟩ := bnd_some h
    refine s_callV (As := [VI to_]) X cw_X11_290 (shLab labS) rfl dX11_pairsAreSound_135 (L_C_Labels_at G 352 to_ m_2 r_2 labS hq50) rfl ⟨Nat.le_of_ble_eq_true rfl, Nat.le_of_ble_eq_true rfl⟩ ⟨Nat.le_of_ble_eq_true rfl, Nat.le_of_ble_eq_true rfl⟩ (Nat.le_of_ble_eq_true rfl) noT (kkR ?_)
    refine s_icmpeq_t (tgt := 165) X dX11_pairsAreSound_138 (by omega) (fun c53 => ?_) (fun c54 => ?_)
    · replace h := ite_pos h c53
      refine s_const X (by unfold InR; omega) dX11_pairsAreSound_165 ?_
      refine s_goto (tgt := 170) X dX11_pairsAreSound_166 (by omega) ?_
      exact s_zret X (Or.inr rfl) (Nat.le_of_ble_eq_true rfl) (Nat.le_of_ble_eq_true rfl) (by cases h; exact hO) dX11_pairsAreSound_170
    · replace h := ite_neg h c54
      refine s_iload_n X 0 rfl dX11_pairsAreSound_141 ?_
      refine s_ldcW (z := 1000000) X (by unfold InR; omega) kc_X11_420 dX11_pairsAreSound_142 ?_
      refine s_icmplt_f (tgt := 169) X dX11_pairsAreSound_145 (by omega) (fun c59 => ?_) (fun c60 => ?_)
      · replace h := ite_neg h c59
        refine s_const X (by unfold InR; omega) dX11_pairsAreSound_169 ?_
        exact s_zret X (Or.inl rfl) (Nat.le_of_ble_eq_true rfl) (Nat.le_of_ble_eq_true rfl) (by cases h; exact hO) dX11_pairsAreSound_170
      · replace h := ite_pos h c60
        refine s_load0 X 1 rfl dX11_pairsAreSound_148 ?_
        refine s_getR (id := 345) X fk_X11_58 SHC_0 rfl dX11_pairsAreSound_149 ?_
        refine s_getR (id := 352) X fk_X11_286 SHC_345 rfl dX11_pairsAreSound_152 ?_
        refine s_iload_n X 2 rfl dX11_pairsAreSound_155 ?_
        obtain ⟨r_3, hq63, h⟩ := bnd_some h
        refine s_callV (As := [VI to_]) X cw_X11_290 (shLab labS) rfl dX11_pairsAreSound_156 (L_C_Labels_at G 352 to_ m_2 r_3 labS hq63) rfl ⟨Nat.le_of_ble_eq_true rfl, Nat.le_of_ble_eq_true rfl⟩ ⟨Nat.le_of_ble_eq_true rfl, Nat.le_of_ble_eq_true rfl⟩ (Nat.le_of_ble_eq_true rfl) noT (kkR ?_)
        refine s_ldcW (z := 1000000) X (by unfold InR; omega) kc_X11_420 dX11_pairsAreSound_159 ?_
        refine s_icmplt_f (tgt := 169) X dX11_pairsAreSound_162 (by omega) (fun c66 => ?_) (fun c67 => ?_)
        · replace h := ite_neg h c66
          refine s_const X (by unfold InR; omega) dX11_pairsAreSound_169 ?_
          exact s_zret X (Or.inl rfl) (Nat.le_of_ble_eq_true rfl) (Nat.le_of_ble_eq_true rfl) (by cases h; exact hO) dX11_pairsAreSound_170
        · replace h := ite_pos h c67
          refine s_const X (by unfold InR; omega) dX11_pairsAreSound_165 ?_
          refine s_goto (tgt := 170) X dX11_pairsAreSound_166 (by omega) ?_
          exact s_zret X (Or.inr rfl) (Nat.le_of_ble_eq_true rfl) (Nat.le_of_ble_eq_true rfl) (by cases h; exact hO) dX11_pairsAreSound_170
  have LP12 : ∀ (fu7 : Nat) (index_2 : Int), iter (fun s => C_pairsAreSound_b1 m_ s) fu7 index_2 = some s14 → J SHC G rm_X11_pairsAreSound (.inl O) C 0 0 11 [(2, VI index_2), (0, VR 0), (1, VI to_)] [] m_ := by
    intro fu7
    induction fu7 with
    | zero => intro index_2 hn8; exact absurd hn8 (by simp [iter])
    | succ fu7 ih11 =>
      intro index_2 hn8
      obtain ⟨x9, h, hc10⟩ := iter_succ hn8
      replace h : C_pairsAreSound_b1 m_ index_2 = some x9 := h
      unfold C_pairsAreSound_b1 at h
      refine s_iload_n X 0 rfl dX11_pairsAreSound_11 ?_
      refine s_load0 X 1 rfl dX11_pairsAreSound_12 ?_
      refine s_getR (id := 345) X fk_X11_58 SHC_0 rfl dX11_pairsAreSound_13 ?_
      refine s_getI X fk_X11_341 SHC_345 rfl dX11_pairsAreSound_16 ?_
      refine s_icmpge_f (tgt := 86) X dX11_pairsAreSound_19 (by omega) (fun c21 => ?_) (fun c22 => ?_)
      · replace h := ite_neg h c21
        exact KX13 _ (iter_exit h hc10)
      · replace h := ite_pos h c22
        obtain ⟨g23, h⟩ := grd_some h
        have kM24 : J SHC G rm_X11_pairsAreSound (.inl O) C 0 0 50 [(2, VI index_2), (0, VR 0), (1, VI to_)] [VI (if m_ 350 (index_2 - 1).toNat < m_ 350 index_2.toNat then 1 else 0)] m_ := by
          obtain ⟨leavesLater_, e27, h⟩ := ltv_elim h
          refine s_istore_n X e27 rfl (by omega) dX11_pairsAreSound_50 ?_
          obtain ⟨g28, h⟩ := grd_some h
          have kT29 : (leavesLater_ = 0) ∨ (m_ 351 index_2.toNat ≤ m_ 351 (index_2 - 1).toNat) → J SHC G rm_X11_pairsAreSound (.inl O) C 0 0 78 [(3, VI leavesLater_), (2, VI index_2), (0, VR 0), (1, VI to_)] [] m_ := by
            intro c34
            replace h := ite_pos h c34
            refine s_const X (by unfold InR; omega) dX11_pairsAreSound_78 ?_
            exact s_zret X (Or.inl rfl) (Nat.le_of_ble_eq_true rfl) (Nat.le_of_ble_eq_true rfl) (KR15 _ (iter_exit h hc10)) dX11_pairsAreSound_79
          refine s_iload_n X 0 rfl dX11_pairsAreSound_51 ?_
          refine s_ifeq_t (tgt := 78) X dX11_pairsAreSound_52 (by omega) (fun c31 => ?_) (fun c32 => ?_)
          · exact kT29 (Or.inl c31)
          · have a35 : ¬ (leavesLater_ = 0) := c32
            refine s_load0 X 2 rfl dX11_pairsAreSound_55 ?_
            refine s_getR (id := 345) X fk_X11_58 SHC_0 rfl dX11_pairsAreSound_56 ?_
            refine s_getR (id := 351) X fk_X11_346 SHC_345 rfl dX11_pairsAreSound_59 ?_
            refine s_iload_n X 1 rfl dX11_pairsAreSound_62 ?_
            refine s_iald X SHC_351 (g28.1 a35) (g28.2.1 a35) dX11_pairsAreSound_63 ?_
            refine s_load0 X 2 rfl dX11_pairsAreSound_64 ?_
            refine s_getR (id := 345) X fk_X11_58 SHC_0 rfl dX11_pairsAreSound_65 ?_
            refine s_getR (id := 351) X fk_X11_346 SHC_345 rfl dX11_pairsAreSound_68 ?_
            refine s_iload_n X 1 rfl dX11_pairsAreSound_71 ?_
            refine s_const X (by unfold InR; omega) dX11_pairsAreSound_72 ?_
            refine s_isub X (g28.2.2.1 a35) dX11_pairsAreSound_73 ?_
            refine s_iald X SHC_351 (g28.2.2.2.1 a35) (g28.2.2.2.2 a35) dX11_pairsAreSound_74 ?_
            refine s_icmpgt_f (tgt := 80) X dX11_pairsAreSound_75 (by omega) (fun c36 => ?_) (fun c37 => ?_)
            · replace h := ite_neg h (fun q => q.elim a35 c36)
              obtain ⟨g38, h⟩ := grd_some h
              obtain ⟨index_3, e39, h⟩ := ltv_elim h
              refine s_iinc X 1 rfl g38 e39 rfl (by omega) dX11_pairsAreSound_80 ?_
              refine s_goto (tgt := 11) X dX11_pairsAreSound_83 (by omega) ?_
              refine s_loc [0, 2, 3] rfl ?_
              exact ih11 _ (iter_next h hc10)
            · exact kT29 (Or.inr c37)
        refine s_load0 X 1 rfl dX11_pairsAreSound_22 ?_
        refine s_getR (id := 345) X fk_X11_58 SHC_0 rfl dX11_pairsAreSound_23 ?_
        refine s_getR (id := 350) X fk_X11_349 SHC_345 rfl dX11_pairsAreSound_26 ?_
        refine s_iload_n X 0 rfl dX11_pairsAreSound_29 ?_
        refine s_iald X SHC_350 g23.1 g23.2.1 dX11_pairsAreSound_30 ?_
        refine s_load0 X 1 rfl dX11_pairsAreSound_31 ?_
        refine s_getR (id := 345) X fk_X11_58 SHC_0 rfl dX11_pairsAreSound_32 ?_
        refine s_getR (id := 350) X fk_X11_349 SHC_345 rfl dX11_pairsAreSound_35 ?_
        refine s_iload_n X 0 rfl dX11_pairsAreSound_38 ?_
        refine s_const X (by unfold InR; omega) dX11_pairsAreSound_39 ?_
        refine s_isub X g23.2.2.1 dX11_pairsAreSound_40 ?_
        refine s_iald X SHC_350 g23.2.2.2.1 g23.2.2.2.2 dX11_pairsAreSound_41 ?_
        refine s_icmple_f (tgt := 49) X dX11_pairsAreSound_42 (by omega) (fun c25 => ?_) (fun c26 => ?_)
        · refine s_const X (by unfold InR; omega) dX11_pairsAreSound_49 ?_
          exact s_eqt (if_neg c25) kM24
        · refine s_const X (by unfold InR; omega) dX11_pairsAreSound_45 ?_
          refine s_goto (tgt := 50) X dX11_pairsAreSound_46 (by omega) ?_
          exact s_eqt (if_pos c26) kM24
  exact LP12 _ _ hl17
set_option maxRecDepth 20000 in
set_option maxHeartbeats 4000000 in
theorem L_C_isSound (G : Gl) (day_ : Int) (m : Mem) (r : ((Int ⊕ Nat) × Mem))  (h : C_isSound day_ m = some r) : Con SHC G yX11_isSound cX11_isSound 2 (some .boolean) rm_X11_isSound [VR 0, VI day_] m (oT wI r) := by
  refine con_of (own := "Lastbus") (by decide) rfl (Nat.le_of_ble_eq_true rfl) (fun C X => ?_)
  obtain ⟨O, hO⟩ : ∃ O : Res × Mem, O = (oT wI r) := ⟨_, rfl⟩
  rw [← hO]
  show J SHC G rm_X11_isSound (.inl O) C 0 0 0 [(0, VR 0), (1, VI day_)] [] m
  unfold C_isSound at h
  refine s_iload_n X 1 rfl dX11_isSound_0 ?_
  obtain ⟨q3, hq2, h⟩ := bnd_some h
  refine s_callS (As := [VI day_]) X cw_X11_140 dX11_isSound_1 (L_C_needDay G day_ m q3 hq2) rfl ⟨Nat.le_of_ble_eq_true rfl, Nat.le_of_ble_eq_true rfl⟩ ⟨Nat.le_of_ble_eq_true rfl, Nat.le_of_ble_eq_true rfl⟩ (Nat.le_of_ble_eq_true rfl) (thr_up hO h) (kkT fun u_ m_ e9 => ?_)
  subst e9
  replace h := tbd_inl h
  refine s_load0 X 0 rfl dX11_isSound_4 ?_
  refine s_getR (id := 119) X fk_X11_49 SHC_0 rfl dX11_isSound_5 ?_
  refine s_iload_n X 1 rfl dX11_isSound_8 ?_
  refine s_const X (by unfold InR; omega) dX11_isSound_9 ?_
  refine s_const X (by unfold InR; omega) dX11_isSound_10 ?_
  obtain ⟨m_2, hq6, h⟩ := bnd_some h
  refine s_callV (As := [VI day_, VI (-1), VI 0]) X cw_X11_280 SHC_119 rfl dX11_isSound_11 (L_C_Net_lay G day_ (-1) 0 m_ m_2 hq6) rfl ⟨Nat.le_of_ble_eq_true rfl, Nat.le_of_ble_eq_true rfl⟩ ⟨Nat.le_of_ble_eq_true rfl, Nat.le_of_ble_eq_true rfl⟩ (Nat.le_of_ble_eq_true rfl) noT (kkU ?_)
  refine s_load0 X 0 rfl dX11_isSound_14 ?_
  refine s_getR (id := 1) X fk_X11_12 SHC_0 rfl dX11_isSound_15 ?_
  refine s_getI X fk_X11_92 SHC_1 rfl dX11_isSound_18 ?_
  refine s_ifle_f (tgt := 33) X dX11_isSound_21 (by omega) (fun c12 => ?_) (fun c13 => ?_)
  · replace h := ite_neg h c12
    refine s_load0 X 0 rfl dX11_isSound_33 ?_
    refine s_getR (id := 1) X fk_X11_12 SHC_0 rfl dX11_isSound_34 ?_
    refine s_getI X fk_X11_92 SHC_1 rfl dX11_isSound_37 ?_
    refine s_const X (by unfold InR; omega) dX11_isSound_40 ?_
    refine s_icmple_f (tgt := 62) X dX11_isSound_41 (by omega) (fun c17 => ?_) (fun c18 => ?_)
    · replace h := ite_neg h c17
      refine s_load0 X 0 rfl dX11_isSound_62 ?_
      refine s_getR (id := 431) X fk_X11_79 SHC_0 rfl dX11_isSound_63 ?_
      refine s_load0 X 0 rfl dX11_isSound_66 ?_
      refine s_getR (id := 29) X fk_X11_19 SHC_0 rfl dX11_isSound_67 ?_
      refine s_load0 X 0 rfl dX11_isSound_70 ?_
      refine s_getR (id := 31) X fk_X11_26 SHC_0 rfl dX11_isSound_71 ?_
      refine s_iload_n X 1 rfl dX11_isSound_74 ?_
      obtain ⟨m_3, hq20, h⟩ := bnd_some h
      refine s_callV (As := [VR 29, VR 31, VI day_]) X cw_X11_398 SHC_431 rfl dX11_isSound_75 (L_C_Fleet_gather G day_ m_2 m_3 hq20) rfl ⟨Nat.le_of_ble_eq_true rfl, Nat.le_of_ble_eq_true rfl⟩ ⟨Nat.le_of_ble_eq_true rfl, Nat.le_of_ble_eq_true rfl⟩ (Nat.le_of_ble_eq_true rfl) noT (kkU ?_)
      refine s_load0 X 0 rfl dX11_isSound_78 ?_
      refine s_getR (id := 431) X fk_X11_79 SHC_0 rfl dX11_isSound_79 ?_
      refine s_load0 X 0 rfl dX11_isSound_82 ?_
      refine s_getR (id := 1) X fk_X11_12 SHC_0 rfl dX11_isSound_83 ?_
      refine s_getI X fk_X11_92 SHC_1 rfl dX11_isSound_86 ?_
      obtain ⟨r_, m_4, hq24, h⟩ := bq2_some h
      refine s_callV (As := [VI (m_3 1 0)]) X cw_X11_402 SHC_431 rfl dX11_isSound_89 (L_C_Fleet_countByTimes G (m_3 1 0) m_3 (r_, m_4) hq24) rfl ⟨Nat.le_of_ble_eq_true rfl, Nat.le_of_ble_eq_true rfl⟩ ⟨Nat.le_of_ble_eq_true rfl, Nat.le_of_ble_eq_true rfl⟩ (Nat.le_of_ble_eq_true rfl) noT (kkR ?_)
      refine s_load0 X 0 rfl dX11_isSound_92 ?_
      refine s_getR (id := 431) X fk_X11_79 SHC_0 rfl dX11_isSound_93 ?_
      obtain ⟨r_2, m_5, hq27, h⟩ := bq2_some h
      refine s_callV (As := []) X cw_X11_405 SHC_431 rfl dX11_isSound_96 (L_C_Fleet_countByMatching G m_4 (r_2, m_5) hq27) rfl ⟨Nat.le_of_ble_eq_true rfl, Nat.le_of_ble_eq_true rfl⟩ ⟨Nat.le_of_ble_eq_true rfl, Nat.le_of_ble_eq_true rfl⟩ (Nat.le_of_ble_eq_true rfl) noT (kkR ?_)
      refine s_icmpne_f (tgt := 106) X dX11_isSound_99 (by omega) (fun c30 => ?_) (fun c31 => ?_)
      · replace h := ite_neg h c30
        refine s_const X (by unfold InR; omega) dX11_isSound_106 ?_
        exact s_zret X (Or.inl rfl) (Nat.le_of_ble_eq_true rfl) (Nat.le_of_ble_eq_true rfl) (by cases h; exact hO) dX11_isSound_107
      · replace h := ite_pos h c31
        refine s_const X (by unfold InR; omega) dX11_isSound_102 ?_
        refine s_goto (tgt := 107) X dX11_isSound_103 (by omega) ?_
        exact s_zret X (Or.inr rfl) (Nat.le_of_ble_eq_true rfl) (Nat.le_of_ble_eq_true rfl) (by cases h; exact hO) dX11_isSound_107
    · replace h := ite_pos h c18
      obtain ⟨g34, h⟩ := grd_some h
      refine s_load0 X 0 rfl dX11_isSound_44 ?_
      refine s_load0 X 0 rfl dX11_isSound_45 ?_
      refine s_getR (id := 1) X fk_X11_12 SHC_0 rfl dX11_isSound_46 ?_
      refine s_getI X fk_X11_92 SHC_1 rfl dX11_isSound_49 ?_
      refine s_const X (by unfold InR; omega) dX11_isSound_52 ?_
      refine s_isub X g34 dX11_isSound_53 ?_
      obtain ⟨r_3, m_6, hq35, h⟩ := bq2_some h
      refine s_callV (As := [VI (m_2 1 0 - 1)]) X cw_X11_438 SHC_0 rfl dX11_isSound_54 (L_C_pairsAreSound G (m_2 1 0 - 1) m_2 (r_3, m_6) hq35) rfl ⟨Nat.le_of_ble_eq_true rfl, Nat.le_of_ble_eq_true rfl⟩ ⟨Nat.le_of_ble_eq_true rfl, Nat.le_of_ble_eq_true rfl⟩ (Nat.le_of_ble_eq_true rfl) noT (kkR ?_)
      refine s_ifne_t (tgt := 62) X dX11_isSound_57 (by omega) (fun c38 => ?_) (fun c39 => ?_)
      · replace h := ite_pos h c38
        refine s_load0 X 0 rfl dX11_isSound_62 ?_
        refine s_getR (id := 431) X fk_X11_79 SHC_0 rfl dX11_isSound_63 ?_
        refine s_load0 X 0 rfl dX11_isSound_66 ?_
        refine s_getR (id := 29) X fk_X11_19 SHC_0 rfl dX11_isSound_67 ?_
        refine s_load0 X 0 rfl dX11_isSound_70 ?_
        refine s_getR (id := 31) X fk_X11_26 SHC_0 rfl dX11_isSound_71 ?_
        refine s_iload_n X 1 rfl dX11_isSound_74 ?_
        obtain ⟨m_7, hq41, h⟩ := bnd_some h
        refine s_callV (As := [VR 29, VR 31, VI day_]) X cw_X11_398 SHC_431 rfl dX11_isSound_75 (L_C_Fleet_gather G day_ m_6 m_7 hq41) rfl ⟨Nat.le_of_ble_eq_true rfl, Nat.le_of_ble_eq_true rfl⟩ ⟨Nat.le_of_ble_eq_true rfl, Nat.le_of_ble_eq_true rfl⟩ (Nat.le_of_ble_eq_true rfl) noT (kkU ?_)
        refine s_load0 X 0 rfl dX11_isSound_78 ?_
        refine s_getR (id := 431) X fk_X11_79 SHC_0 rfl dX11_isSound_79 ?_
        refine s_load0 X 0 rfl dX11_isSound_82 ?_
        refine s_getR (id := 1) X fk_X11_12 SHC_0 rfl dX11_isSound_83 ?_
        refine s_getI X fk_X11_92 SHC_1 rfl dX11_isSound_86 ?_
        obtain ⟨r_4, m_8, hq45, h⟩ := bq2_some h
        refine s_callV (As := [VI (m_7 1 0)]) X cw_X11_402 SHC_431 rfl dX11_isSound_89 (L_C_Fleet_countByTimes G (m_7 1 0) m_7 (r_4, m_8) hq45) rfl ⟨Nat.le_of_ble_eq_true rfl, Nat.le_of_ble_eq_true rfl⟩ ⟨Nat.le_of_ble_eq_true rfl, Nat.le_of_ble_eq_true rfl⟩ (Nat.le_of_ble_eq_true rfl) noT (kkR ?_)
        refine s_load0 X 0 rfl dX11_isSound_92 ?_
        refine s_getR (id := 431) X fk_X11_79 SHC_0 rfl dX11_isSound_93 ?_
        obtain ⟨r_5, m_9, hq48, h⟩ := bq2_some h
        refine s_callV (As := []) X cw_X11_405 SHC_431 rfl dX11_isSound_96 (L_C_Fleet_countByMatching G m_8 (r_5, m_9) hq48) rfl ⟨Nat.le_of_ble_eq_true rfl, Nat.le_of_ble_eq_true rfl⟩ ⟨Nat.le_of_ble_eq_true rfl, Nat.le_of_ble_eq_true rfl⟩ (Nat.le_of_ble_eq_true rfl) noT (kkR ?_)
        refine s_icmpne_f (tgt := 106) X dX11_isSound_99 (by omega) (fun c51 => ?_) (fun c52 => ?_)
        · replace h := ite_neg h c51
          refine s_const X (by unfold InR; omega) dX11_isSound_106 ?_
          exact s_zret X (Or.inl rfl) (Nat.le_of_ble_eq_true rfl) (Nat.le_of_ble_eq_true rfl) (by cases h; exact hO) dX11_isSound_107
        · replace h := ite_pos h c52
          refine s_const X (by unfold InR; omega) dX11_isSound_102 ?_
          refine s_goto (tgt := 107) X dX11_isSound_103 (by omega) ?_
          exact s_zret X (Or.inr rfl) (Nat.le_of_ble_eq_true rfl) (Nat.le_of_ble_eq_true rfl) (by cases h; exact hO) dX11_isSound_107
      · replace h := ite_neg h c39
        refine s_const X (by unfold InR; omega) dX11_isSound_60 ?_
        exact s_zret X (Or.inl rfl) (Nat.le_of_ble_eq_true rfl) (Nat.le_of_ble_eq_true rfl) (by cases h; exact hO) dX11_isSound_61
  · replace h := ite_pos h c13
    refine s_load0 X 0 rfl dX11_isSound_24 ?_
    obtain ⟨r_6, m_10, hq57, h⟩ := bq2_some h
    refine s_callV (As := []) X cw_X11_435 SHC_0 rfl dX11_isSound_25 (L_C_waysAreSound G m_2 (r_6, m_10) hq57) rfl ⟨Nat.le_of_ble_eq_true rfl, Nat.le_of_ble_eq_true rfl⟩ ⟨Nat.le_of_ble_eq_true rfl, Nat.le_of_ble_eq_true rfl⟩ (Nat.le_of_ble_eq_true rfl) noT (kkR ?_)
    refine s_ifne_t (tgt := 33) X dX11_isSound_28 (by omega) (fun c60 => ?_) (fun c61 => ?_)
    · replace h := ite_pos h c60
      refine s_load0 X 0 rfl dX11_isSound_33 ?_
      refine s_getR (id := 1) X fk_X11_12 SHC_0 rfl dX11_isSound_34 ?_
      refine s_getI X fk_X11_92 SHC_1 rfl dX11_isSound_37 ?_
      refine s_const X (by unfold InR; omega) dX11_isSound_40 ?_
      refine s_icmple_f (tgt := 62) X dX11_isSound_41 (by omega) (fun c65 => ?_) (fun c66 => ?_)
      · replace h := ite_neg h c65
        refine s_load0 X 0 rfl dX11_isSound_62 ?_
        refine s_getR (id := 431) X fk_X11_79 SHC_0 rfl dX11_isSound_63 ?_
        refine s_load0 X 0 rfl dX11_isSound_66 ?_
        refine s_getR (id := 29) X fk_X11_19 SHC_0 rfl dX11_isSound_67 ?_
        refine s_load0 X 0 rfl dX11_isSound_70 ?_
        refine s_getR (id := 31) X fk_X11_26 SHC_0 rfl dX11_isSound_71 ?_
        refine s_iload_n X 1 rfl dX11_isSound_74 ?_
        obtain ⟨m_11, hq68, h⟩ := bnd_some h
        refine s_callV (As := [VR 29, VR 31, VI day_]) X cw_X11_398 SHC_431 rfl dX11_isSound_75 (L_C_Fleet_gather G day_ m_10 m_11 hq68) rfl ⟨Nat.le_of_ble_eq_true rfl, Nat.le_of_ble_eq_true rfl⟩ ⟨Nat.le_of_ble_eq_true rfl, Nat.le_of_ble_eq_true rfl⟩ (Nat.le_of_ble_eq_true rfl) noT (kkU ?_)
        refine s_load0 X 0 rfl dX11_isSound_78 ?_
        refine s_getR (id := 431) X fk_X11_79 SHC_0 rfl dX11_isSound_79 ?_
        refine s_load0 X 0 rfl dX11_isSound_82 ?_
        refine s_getR (id := 1) X fk_X11_12 SHC_0 rfl dX11_isSound_83 ?_
        refine s_getI X fk_X11_92 SHC_1 rfl dX11_isSound_86 ?_
        obtain ⟨r_7, m_12, hq72, h⟩ := bq2_some h
        refine s_callV (As := [VI (m_11 1 0)]) X cw_X11_402 SHC_431 rfl dX11_isSound_89 (L_C_Fleet_countByTimes G (m_11 1 0) m_11 (r_7, m_12) hq72) rfl ⟨Nat.le_of_ble_eq_true rfl, Nat.le_of_ble_eq_true rfl⟩ ⟨Nat.le_of_ble_eq_true rfl, Nat.le_of_ble_eq_true rfl⟩ (Nat.le_of_ble_eq_true rfl) noT (kkR ?_)
        refine s_load0 X 0 rfl dX11_isSound_92 ?_
        refine s_getR (id := 431) X fk_X11_79 SHC_0 rfl dX11_isSound_93 ?_
        obtain ⟨r_8, m_13, hq75, h⟩ := bq2_some h
        refine s_callV (As := []) X cw_X11_405 SHC_431 rfl dX11_isSound_96 (L_C_Fleet_countByMatching G m_12 (r_8, m_13) hq75) rfl ⟨Nat.le_of_ble_eq_true rfl, Nat.le_of_ble_eq_true rfl⟩ ⟨Nat.le_of_ble_eq_true rfl, Nat.le_of_ble_eq_true rfl⟩ (Nat.le_of_ble_eq_true rfl) noT (kkR ?_)
        refine s_icmpne_f (tgt := 106) X dX11_isSound_99 (by omega) (fun c78 => ?_) (fun c79 => ?_)
        · replace h := ite_neg h c78
          refine s_const X (by unfold InR; omega) dX11_isSound_106 ?_
          exact s_zret X (Or.inl rfl) (Nat.le_of_ble_eq_true rfl) (Nat.le_of_ble_eq_true rfl) (by cases h; exact hO) dX11_isSound_107
        · replace h := ite_pos h c79
          refine s_const X (by unfold InR; omega) dX11_isSound_102 ?_
          refine s_goto (tgt := 107) X dX11_isSound_103 (by omega) ?_
          exact s_zret X (Or.inr rfl) (Nat.le_of_ble_eq_true rfl) (Nat.le_of_ble_eq_true rfl) (by cases h; exact hO) dX11_isSound_107
      · replace h := ite_pos h c66
        obtain ⟨g82, h⟩ := grd_some h
        refine s_load0 X 0 rfl dX11_isSound_44 ?_
        refine s_load0 X 0 rfl dX11_isSound_45 ?_
        refine s_getR (id := 1) X fk_X11_12 SHC_0 rfl dX11_isSound_46 ?_
        refine s_getI X fk_X11_92 SHC_1 rfl dX11_isSound_49 ?_
        refine s_const X (by unfold InR; omega) dX11_isSound_52 ?_
        refine s_isub X g82 dX11_isSound_53 ?_
        obtain ⟨r_9, m_14, hq83, h⟩ := bq2_some h
        refine s_callV (As := [VI (m_10 1 0 - 1)]) X cw_X11_438 SHC_0 rfl dX11_isSound_54 (L_C_pairsAreSound G (m_10 1 0 - 1) m_10 (r_9, m_14) hq83) rfl ⟨Nat.le_of_ble_eq_true rfl, Nat.le_of_ble_eq_true rfl⟩ ⟨Nat.le_of_ble_eq_true rfl, Nat.le_of_ble_eq_true rfl⟩ (Nat.le_of_ble_eq_true rfl) noT (kkR ?_)
        refine s_ifne_t (tgt := 62) X dX11_isSound_57 (by omega) (fun c86 => ?_) (fun c87 => ?_)
        · replace h := ite_pos h c86
          refine s_load0 X 0 rfl dX11_isSound_62 ?_
          refine s_getR (id := 431) X fk_X11_79 SHC_0 rfl dX11_isSound_63 ?_
          refine s_load0 X 0 rfl dX11_isSound_66 ?_
          refine s_getR (id := 29) X fk_X11_19 SHC_0 rfl dX11_isSound_67 ?_
          refine s_load0 X 0 rfl dX11_isSound_70 ?_
          refine s_getR (id := 31) X fk_X11_26 SHC_0 rfl dX11_isSound_71 ?_
          refine s_iload_n X 1 rfl dX11_isSound_74 ?_
          obtain ⟨m_15, hq89, h⟩ := bnd_some h
          refine s_callV (As := [VR 29, VR 31, VI day_]) X cw_X11_398 SHC_431 rfl dX11_isSound_75 (L_C_Fleet_gather G day_ m_14 m_15 hq89) rfl ⟨Nat.le_of_ble_eq_true rfl, Nat.le_of_ble_eq_true rfl⟩ ⟨Nat.le_of_ble_eq_true rfl, Nat.le_of_ble_eq_true rfl⟩ (Nat.le_of_ble_eq_true rfl) noT (kkU ?_)
          refine s_load0 X 0 rfl dX11_isSound_78 ?_
          refine s_getR (id := 431) X fk_X11_79 SHC_0 rfl dX11_isSound_79 ?_
          refine s_load0 X 0 rfl dX11_isSound_82 ?_
          refine s_getR (id := 1) X fk_X11_12 SHC_0 rfl dX11_isSound_83 ?_
          refine s_getI X fk_X11_92 SHC_1 rfl dX11_isSound_86 ?_
          obtain ⟨r_10, m_16, hq93, h⟩ := bq2_some h
          refine s_callV (As := [VI (m_15 1 0)]) X cw_X11_402 SHC_431 rfl dX11_isSound_89 (L_C_Fleet_countByTimes G (m_15 1 0) m_15 (r_10, m_16) hq93) rfl ⟨Nat.le_of_ble_eq_true rfl, Nat.le_of_ble_eq_true rfl⟩ ⟨Nat.le_of_ble_eq_true rfl, Nat.le_of_ble_eq_true rfl⟩ (Nat.le_of_ble_eq_true rfl) noT (kkR ?_)
          refine s_load0 X 0 rfl dX11_isSound_92 ?_
          refine s_getR (id := 431) X fk_X11_79 SHC_0 rfl dX11_isSound_93 ?_
          obtain ⟨r_11, m_17, hq96, h⟩ := bq2_some h
          refine s_callV (As := []) X cw_X11_405 SHC_431 rfl dX11_isSound_96 (L_C_Fleet_countByMatching G m_16 (r_11, m_17) hq96) rfl ⟨Nat.le_of_ble_eq_true rfl, Nat.le_of_ble_eq_true rfl⟩ ⟨Nat.le_of_ble_eq_true rfl, Nat.le_of_ble_eq_true rfl⟩ (Nat.le_of_ble_eq_true rfl) noT (kkR ?_)
          refine s_icmpne_f (tgt := 106) X dX11_isSound_99 (by omega) (fun c99 => ?_) (fun c100 => ?_)
          · replace h := ite_neg h c99
            refine s_const X (by unfold InR; omega) dX11_isSound_106 ?_
            exact s_zret X (Or.inl rfl) (Nat.le_of_ble_eq_true rfl) (Nat.le_of_ble_eq_true rfl) (by cases h; exact hO) dX11_isSound_107
          · replace h := ite_pos h c100
            refine s_const X (by unfold InR; omega) dX11_isSound_102 ?_
            refine s_goto (tgt := 107) X dX11_isSound_103 (by omega) ?_
            exact s_zret X (Or.inr rfl) (Nat.le_of_ble_eq_true rfl) (Nat.le_of_ble_eq_true rfl) (by cases h; exact hO) dX11_isSound_107
        · replace h := ite_neg h c87
          refine s_const X (by unfold InR; omega) dX11_isSound_60 ?_
          exact s_zret X (Or.inl rfl) (Nat.le_of_ble_eq_true rfl) (Nat.le_of_ble_eq_true rfl) (by cases h; exact hO) dX11_isSound_61
    · replace h := ite_neg h c61
      refine s_const X (by unfold InR; omega) dX11_isSound_31 ?_
      exact s_zret X (Or.inl rfl) (Nat.le_of_ble_eq_true rfl) (Nat.le_of_ble_eq_true rfl) (by cases h; exact hO) dX11_isSound_32
