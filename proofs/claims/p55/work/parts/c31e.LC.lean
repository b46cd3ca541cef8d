/-! ===== printed by a program out of the Java source and the decode rows: 31e.LC ===== -/
set_option maxRecDepth 20000 in
set_option maxHeartbeats 4000000 in
theorem L_C_isSound (G : Gl) (day_ : Int) (m : Mem) (r : ((Int ⊕ Nat) × Mem))  (h : C_isSound day_ m = some r) : Con SHC G yX11_isSound cX11_isSound 2 (some .boolean) rm_X11_isSound [VR 0, VI day_] m (oT wI r) := by
  refine con_of (own := "Lastbus") (by decide) rfl (Nat.le_of_ble_eq_true rfl) (fun C X => ?_)
  obtain ⟨O, hO⟩ : ∃ O : Res × Mem, O = (oT wI r) := ⟨_, rfl⟩
  rw [← hO]
  show J SHC G rm_X11_isSound (.inl O) C 0 0 0 [(0, VR 0), (1, VI day_)] [] m
  unfold C_isSound at h
  refine s_iload_n X 1 rfl dX11_isSound_0 ?_
  obtain ⟨q3, hq2, h⟩ := bnd_some h
  refine s_callS (As := [VI day_]) X cw_X11_140 dX11_isSound_1 (L_C_needDay G day_ m q3 hq2) rfl ⟨Nat.le_of_ble_eq_true rfl, Nat.le_of_ble_eq_true rfl⟩ ⟨Nat.le_of_ble_eq_true rfl, Nat.le_of_ble_eq_true rfl⟩ (Nat.le_of_ble_eq_true rfl) (thr_up hO h) (kkT fun u_ m_ e9 => ?_)
  subst e9
  replace h := tbd_inl h
  refine s_load0 X 0 rfl dX11_isSound_4 ?_
  refine s_getR (id := 119) X fk_X11_49 SHC_0 rfl dX11_isSound_5 ?_
  refine s_iload_n X 1 rfl dX11_isSound_8 ?_
  refine s_const X (by unfold InR; omega) dX11_isSound_9 ?_
  refine s_const X (by unfold InR; omega) dX11_isSound_10 ?_
  obtain ⟨m_2, hq6, h⟩ := bnd_some h
  refine s_callV (As := [VI day_, VI (-1), VI 0]) X cw_X11_280 SHC_119 rfl dX11_isSound_11 (L_C_Net_lay G day_ (-1) 0 m_ m_2 hq6) rfl ⟨Nat.le_of_ble_eq_true rfl, Nat.le_of_ble_eq_true rfl⟩ ⟨Nat.le_of_ble_eq_true rfl, Nat.le_of_ble_eq_true rfl⟩ (Nat.le_of_ble_eq_true rfl) noT (kkU ?_)
  refine s_load0 X 0 rfl dX11_isSound_14 ?_
  refine s_getR (id := 1) X fk_X11_12 SHC_0 rfl dX11_isSound_15 ?_
  refine s_getI X fk_X11_92 SHC_1 rfl dX11_isSound_18 ?_
  refine s_ifle_f (tgt := 33) X dX11_isSound_21 (by omega) (fun c12 => ?_) (fun c13 => ?_)
  · replace h := ite_neg h c12
    refine s_load0 X 0 rfl dX11_isSound_33 ?_
    refine s_getR (id := 1) X fk_X11_12 SHC_0 rfl dX11_isSound_34 ?_
    refine s_getI X fk_X11_92 SHC_1 rfl dX11_isSound_37 ?_
    refine s_const X (by unfold InR; omega) dX11_isSound_40 ?_
    refine s_icmple_f (tgt := 62) X dX11_isSound_41 (by omega) (fun c17 => ?_) (fun c18 => ?_)
    · replace h := ite_neg h c17
      refine s_load0 X 0 rfl dX11_isSound_62 ?_
      refine s_getR (id := 431) X fk_X11_79 SHC_0 rfl dX11_isSound_63 ?_
      refine s_load0 X 0 rfl dX11_isSound_66 ?_
      refine s_getR (id := 29) X fk_X11_19 SHC_0 rfl dX11_isSound_67 ?_
      refine s_load0 X 0 rfl dX11_isSound_70 ?_
      refine s_getR (id := 31) X fk_X11_26 SHC_0 rfl dX11_isSound_71 ?_
      refine s_iload_n X 1 rfl dX11_isSound_74 ?_
      obtain ⟨m_3, hq20, h⟩ := bnd_some h
      refine s_callV (As := [VR 29, VR 31, VI day_]) X cw_X11_398 SHC_431 rfl dX11_isSound_75 (L_C_Fleet_gather G day_ m_2 m_3 hq20) rfl ⟨Nat.le_of_ble_eq_true rfl, Nat.le_of_ble_eq_true rfl⟩ ⟨Nat.le_of_ble_eq_true rfl, Nat.le_of_ble_eq_true rfl⟩ (Nat.le_of_ble_eq_true rfl) noT (kkU ?_)
      refine s_load0 X 0 rfl dX11_isSound_78 ?_
      refine s_getR (id := 431) X fk_X11_79 SHC_0 rfl dX11_isSound_79 ?_
      refine s_load0 X 0 rfl dX11_isSound_82 ?_
      refine s_getR (id := 1) X fk_X11_12 SHC_0 rfl dX11_isSound_83 ?_
      refine s_getI X fk_X11_92 SHC_1 rfl dX11_isSound_86 ?_
      obtain ⟨r_, m_4, hq24, h⟩ := bq2_some h
      refine s_callV (As := [VI (m_3 1 0)]) X cw_X11_402 SHC_431 rfl dX11_isSound_89 (L_C_Fleet_countByTimes G (m_3 1 0) m_3 (r_, m_4) hq24) rfl ⟨Nat.le_of_ble_eq_true rfl, Nat.le_of_ble_eq_true rfl⟩ ⟨Nat.le_of_ble_eq_true rfl, Nat.le_of_ble_eq_true rfl⟩ (Nat.le_of_ble_eq_true rfl) noT (kkR ?_)
      refine s_load0 X 0 rfl dX11_isSound_92 ?_
      refine s_getR (id := 431) X fk_X11_79 SHC_0 rfl dX11_isSound_93 ?_
      obtain ⟨r_2, m_5, hq27, h⟩ := bq2_some h
      refine s_callV (As := []) X cw_X11_405 SHC_431 rfl dX11_isSound_96 (L_C_Fleet_countByMatching G m_4 (r_2, m_5) hq27) rfl ⟨Nat.le_of_ble_eq_true rfl, Nat.le_of_ble_eq_true rfl⟩ ⟨Nat.le_of_ble_eq_true rfl, Nat.le_of_ble_eq_true rfl⟩ (Nat.le_of_ble_eq_true rfl) noT (kkR ?_)
      refine s_icmpne_f (tgt := 106) X dX11_isSound_99 (by omega) (fun c30 => ?_) (fun c31 => ?_)
      · replace h := ite_neg h c30
        refine s_const X (by unfold InR; omega) dX11_isSound_106 ?_
        exact s_zret X (Or.inl rfl) (Nat.le_of_ble_eq_true rfl) (Nat.le_of_ble_eq_true rfl) (by cases h; exact hO) dX11_isSound_107
      · replace h := ite_pos h c31
        refine s_const X (by unfold InR; omega) dX11_isSound_102 ?_
        refine s_goto (tgt := 107) X dX11_isSound_103 (by omega) ?_
        exact s_zret X (Or.inr rfl) (Nat.le_of_ble_eq_true rfl) (Nat.le_of_ble_eq_true rfl) (by cases h; exact hO) dX11_isSound_107
    · replace h := ite_pos h c18
      obtain ⟨g34, h⟩ := grd_some h
      refine s_load0 X 0 rfl dX11_isSound_44 ?_
      refine s_load0 X 0 rfl dX11_isSound_45 ?_
      refine s_getR (id := 1) X fk_X11_12 SHC_0 rfl dX11_isSound_46 ?_
      refine s_getI X fk_X11_92 SHC_1 rfl dX11_isSound_49 ?_
      refine s_const X (by unfold InR; omega) dX11_isSound_52 ?_
      refine s_isub X g34 dX11_isSound_53 ?_
      obtain ⟨r_3, m_6, hq35, h⟩ := bq2_some h
      refine s_callV (As := [VI (m_2 1 0 - 1)]) X cw_X11_438 SHC_0 rfl dX11_isSound_54 (L_C_pairsAreSound G (m_2 1 0 - 1) m_2 (r_3, m_6) hq35) rfl ⟨Nat.le_of_ble_eq_true rfl, Nat.le_of_ble_eq_true rfl⟩ ⟨Nat.le_of_ble_eq_true rfl, Nat.le_of_ble_eq_true rfl⟩ (Nat.le_of_ble_eq_true rfl) noT (kkR ?_)
      refine s_ifne_t (tgt := 62) X dX11_isSound_57 (by omega) (fun c38 => ?_) (fun c39 => ?_)
      · replace h := ite_pos h c38
        refine s_load0 X 0 rfl dX11_isSound_62 ?_
        refine s_getR (id := 431) X fk_X11_79 SHC_0 rfl dX11_isSound_63 ?_
        refine s_load0 X 0 rfl dX11_isSound_66 ?_
        refine s_getR (id := 29) X fk_X11_19 SHC_0 rfl dX11_isSound_67 ?_
        refine s_load0 X 0 rfl dX11_isSound_70 ?_
        refine s_getR (id := 31) X fk_X11_26 SHC_0 rfl dX11_isSound_71 ?_
        refine s_iload_n X 1 rfl dX11_isSound_74 ?_
        obtain ⟨m_7, hq41, h⟩ := bnd_some h
        refine s_callV (As := [VR 29, VR 31, VI day_]) X cw_X11_398 SHC_431 rfl dX11_isSound_75 (L_C_Fleet_gather G day_ m_6 m_7 hq41) rfl ⟨Nat.le_of_ble_eq_true rfl, Nat.le_of_ble_eq_true rfl⟩ ⟨Nat.le_of_ble_eq_true rfl, Nat.le_of_ble_eq_true rfl⟩ (Nat.le_of_ble_eq_true rfl) noT (kkU ?_)
        refine s_load0 X 0 rfl dX11_isSound_78 ?_
        refine s_getR (id := 431) X fk_X11_79 SHC_0 rfl dX11_isSound_79 ?_
        refine s_load0 X 0 rfl dX11_isSound_82 ?_
        refine s_getR (id := 1) X fk_X11_12 SHC_0 rfl dX11_isSound_83 ?_
        refine s_getI X fk_X11_92 SHC_1 rfl dX11_isSound_86 ?_
        obtain ⟨r_4, m_8, hq45, h⟩ := bq2_some h
        refine s_callV (As := [VI (m_7 1 0)]) X cw_X11_402 SHC_431 rfl dX11_isSound_89 (L_C_Fleet_countByTimes G (m_7 1 0) m_7 (r_4, m_8) hq45) rfl ⟨Nat.le_of_ble_eq_true rfl, Nat.le_of_ble_eq_true rfl⟩ ⟨Nat.le_of_ble_eq_true rfl, Nat.le_of_ble_eq_true rfl⟩ (Nat.le_of_ble_eq_true rfl) noT (kkR ?_)
        refine s_load0 X 0 rfl dX11_isSound_92 ?_
        refine s_getR (id := 431) X fk_X11_79 SHC_0 rfl dX11_isSound_93 ?_
        obtain ⟨r_5, m_9, hq48, h⟩ := bq2_some h
        refine s_callV (As := []) X cw_X11_405 SHC_431 rfl dX11_isSound_96 (L_C_Fleet_countByMatching G m_8 (r_5, m_9) hq48) rfl ⟨Nat.le_of_ble_eq_true rfl, Nat.le_of_ble_eq_true rfl⟩ ⟨Nat.le_of_ble_eq_true rfl, Nat.le_of_ble_eq_true rfl⟩ (Nat.le_of_ble_eq_true rfl) noT (kkR ?_)
        refine s_icmpne_f (tgt := 106) X dX11_isSound_99 (by omega) (fun c51 => ?_) (fun c52 => ?_)
        · replace h := ite_neg h c51
          refine s_const X (by unfold InR; omega) dX11_isSound_106 ?_
          exact s_zret X (Or.inl rfl) (Nat.le_of_ble_eq_true rfl) (Nat.le_of_ble_eq_true rfl) (by cases h; exact hO) dX11_isSound_107
        · replace h := ite_pos h c52
          refine s_const X (by unfold InR; omega) dX11_isSound_102 ?_
          refine s_goto (tgt := 107) X dX11_isSound_103 (by omega) ?_
          exact s_zret X (Or.inr rfl) (Nat.le_of_ble_eq_true rfl) (Nat.le_of_ble_eq_true rfl) (by cases h; exact hO) dX11_isSound_107
      · replace h := ite_neg h c39
        refine s_const X (by unfold InR; omega) dX11_isSound_60 ?_
        exact s_zret X (Or.inl rfl) (Nat.le_of_ble_eq_true rfl) (Nat.le_of_ble_eq_true rfl) (by cases h; exact hO) dX11_isSound_61
  · replace h := ite_pos h c13
    refine s_load0 X 0 rfl dX11_isSound_24 ?_
    obtain ⟨r_6, m_10, hq57, h⟩ := bq2_some h
    refine s_callV (As := []) X cw_X11_435 SHC_0 rfl dX11_isSound_25 (L_C_waysAreSound G m_2 (r_6, m_10) hq57) rfl ⟨Nat.le_of_ble_eq_true rfl, Nat.le_of_ble_eq_true rfl⟩ ⟨Nat.le_of_ble_eq_true rfl, Nat.le_of_ble_eq_true rfl⟩ (Nat.le_of_ble_eq_true rfl) noT (kkR ?_)
    refine s_ifne_t (tgt := 33) X dX11_isSound_28 (by omega) (fun c60 => ?_) (fun c61 => ?_)
    · replace h := ite_pos h c60
      refine s_load0 X 0 rfl dX11_isSound_33 ?_
      refine s_getR (id := 1) X fk_X11_12 SHC_0 rfl dX11_isSound_34 ?_
      refine s_getI X fk_X11_92 SHC_1 rfl dX11_isSound_37 ?_
      refine s_const X (by unfold InR; omega) dX11_isSound_40 ?_
      refine s_icmple_f (tgt := 62) X dX11_isSound_41 (by omega) (fun c65 => ?_) (fun c66 => ?_)
      · replace h := ite_neg h c65
        refine s_load0 X 0 rfl dX11_isSound_62 ?_
        refine s_getR (id := 431) X fk_X11_79 SHC_0 rfl dX11_isSound_63 ?_
        refine s_load0 X 0 rfl dX11_isSound_66 ?_
        refine s_getR (id := 29) X fk_X11_19 SHC_0 rfl dX11_isSound_67 ?_
        refine s_load0 X 0 rfl dX11_isSound_70 ?_
        refine s_getR (id := 31) X fk_X11_26 SHC_0 rfl dX11_isSound_71 ?_
        refine s_iload_n X 1 rfl dX11_isSound_74 ?_
        obtain ⟨m_11, hq68, h⟩ := bnd_some h
        refine s_callV (As := [VR 29, VR 31, VI day_]) X cw_X11_398 SHC_431 rfl dX11_isSound_75 (L_C_Fleet_gather G day_ m_10 m_11 hq68) rfl ⟨Nat.le_of_ble_eq_true rfl, Nat.le_of_ble_eq_true rfl⟩ ⟨Nat.le_of_ble_eq_true rfl, Nat.le_of_ble_eq_true rfl⟩ (Nat.le_of_ble_eq_true rfl) noT (kkU ?_)
        refine s_load0 X 0 rfl dX11_isSound_78 ?_
        refine s_getR (id := 431) X fk_X11_79 SHC_0 rfl dX11_isSound_79 ?_
        refine s_load0 X 0 rfl dX11_isSound_82 ?_
        refine s_getR (id := 1) X fk_X11_12 SHC_0 rfl dX11_isSound_83 ?_
        refine s_getI X fk_X11_92 SHC_1 rfl dX11_isSound_86 ?_
        obtain ⟨r_7, m_12, hq72, h⟩ := bq2_some h
        refine s_callV (As := [VI (m_11 1 0)]) X cw_X11_402 SHC_431 rfl dX11_isSound_89 (L_C_Fleet_countByTimes G (m_11 1 0) m_11 (r_7, m_12) hq72) rfl ⟨Nat.le_of_ble_eq_true rfl, Nat.le_of_ble_eq_true rfl⟩ ⟨Nat.le_of_ble_eq_true rfl, Nat.le_of_ble_eq_true rfl⟩ (Nat.le_of_ble_eq_true rfl) noT (kkR ?_)
        refine s_load0 X 0 rfl dX11_isSound_92 ?_
        refine s_getR (id := 431) X fk_X11_79 SHC_0 rfl dX11_isSound_93 ?_
        obtain ⟨r_8, m_13, hq75, h⟩ := bq2_some h
        refine s_callV (As := []) X cw_X11_405 SHC_431 rfl dX11_isSound_96 (L_C_Fleet_countByMatching G m_12 (r_8, m_13) hq75) rfl ⟨Nat.le_of_ble_eq_true rfl, Nat.le_of_ble_eq_true rfl⟩ ⟨Nat.le_of_ble_eq_true rfl, Nat.le_of_ble_eq_true rfl⟩ (Nat.le_of_ble_eq_true rfl) noT (kkR ?_)
        refine s_icmpne_f (tgt := 106) X dX11_isSound_99 (by omega) (fun c78 => ?_) (fun c79 => ?_)
        · replace h := ite_neg h c78
          refine s_const X (by unfold InR; omega) dX11_isSound_106 ?_
          exact s_zret X (Or.inl rfl) (Nat.le_of_ble_eq_true rfl) (Nat.le_of_ble_eq_true rfl) (by cases h; exact hO) dX11_isSound_107
        · replace h := ite_pos h c79
          refine s_const X (by unfold InR; omega) dX11_isSound_102 ?_
          refine s_goto (tgt := 107) X dX11_isSound_103 (by omega) ?_
          exact s_zret X (Or.inr rfl) (Nat.le_of_ble_eq_true rfl) (Nat.le_of_ble_eq_true rfl) (by cases h; exact hO) dX11_isSound_107
      · replace h := ite_pos h c66
        obtain ⟨g82, h⟩ := grd_some h
        refine s_load0 X 0 rfl dX11_isSound_44 ?_
        refine s_load0 X 0 rfl dX11_isSound_45 ?_
        refine s_getR (id := 1) X fk_X11_12 SHC_0 rfl dX11_isSound_46 ?_
        refine s_getI X fk_X11_92 SHC_1 rfl dX11_isSound_49 ?_
        refine s_const X (by unfold InR; omega) dX11_isSound_52 ?_
        refine s_isub X g82 dX11_isSound_53 ?_
        obtain ⟨r_9, m_14, hq83, h⟩ := bq2_some h
        refine s_callV (As := [VI (m_10 1 0 - 1)]) X cw_X11_438 SHC_0 rfl dX11_isSound_54 (L_C_pairsAreSound G (m_10 1 0 - 1) m_10 (r_9, m_14) hq83) rfl ⟨Nat.le_of_ble_eq_true rfl, Nat.le_of_ble_eq_true rfl⟩ ⟨Nat.le_of_ble_eq_true rfl, Nat.le_of_ble_eq_true rfl⟩ (Nat.le_of_ble_eq_true rfl) noT (kkR ?_)
        refine s_ifne_t (tgt := 62) X dX11_isSound_57 (by omega) (fun c86 => ?_) (fun c87 => ?_)
        · replace h := ite_pos h c86
          refine s_load0 X 0 rfl dX11_isSound_62 ?_
          refine s_getR (id := 431) X fk_X11_79 SHC_0 rfl dX11_isSound_63 ?_
          refine s_load0 X 0 rfl dX11_isSound_66 ?_
          refine s_getR (id := 29) X fk_X11_19 SHC_0 rfl dX11_isSound_67 ?_
          refine s_load0 X 0 rfl dX11_isSound_70 ?_
          refine s_getR (id := 31) X fk_X11_26 SHC_0 rfl dX11_isSound_71 ?_
          refine s_iload_n X 1 rfl dX11_isSound_74 ?_
          obtain ⟨m_15, hq89, h⟩ := bnd_some h
          refine s_callV (As := [VR 29, VR 31, VI day_]) X cw_X11_398 SHC_431 rfl dX11_isSound_75 (L_C_Fleet_gather G day_ m_14 m_15 hq89) rfl ⟨Nat.le_of_ble_eq_true rfl, Nat.le_of_ble_eq_true rfl⟩ ⟨Nat.le_of_ble_eq_true rfl, Nat.le_of_ble_eq_true rfl⟩ (Nat.le_of_ble_eq_true rfl) noT (kkU ?_)
          refine s_load0 X 0 rfl dX11_isSound_78 ?_
          refine s_getR (id := 431) X fk_X11_79 SHC_0 rfl dX11_isSound_79 ?_
          refine s_load0 X 0 rfl dX11_isSound_82 ?_
          refine s_getR (id := 1) X fk_X11_12 SHC_0 rfl dX11_isSound_83 ?_
          refine s_getI X fk_X11_92 SHC_1 rfl dX11_isSound_86 ?_
          obtain ⟨r_10, m_16, hq93, h⟩ := bq2_some h
          refine s_callV (As := [VI (m_15 1 0)]) X cw_X11_402 SHC_431 rfl dX11_isSound_89 (L_C_Fleet_countByTimes G (m_15 1 0) m_15 (r_10, m_16) hq93) rfl ⟨Nat.le_of_ble_eq_true rfl, Nat.le_of_ble_eq_true rfl⟩ ⟨Nat.le_of_ble_eq_true rfl, Nat.le_of_ble_eq_true rfl⟩ (Nat.le_of_ble_eq_true rfl) noT (kkR ?_)
          refine s_load0 X 0 rfl dX11_isSound_92 ?_
          refine s_getR (id := 431) X fk_X11_79 SHC_0 rfl dX11_isSound_93 ?_
          obtain ⟨r_11, m_17, hq96, h⟩ := bq2_some h
          refine s_callV (As := []) X cw_X11_405 SHC_431 rfl dX11_isSound_96 (L_C_Fleet_countByMatching G m_16 (r_11, m_17) hq96) rfl ⟨Nat.le_of_ble_eq_true rfl, Nat.le_of_ble_eq_true rfl⟩ ⟨Nat.le_of_ble_eq_true rfl, Nat.le_of_ble_eq_true rfl⟩ (Nat.le_of_ble_eq_true rfl) noT (kkR ?_)
          refine s_icmpne_f (tgt := 106) X dX11_isSound_99 (by omega) (fun c99 => ?_) (fun c100 => ?_)
          · replace h := ite_neg h c99
            refine s_const X (by unfold InR; omega) dX11_isSound_106 ?_
            exact s_zret X (Or.inl rfl) (Nat.le_of_ble_eq_true rfl) (Nat.le_of_ble_eq_true rfl) (by cases h; exact hO) dX11_isSound_107
          · replace h := ite_pos h c100
            refine s_const X (by unfold InR; omega) dX11_isSound_102 ?_
            refine s_goto (tgt := 107) X dX11_isSound_103 (by omega) ?_
            exact s_zret X (Or.inr rfl) (Nat.le_of_ble_eq_true rfl) (Nat.le_of_ble_eq_true rfl) (by cases h; exact hO) dX11_isSound_107
        · replace h := ite_neg h c87
          refine s_const X (by unfold InR; omega) dX11_isSound_60 ?_
          exact s_zret X (Or.inl rfl) (Nat.le_of_ble_eq_true rfl) (Nat.le_of_ble_eq_true rfl) (by cases h; exact hO) dX11_isSound_61
    · replace h := ite_neg h c61
      refine s_const X (by unfold InR; omega) dX11_isSound_31 ?_
      exact s_zret X (Or.inl rfl) (Nat.le_of_ble_eq_true rfl) (Nat.le_of_ble_eq_true rfl) (by cases h; exact hO) dX11_isSound_32
