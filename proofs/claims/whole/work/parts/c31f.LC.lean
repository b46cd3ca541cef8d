/-! ===== printed by a program out of the Java source and the decode rows: 31f.LC ===== -/
set_option maxRecDepth 20000 in
set_option maxHeartbeats 4000000 in
theorem L_C_Wishes_cost (G : Gl) (day_ : Int) (mask_ : Int) (m : Mem) (r : Int)  (h : C_Wishes_cost day_ mask_ m = some r) : Con SHC G yX10_cost cX10_cost 6 (some .int) rm_X10_cost [VR 400, VI day_, VI mask_] m (((.inl (some (VI r)), m) : Res × Mem)) := by
  refine con_of (own := "Lastbus$Wishes") (by decide) rfl (Nat.le_of_ble_eq_true rfl) (fun C X => ?_)
  obtain ⟨O, hO⟩ : ∃ O : Res × Mem, O = (((.inl (some (VI r)), m) : Res × Mem)) := ⟨_, rfl⟩
  rw [← hO]
  show J SHC G rm_X10_cost (.inl O) C 0 0 0 [(0, VR 400), (1, VI day_), (2, VI mask_)] [] m
  unfold C_Wishes_cost at h
  refine s_const X (by unfold InR; omega) dX10_cost_0 ?_
  obtain ⟨sum_, e2, h⟩ := ltv_elim h
  refine s_istore_n X e2 rfl (by omega) dX10_cost_1 ?_
  refine s_const X (by unfold InR; omega) dX10_cost_2 ?_
  obtain ⟨index_, e4, h⟩ := ltv_elim h
  refine s_istore X e4 rfl (by omega) dX10_cost_3 ?_
  obtain ⟨sum_4, index_6, hl14, h⟩ := bq2_some h
  obtain ⟨fu50, hl15⟩ := loop_iter hl14
  have KX11 : ∀ q9 : Int × Int, q9 = (sum_4, index_6) → J SHC G rm_X10_cost (.inl O) C 0 0 77 [(4, VI q9.2), (3, VI q9.1), (0, VR 400), (1, VI day_), (2, VI mask_)] [] m := by
    intro q9 e9
    subst e9
    show J SHC G rm_X10_cost (.inl O) C 0 0 77 [(4, VI index_6), (3, VI sum_4), (0, VR 400), (1, VI day_), (2, VI mask_)] [] m
    refine s_const X (by unfold InR; omega) dX10_cost_77 ?_
    obtain ⟨wish_, e43, h⟩ := ltv_elim h
    refine s_istore X e43 rfl (by omega) dX10_cost_78 ?_
    obtain ⟨sum_7, wish_6, hl53, h⟩ := bq2_some h
    obtain ⟨fu440, hl54⟩ := loop_iter hl53
    have KX50 : ∀ q9 : Int × Int, q9 = (sum_7, wish_6) → J SHC G rm_X10_cost (.inl O) C 0 0 148 [(4, VI q9.2), (3, VI q9.1), (0, VR 400), (1, VI day_), (2, VI mask_)] [] m := by
      intro q9 e9
      subst e9
      show J SHC G rm_X10_cost (.inl O) C 0 0 148 [(4, VI wish_6), (3, VI sum_7), (0, VR 400), (1, VI day_), (2, VI mask_)] [] m
      refine s_iload_n X 1 rfl dX10_cost_148 ?_
      exact s_iret X (Nat.le_of_ble_eq_true rfl) (Nat.le_of_ble_eq_true rfl) (by cases h; exact hO) dX10_cost_149
    have LP49 : ∀ (fu44 : Nat) (sum_5 : Int) (wish_2 : Int), iter (fun s => C_Wishes_cost_b2 day_ mask_ m s.1 s.2) fu44 (sum_5, wish_2) = some (sum_7, wish_6) → J SHC G rm_X10_cost (.inl O) C 0 0 80 [(4, VI wish_2), (3, VI sum_5), (0, VR 400), (1, VI day_), (2, VI mask_)] [] m := by
      intro fu44
      induction fu44 with
      | zero => intro sum_5 wish_2 hn45; exact absurd hn45 (by simp [iter])
      | succ fu44 ih48 =>
        intro sum_5 wish_2 hn45
        obtain ⟨x46, h, hc47⟩ := iter_succ hn45
        replace h : C_Wishes_cost_b2 day_ mask_ m sum_5 wish_2 = some x46 := h
        unfold C_Wishes_cost_b2 at h
        refine s_iload X 0 rfl dX10_cost_80 ?_
        refine s_load0 X 2 rfl dX10_cost_82 ?_
        refine s_getI X fk_X10_48 SHC_400 rfl dX10_cost_83 ?_
        refine s_icmpge_f (tgt := 148) X dX10_cost_86 (by omega) (fun c58 => ?_) (fun c59 => ?_)
        · replace h := ite_neg h c58
          exact KX50 _ (iter_exit h hc47)
        · replace h := ite_pos h c59
          obtain ⟨kj_, hk61, h⟩ := ltv_elim h
          have K62 : ∀ (v_ : Int), kj_ v_ = some x46 → J SHC G rm_X10_cost (.inl O) C 0 0 113 [(4, VI wish_2), (3, VI sum_5), (0, VR 400), (1, VI day_), (2, VI mask_)] [VI v_] m := by
            intro v_ h
            subst hk61
            dsimp only at h
            obtain ⟨isLeft_, e77, h⟩ := ltv_elim h
            refine s_istore X e77 rfl (by omega) dX10_cost_113 ?_
            refine s_iload X 0 rfl dX10_cost_115 ?_
            refine s_ifeq_f (tgt := 142) X dX10_cost_117 (by omega) (fun c81 => ?_) (fun c82 => ?_)
            · replace h := ite_neg h c81
              obtain ⟨g83, h⟩ := grd_some h
              obtain ⟨wish_3, e84, h⟩ := ltv_elim h
              refine s_iinc X 1 rfl g83 e84 rfl (by omega) dX10_cost_142 ?_
              refine s_goto (tgt := 80) X dX10_cost_145 (by omega) ?_
              refine s_loc [0, 2, 3, 4, 5] rfl ?_
              exact ih48 _ _ (iter_next h hc47)
            · replace h := ite_pos h c82
              refine s_load0 X 3 rfl dX10_cost_120 ?_
              refine s_iload X 1 rfl dX10_cost_121 ?_
              obtain ⟨r_3, hq86, h⟩ := bnd_some h
              refine s_callV (As := [VI wish_2]) X cw_X10_94 SHC_400 rfl dX10_cost_123 (L_C_Wishes_gap G wish_2 m r_3 hq86) rfl ⟨Nat.le_of_ble_eq_true rfl, Nat.le_of_ble_eq_true rfl⟩ ⟨Nat.le_of_ble_eq_true rfl, Nat.le_of_ble_eq_true rfl⟩ (Nat.le_of_ble_eq_true rfl) noT (kkR ?_)
              refine s_ifle_f (tgt := 142) X dX10_cost_126 (by omega) (fun c89 => ?_) (fun c90 => ?_)
              · replace h := ite_neg h c89
                obtain ⟨g91, h⟩ := grd_some h
                obtain ⟨wish_4, e92, h⟩ := ltv_elim h
                refine s_iinc X 1 rfl g91 e92 rfl (by omega) dX10_cost_142 ?_
                refine s_goto (tgt := 80) X dX10_cost_145 (by omega) ?_
                refine s_loc [0, 2, 3, 4, 5] rfl ?_
                exact ih48 _ _ (iter_next h hc47)
              · replace h := ite_pos h c90
                obtain ⟨g93, h⟩ := grd_some h
                refine s_iload_n X 2 rfl dX10_cost_129 ?_
                refine s_bipush X (by omega) dX10_cost_130 ?_
                refine s_load0 X 3 rfl dX10_cost_132 ?_
                refine s_getR (id := 405) X fk_X10_24 SHC_400 rfl dX10_cost_133 ?_
                refine s_iload X 1 rfl dX10_cost_136 ?_
                refine s_iald X SHC_405 g93.1 g93.2.1 dX10_cost_138 ?_
                refine s_imul X g93.2.2.1 dX10_cost_139 ?_
                refine s_iadd X g93.2.2.2 dX10_cost_140 ?_
                obtain ⟨sum_6, e94, h⟩ := ltv_elim h
                refine s_istore_n X e94 rfl (by omega) dX10_cost_141 ?_
                obtain ⟨g95, h⟩ := grd_some h
                obtain ⟨wish_5, e96, h⟩ := ltv_elim h
                refine s_iinc X 2 rfl g95 e96 rfl (by omega) dX10_cost_142 ?_
                refine s_goto (tgt := 80) X dX10_cost_145 (by omega) ?_
                refine s_loc [0, 1, 3, 4, 5] rfl ?_
                exact ih48 _ _ (iter_next h hc47)
          refine s_iload_n X 4 rfl dX10_cost_89 ?_
          refine s_iload X 0 rfl dX10_cost_90 ?_
          refine s_ishr X dX10_cost_92 ?_
          refine s_const X (by unfold InR; omega) dX10_cost_93 ?_
          refine s_iand X dX10_cost_94 ?_
          refine s_ifne_f (tgt := 112) X dX10_cost_95 (by omega) (fun c65 => ?_) (fun c66 => ?_)
          · replace h := ite_neg h c65
            refine s_const X (by unfold InR; omega) dX10_cost_112 ?_
            exact s_kn rfl rfl (K62 _ h)
          · replace h := ite_pos h c66
            refine s_load0 X 2 rfl dX10_cost_98 ?_
            refine s_iload X 0 rfl dX10_cost_99 ?_
            refine s_iload_n X 3 rfl dX10_cost_101 ?_
            obtain ⟨r_2, hq69, h⟩ := bnd_some h
            refine s_callV (As := [VI wish_2, VI day_]) X cw_X10_87 SHC_400 rfl dX10_cost_102 (L_C_Wishes_isCounted G wish_2 day_ m r_2 hq69) rfl ⟨Nat.le_of_ble_eq_true rfl, Nat.le_of_ble_eq_true rfl⟩ ⟨Nat.le_of_ble_eq_true rfl, Nat.le_of_ble_eq_true rfl⟩ (Nat.le_of_ble_eq_true rfl) noT (kkR ?_)
            refine s_ifeq_f (tgt := 112) X dX10_cost_105 (by omega) (fun c72 => ?_) (fun c73 => ?_)
            · replace h := ite_neg h c72
              refine s_const X (by unfold InR; omega) dX10_cost_112 ?_
              exact s_kn rfl rfl (K62 _ h)
            · replace h := ite_pos h c73
              refine s_const X (by unfold InR; omega) dX10_cost_108 ?_
              refine s_goto (tgt := 113) X dX10_cost_109 (by omega) ?_
              exact s_kn rfl rfl (K62 _ h)
    exact LP49 _ _ _ hl54
  have LP10 : ∀ (fu5 : Nat) (sum_2 : Int) (index_2 : Int), iter (fun s => C_Wishes_cost_b1 day_ m s.1 s.2) fu5 (sum_2, index_2) = some (sum_4, index_6) → J SHC G rm_X10_cost (.inl O) C 0 0 5 [(4, VI index_2), (3, VI sum_2), (0, VR 400), (1, VI day_), (2, VI mask_)] [] m := by
    intro fu5
    induction fu5 with
    | zero => intro sum_2 index_2 hn6; exact absurd hn6 (by simp [iter])
    | succ fu5 ih9 =>
      intro sum_2 index_2 hn6
      obtain ⟨x7, h, hc8⟩ := iter_succ hn6
      replace h : C_Wishes_cost_b1 day_ m sum_2 index_2 = some x7 := h
      unfold C_Wishes_cost_b1 at h
      refine s_iload X 0 rfl dX10_cost_5 ?_
      refine s_load0 X 2 rfl dX10_cost_7 ?_
      refine s_getR (id := 31) X fk_X10_40 SHC_400 rfl dX10_cost_8 ?_
      refine s_getI X fk_X10_74 SHC_31 rfl dX10_cost_11 ?_
      refine s_icmpge_f (tgt := 77) X dX10_cost_14 (by omega) (fun c19 => ?_) (fun c20 => ?_)
      · replace h := ite_neg h c19
        exact KX11 _ (iter_exit h hc8)
      · replace h := ite_pos h c20
        obtain ⟨g21, h⟩ := grd_some h
        refine s_load0 X 2 rfl dX10_cost_17 ?_
        refine s_getR (id := 31) X fk_X10_40 SHC_400 rfl dX10_cost_18 ?_
        refine s_getR (id := 33) X fk_X10_81 SHC_31 rfl dX10_cost_21 ?_
        refine s_iload X 0 rfl dX10_cost_24 ?_
        refine s_iald X SHC_33 g21.1 g21.2 dX10_cost_26 ?_
        obtain ⟨calls_, e22, h⟩ := ltv_elim h
        refine s_istore X e22 rfl (by omega) dX10_cost_27 ?_
        refine s_iload X 0 rfl dX10_cost_29 ?_
        refine s_const X (by unfold InR; omega) dX10_cost_31 ?_
        refine s_icmple_f (tgt := 71) X dX10_cost_32 (by omega) (fun c26 => ?_) (fun c27 => ?_)
        · replace h := ite_neg h c26
          obtain ⟨g28, h⟩ := grd_some h
          obtain ⟨index_3, e29, h⟩ := ltv_elim h
          refine s_iinc X 1 rfl g28 e29 rfl (by omega) dX10_cost_71 ?_
          refine s_goto (tgt := 5) X dX10_cost_74 (by omega) ?_
          refine s_loc [0, 2, 3, 4, 5] rfl ?_
          exact ih9 _ _ (iter_next h hc8)
        · replace h := ite_pos h c27
          refine s_load0 X 3 rfl dX10_cost_35 ?_
          refine s_getR (id := 29) X fk_X10_36 SHC_400 rfl dX10_cost_36 ?_
          refine s_load0 X 3 rfl dX10_cost_39 ?_
          refine s_getR (id := 31) X fk_X10_40 SHC_400 rfl dX10_cost_40 ?_
          refine s_getR (id := 32) X fk_X10_52 SHC_31 rfl dX10_cost_43 ?_
          refine s_iload X 1 rfl dX10_cost_46 ?_
          refine s_iald X SHC_32 g21.1 g21.2 dX10_cost_48 ?_
          refine s_iload_n X 4 rfl dX10_cost_49 ?_
          obtain ⟨r_, hq31, h⟩ := bnd_some h
          refine s_callV (As := [VI (m 32 index_2.toNat), VI day_]) X cw_X10_57 SHC_29 rfl dX10_cost_50 (L_C_Services_isOn G (m 32 index_2.toNat) day_ m r_ hq31) rfl ⟨Nat.le_of_ble_eq_true rfl, Nat.le_of_ble_eq_true rfl⟩ ⟨Nat.le_of_ble_eq_true rfl, Nat.le_of_ble_eq_true rfl⟩ (Nat.le_of_ble_eq_true rfl) noT (kkR ?_)
          refine s_ifeq_f (tgt := 71) X dX10_cost_53 (by omega) (fun c34 => ?_) (fun c35 => ?_)
          · replace h := ite_neg h c34
            obtain ⟨g36, h⟩ := grd_some h
            obtain ⟨index_4, e37, h⟩ := ltv_elim h
            refine s_iinc X 1 rfl g36 e37 rfl (by omega) dX10_cost_71 ?_
            refine s_goto (tgt := 5) X dX10_cost_74 (by omega) ?_
            refine s_loc [0, 2, 3, 4, 5] rfl ?_
            exact ih9 _ _ (iter_next h hc8)
          · replace h := ite_pos h c35
            obtain ⟨g38, h⟩ := grd_some h
            refine s_iload_n X 2 rfl dX10_cost_56 ?_
            refine s_load0 X 3 rfl dX10_cost_57 ?_
            refine s_getR (id := 406) X fk_X10_29 SHC_400 rfl dX10_cost_58 ?_
            refine s_iload X 1 rfl dX10_cost_61 ?_
            refine s_aaldI (id := (407 + index_2.toNat)) X (by omega) (Or.inl rfl) SHC_406 g21.1 g21.2 dX10_cost_63 ?_
            refine s_iload X 0 rfl dX10_cost_64 ?_
            refine s_const X (by unfold InR; omega) dX10_cost_66 ?_
            refine s_isub X g38.1 dX10_cost_67 ?_
            refine s_iald X (SHC_r407 g21.1 g21.2) g38.2.1 g38.2.2.1 dX10_cost_68 ?_
            refine s_iadd X g38.2.2.2 dX10_cost_69 ?_
            obtain ⟨sum_3, e39, h⟩ := ltv_elim h
            refine s_istore_n X e39 rfl (by omega) dX10_cost_70 ?_
            obtain ⟨g40, h⟩ := grd_some h
            obtain ⟨index_5, e41, h⟩ := ltv_elim h
            refine s_iinc X 2 rfl g40 e41 rfl (by omega) dX10_cost_71 ?_
            refine s_goto (tgt := 5) X dX10_cost_74 (by omega) ?_
            refine s_loc [0, 1, 3, 4, 5] rfl ?_
            exact ih9 _ _ (iter_next h hc8)
  exact LP10 _ _ _ hl15
set_option maxRecDepth 20000 in
set_option maxHeartbeats 4000000 in
theorem L_C_costOfWaits (G : Gl) (day_ : Int) (mask_ : Int) (m : Mem) (r : (Int × Mem))  (h : C_costOfWaits day_ mask_ m = some r) : Con SHC G yX11_costOfWaits cX11_costOfWaits 3 (some .int) rm_X11_costOfWaits [VR 0, VI day_, VI mask_] m (((.inl (some (VI r.1)), r.2) : Res × Mem)) := by
  refine con_of (own := "Lastbus") (by decide) rfl (Nat.le_of_ble_eq_true rfl) (fun C X => ?_)
  obtain ⟨O, hO⟩ : ∃ O : Res × Mem, O = (((.inl (some (VI r.1)), r.2) : Res × Mem)) := ⟨_, rfl⟩
  rw [← hO]
  show J SHC G rm_X11_costOfWaits (.inl O) C 0 0 0 [(0, VR 0), (1, VI day_), (2, VI mask_)] [] m
  unfold C_costOfWaits at h
  refine s_load0 X 0 rfl dX11_costOfWaits_0 ?_
  refine s_getR (id := 400) X fk_X11_72 SHC_0 rfl dX11_costOfWaits_1 ?_
  refine s_iload_n X 1 rfl dX11_costOfWaits_4 ?_
  refine s_iload_n X 2 rfl dX11_costOfWaits_5 ?_
  obtain ⟨r_, m_, hq2, h⟩ := bq2_some h
  refine s_callV (As := [VI day_, VI mask_]) X cw_X11_474 SHC_400 rfl dX11_costOfWaits_6 (L_C_Wishes_spread G day_ mask_ m (r_, m_) hq2) rfl ⟨Nat.le_of_ble_eq_true rfl, Nat.le_of_ble_eq_true rfl⟩ ⟨Nat.le_of_ble_eq_true rfl, Nat.le_of_ble_eq_true rfl⟩ (Nat.le_of_ble_eq_true rfl) noT (kkR ?_)
  refine s_ifeq_f (tgt := 24) X dX11_costOfWaits_9 (by omega) (fun c5 => ?_) (fun c6 => ?_)
  · replace h := ite_neg h c5
    refine s_ldcW (z := 1000000) X (by unfold InR; omega) kc_X11_420 dX11_costOfWaits_24 ?_
    exact s_iret X (Nat.le_of_ble_eq_true rfl) (Nat.le_of_ble_eq_true rfl) (by cases h; exact hO) dX11_costOfWaits_27
  · replace h := ite_pos h c6
    refine s_load0 X 0 rfl dX11_costOfWaits_12 ?_
    refine s_getR (id := 400) X fk_X11_72 SHC_0 rfl dX11_costOfWaits_13 ?_
    refine s_iload_n X 1 rfl dX11_costOfWaits_16 ?_
    refine s_iload_n X 2 rfl dX11_costOfWaits_17 ?_
    obtain ⟨r_2, hq9, h⟩ := bnd_some h
    refine s_callV (As := [VI day_, VI mask_]) X cw_X11_477 SHC_400 rfl dX11_costOfWaits_18 (L_C_Wishes_cost G day_ mask_ m_ r_2 hq9) rfl ⟨Nat.le_of_ble_eq_true rfl, Nat.le_of_ble_eq_true rfl⟩ ⟨Nat.le_of_ble_eq_true rfl, Nat.le_of_ble_eq_true rfl⟩ (Nat.le_of_ble_eq_true rfl) noT (kkR ?_)
    refine s_goto (tgt := 27) X dX11_costOfWaits_21 (by omega) ?_
    exact s_iret X (Nat.le_of_ble_eq_true rfl) (Nat.le_of_ble_eq_true rfl) (by cases h; exact hO) dX11_costOfWaits_27
set_option maxRecDepth 20000 in
set_option maxHeartbeats 4000000 in
theorem L_C_waitCost (G : Gl) (day_ : Int) (mask_ : Int) (m : Mem) (r : ((Int ⊕ Nat) × Mem))  (h : C_waitCost day_ mask_ m = some r) : Con SHC G yX11_waitCost cX11_waitCost 4 (some .int) rm_X11_waitCost [VR 0, VI day_, VI mask_] m (oT wI r) := by
  refine con_of (own := "Lastbus") (by decide) rfl (Nat.le_of_ble_eq_true rfl) (fun C X => ?_)
  obtain ⟨O, hO⟩ : ∃ O : Res × Mem, O = (oT wI r) := ⟨_, rfl⟩
  rw [← hO]
  show J SHC G rm_X11_waitCost (.inl O) C 0 0 0 [(0, VR 0), (1, VI day_), (2, VI mask_)] [] m
  unfold C_waitCost at h
  refine s_iload_n X 1 rfl dX11_waitCost_0 ?_
  obtain ⟨q3, hq2, h⟩ := bnd_some h
  refine s_callS (As := [VI day_]) X cw_X11_140 dX11_waitCost_1 (L_C_needDay G day_ m q3 hq2) rfl ⟨Nat.le_of_ble_eq_true rfl, Nat.le_of_ble_eq_true rfl⟩ ⟨Nat.le_of_ble_eq_true rfl, Nat.le_of_ble_eq_true rfl⟩ (Nat.le_of_ble_eq_true rfl) (thr_up hO h) (kkT fun u_ m_ e9 => ?_)
  subst e9
  replace h := tbd_inl h
  obtain ⟨g5, h⟩ := grd_some h
  refine s_iload_n X 2 rfl dX11_waitCost_4 ?_
  refine s_const X (by unfold InR; omega) dX11_waitCost_5 ?_
  refine s_const X (by unfold InR; omega) dX11_waitCost_6 ?_
  refine s_load0 X 0 rfl dX11_waitCost_7 ?_
  refine s_getR (id := 400) X fk_X11_72 SHC_0 rfl dX11_waitCost_8 ?_
  refine s_getI X fk_X11_383 SHC_400 rfl dX11_waitCost_11 ?_
  refine s_ishl X dX11_waitCost_14 ?_
  refine s_const X (by unfold InR; omega) dX11_waitCost_15 ?_
  refine s_isub X g5 dX11_waitCost_16 ?_
  obtain ⟨q7, hq6, h⟩ := bnd_some h
  refine s_callS (As := [VI mask_, VI 0, VI (jishl 1 (m_ 400 4) - 1)]) X cw_X11_88 dX11_waitCost_17 (L_C_needNumber G mask_ 0 (jishl 1 (m_ 400 4) - 1) m_ q7 hq6) rfl ⟨Nat.le_of_ble_eq_true rfl, Nat.le_of_ble_eq_true rfl⟩ ⟨Nat.le_of_ble_eq_true rfl, Nat.le_of_ble_eq_true rfl⟩ (Nat.le_of_ble_eq_true rfl) (thr_up hO h) (kkT fun u_2 m_2 e9 => ?_)
  subst e9
  replace h := tbd_inl h
  refine s_load0 X 0 rfl dX11_waitCost_20 ?_
  refine s_iload_n X 1 rfl dX11_waitCost_21 ?_
  refine s_iload_n X 2 rfl dX11_waitCost_22 ?_
  obtain ⟨r_, m_3, hq10, h⟩ := bq2_some h
  refine s_callV (As := [VI day_, VI mask_]) X cw_X11_389 SHC_0 rfl dX11_waitCost_23 (L_C_costOfWaits G day_ mask_ m_2 (r_, m_3) hq10) rfl ⟨Nat.le_of_ble_eq_true rfl, Nat.le_of_ble_eq_true rfl⟩ ⟨Nat.le_of_ble_eq_true rfl, Nat.le_of_ble_eq_true rfl⟩ (Nat.le_of_ble_eq_true rfl) noT (kkR ?_)
  obtain ⟨cost_, e13, h⟩ := ltv_elim h
  refine s_istore_n X e13 rfl (by omega) dX11_waitCost_26 ?_
  refine s_iload_n X 0 rfl dX11_waitCost_27 ?_
  obtain ⟨q16, hq15, h⟩ := bnd_some h
  refine s_callS (As := [VI cost_]) X cw_X11_128 dX11_waitCost_28 (L_C_needFound G cost_ m_3 q16 hq15) rfl ⟨Nat.le_of_ble_eq_true rfl, Nat.le_of_ble_eq_true rfl⟩ ⟨Nat.le_of_ble_eq_true rfl, Nat.le_of_ble_eq_true rfl⟩ (Nat.le_of_ble_eq_true rfl) (thr_up hO h) (kkT fun u_3 m_4 e9 => ?_)
  subst e9
  replace h := tbd_inl h
  refine s_iload_n X 0 rfl dX11_waitCost_31 ?_
  exact s_iret X (Nat.le_of_ble_eq_true rfl) (Nat.le_of_ble_eq_true rfl) (by cases h; exact hO) dX11_waitCost_32
set_option maxRecDepth 20000 in
set_option maxHeartbeats 4000000 in
theorem L_C_bestWaits (G : Gl) (day_ : Int) (m : Mem) (r : ((Int ⊕ Nat) × Mem))  (h : C_bestWaits day_ m = some r) : Con SHC G yX11_bestWaits cX11_bestWaits 6 (some .int) rm_X11_bestWaits [VR 0, VI day_] m (oT wI r) := by
  refine con_of (own := "Lastbus") (by decide) rfl (Nat.le_of_ble_eq_true rfl) (fun C X => ?_)
  obtain ⟨O, hO⟩ : ∃ O : Res × Mem, O = (oT wI r) := ⟨_, rfl⟩
  rw [← hO]
  show J SHC G rm_X11_bestWaits (.inl O) C 0 0 0 [(0, VR 0), (1, VI day_)] [] m
  unfold C_bestWaits at h
  refine s_iload_n X 1 rfl dX11_bestWaits_0 ?_
  obtain ⟨q3, hq2, h⟩ := bnd_some h
  refine s_callS (As := [VI day_]) X cw_X11_140 dX11_bestWaits_1 (L_C_needDay G day_ m q3 hq2) rfl ⟨Nat.le_of_ble_eq_true rfl, Nat.le_of_ble_eq_true rfl⟩ ⟨Nat.le_of_ble_eq_true rfl, Nat.le_of_ble_eq_true rfl⟩ (Nat.le_of_ble_eq_true rfl) (thr_up hO h) (kkT fun u_ m_ e9 => ?_)
  subst e9
  replace h := tbd_inl h
  refine s_const X (by unfold InR; omega) dX11_bestWaits_4 ?_
  obtain ⟨best_, e6, h⟩ := ltv_elim h
  refine s_istore_n X e6 rfl (by omega) dX11_bestWaits_5 ?_
  refine s_load0 X 1 rfl dX11_bestWaits_6 ?_
  refine s_iload_n X 2 rfl dX11_bestWaits_7 ?_
  refine s_const X (by unfold InR; omega) dX11_bestWaits_8 ?_
  obtain ⟨r_, m_2, hq8, h⟩ := bq2_some h
  refine s_callV (As := [VI day_, VI 0]) X cw_X11_389 SHC_0 rfl dX11_bestWaits_9 (L_C_costOfWaits G day_ 0 m_ (r_, m_2) hq8) rfl ⟨Nat.le_of_ble_eq_true rfl, Nat.le_of_ble_eq_true rfl⟩ ⟨Nat.le_of_ble_eq_true rfl, Nat.le_of_ble_eq_true rfl⟩ (Nat.le_of_ble_eq_true rfl) noT (kkR ?_)
  obtain ⟨least_, e11, h⟩ := ltv_elim h
  refine s_istore_n X e11 rfl (by omega) dX11_bestWaits_12 ?_
  refine s_const X (by unfold InR; omega) dX11_bestWaits_13 ?_
  obtain ⟨mask_, e13, h⟩ := ltv_elim h
  refine s_istore X e13 rfl (by omega) dX11_bestWaits_14 ?_
  obtain ⟨best_4, least_4, mask_5, m_5, hl23, h⟩ := bq4_some h
  obtain ⟨fu140, hl24⟩ := loop_iter hl23
  have KX20 : ∀ q9 : Int × Int × Int × Mem, q9 = (best_4, least_4, mask_5, m_5) → J SHC G rm_X11_bestWaits (.inl O) C 1 6 57 [(4, VI q9.2.2.1), (3, VI q9.2.1), (2, VI q9.1), (0, VR 0), (1, VI day_)] [] (q9.2.2.2) := by
    intro q9 e9
    subst e9
    show J SHC G rm_X11_bestWaits (.inl O) C 1 6 57 [(4, VI mask_5), (3, VI least_4), (2, VI best_4), (0, VR 0), (1, VI day_)] [] m_5
    refine s_iload_n X 2 rfl dX11_bestWaits_57 ?_
    exact s_iret X (Nat.le_of_ble_eq_true rfl) (Nat.le_of_ble_eq_true rfl) (by cases h; exact hO) dX11_bestWaits_58
  have LP19 : ∀ (fu14 : Nat) (best_2 : Int) (least_2 : Int) (mask_2 : Int) (m_3 : Mem), iter (fun s => C_bestWaits_b1 day_ s.1 s.2.1 s.2.2.1 s.2.2.2) fu14 (best_2, least_2, mask_2, m_3) = some (best_4, least_4, mask_5, m_5) → J SHC G rm_X11_bestWaits (.inl O) C 1 6 16 [(4, VI mask_2), (3, VI least_2), (2, VI best_2), (0, VR 0), (1, VI day_)] [] m_3 := by
    intro fu14
    induction fu14 with
    | zero => intro best_2 least_2 mask_2 m_3 hn15; exact absurd hn15 (by simp [iter])
    | succ fu14 ih18 =>
      intro best_2 least_2 mask_2 m_3 hn15
      obtain ⟨x16, h, hc17⟩ := iter_succ hn15
      replace h : C_bestWaits_b1 day_ best_2 least_2 mask_2 m_3 = some x16 := h
      unfold C_bestWaits_b1 at h
      refine s_iload X 0 rfl dX11_bestWaits_16 ?_
      refine s_const X (by unfold InR; omega) dX11_bestWaits_18 ?_
      refine s_load0 X 3 rfl dX11_bestWaits_19 ?_
      refine s_getR (id := 400) X fk_X11_72 SHC_0 rfl dX11_bestWaits_20 ?_
      refine s_getI X fk_X11_383 SHC_400 rfl dX11_bestWaits_23 ?_
      refine s_ishl X dX11_bestWaits_26 ?_
      refine s_icmpge_f (tgt := 57) X dX11_bestWaits_27 (by omega) (fun c28 => ?_) (fun c29 => ?_)
      · replace h := ite_neg h c28
        exact KX20 _ (iter_exit h hc17)
      · replace h := ite_pos h c29
        refine s_load0 X 3 rfl dX11_bestWaits_30 ?_
        refine s_iload_n X 4 rfl dX11_bestWaits_31 ?_
        refine s_iload X 0 rfl dX11_bestWaits_32 ?_
        obtain ⟨r_2, m_4, hq31, h⟩ := bq2_some h
        refine s_callV (As := [VI day_, VI mask_2]) X cw_X11_389 SHC_0 rfl dX11_bestWaits_34 (L_C_costOfWaits G day_ mask_2 m_3 (r_2, m_4) hq31) rfl ⟨Nat.le_of_ble_eq_true rfl, Nat.le_of_ble_eq_true rfl⟩ ⟨Nat.le_of_ble_eq_true rfl, Nat.le_of_ble_eq_true rfl⟩ (Nat.le_of_ble_eq_true rfl) noT (kkR ?_)
        obtain ⟨cost_, e34, h⟩ := ltv_elim h
        refine s_istore X e34 rfl (by omega) dX11_bestWaits_37 ?_
        refine s_iload X 0 rfl dX11_bestWaits_39 ?_
        refine s_iload_n X 2 rfl dX11_bestWaits_41 ?_
        refine s_icmpge_f (tgt := 51) X dX11_bestWaits_42 (by omega) (fun c38 => ?_) (fun c39 => ?_)
        · replace h := ite_neg h c38
          obtain ⟨g40, h⟩ := grd_some h
          obtain ⟨mask_3, e41, h⟩ := ltv_elim h
          refine s_iinc X 1 rfl g40 e41 rfl (by omega) dX11_bestWaits_51 ?_
          refine s_goto (tgt := 16) X dX11_bestWaits_54 (by omega) ?_
          refine s_loc [0, 2, 3, 4, 5] rfl ?_
          exact ih18 _ _ _ _ (iter_next h hc17)
        · replace h := ite_pos h c39
          refine s_iload X 0 rfl dX11_bestWaits_45 ?_
          obtain ⟨least_3, e43, h⟩ := ltv_elim h
          refine s_istore_n X e43 rfl (by omega) dX11_bestWaits_47 ?_
          refine s_iload X 2 rfl dX11_bestWaits_48 ?_
          obtain ⟨best_3, e45, h⟩ := ltv_elim h
          refine s_istore_n X e45 rfl (by omega) dX11_bestWaits_50 ?_
          obtain ⟨g46, h⟩ := grd_some h
          obtain ⟨mask_4, e47, h⟩ := ltv_elim h
          refine s_iinc X 3 rfl g46 e47 rfl (by omega) dX11_bestWaits_51 ?_
          refine s_goto (tgt := 16) X dX11_bestWaits_54 (by omega) ?_
          refine s_loc [0, 2, 1, 4, 5] rfl ?_
          exact ih18 _ _ _ _ (iter_next h hc17)
  exact LP19 _ _ _ _ _ hl24
set_option maxRecDepth 20000 in
set_option maxHeartbeats 4000000 in
theorem L_C_fillArrivals (G : Gl) (minute_ : Int) (m : Mem) (r : Mem)  (h : C_fillArrivals minute_ m = some r) : Con SHC G yX11_fillArrivals cX11_fillArrivals 4 none rm_X11_fillArrivals [VR 0, VI minute_] m (((.inl none, r) : Res × Mem)) := by
  refine con_of (own := "Lastbus") (by decide) rfl (Nat.le_of_ble_eq_true rfl) (fun C X => ?_)
  obtain ⟨O, hO⟩ : ∃ O : Res × Mem, O = (((.inl none, r) : Res × Mem)) := ⟨_, rfl⟩
  rw [← hO]
  show J SHC G rm_X11_fillArrivals (.inl O) C 0 0 0 [(0, VR 0), (1, VI minute_)] [] m
  unfold C_fillArrivals at h
  refine s_const X (by unfold InR; omega) dX11_fillArrivals_0 ?_
  obtain ⟨from_, e2, h⟩ := ltv_elim h
  refine s_istore_n X e2 rfl (by omega) dX11_fillArrivals_1 ?_
  obtain ⟨from_4, m_6, hl12, h⟩ := bq2_some h
  obtain ⟨fu30, hl13⟩ := loop_iter hl12
  have KX9 : ∀ q9 : Int × Mem, q9 = (from_4, m_6) → J SHC G rm_X11_fillArrivals (.inl O) C 0 0 66 [(2, VI q9.1), (0, VR 0), (1, VI minute_)] [] (q9.2) := by
    intro q9 e9
    subst e9
    show J SHC G rm_X11_fillArrivals (.inl O) C 0 0 66 [(2, VI from_4), (0, VR 0), (1, VI minute_)] [] m_6
    exact s_vret X (Nat.le_of_ble_eq_true rfl) (Nat.le_of_ble_eq_true rfl) (by cases h; exact hO) dX11_fillArrivals_66
  have LP8 : ∀ (fu3 : Nat) (from_2 : Int) (m_ : Mem), iter (fun s => C_fillArrivals_b1 minute_ s.1 s.2) fu3 (from_2, m_) = some (from_4, m_6) → J SHC G rm_X11_fillArrivals (.inl O) C 0 0 2 [(2, VI from_2), (0, VR 0), (1, VI minute_)] [] m_ := by
    intro fu3
    induction fu3 with
    | zero => intro from_2 m_ hn4; exact absurd hn4 (by simp [iter])
    | succ fu3 ih7 =>
      intro from_2 m_ hn4
      obtain ⟨x5, h, hc6⟩ := iter_succ hn4
      replace h : C_fillArrivals_b1 minute_ from_2 m_ = some x5 := h
      unfold C_fillArrivals_b1 at h
      refine s_iload_n X 0 rfl dX11_fillArrivals_2 ?_
      refine s_load0 X 1 rfl dX11_fillArrivals_3 ?_
      refine s_getR (id := 1) X fk_X11_12 SHC_0 rfl dX11_fillArrivals_4 ?_
      refine s_getI X fk_X11_92 SHC_1 rfl dX11_fillArrivals_7 ?_
      refine s_icmpge_f (tgt := 66) X dX11_fillArrivals_10 (by omega) (fun c17 => ?_) (fun c18 => ?_)
      · replace h := ite_neg h c17
        exact KX9 _ (iter_exit h hc6)
      · replace h := ite_pos h c18
        refine s_load0 X 1 rfl dX11_fillArrivals_13 ?_
        refine s_getR (id := 345) X fk_X11_58 SHC_0 rfl dX11_fillArrivals_14 ?_
        refine s_iload_n X 0 rfl dX11_fillArrivals_17 ?_
        refine s_iload_n X 2 rfl dX11_fillArrivals_18 ?_
        obtain ⟨m_2, hq20, h⟩ := bnd_some h
        refine s_callV (As := [VI from_2, VI minute_]) X cw_X11_283 SHC_345 rfl dX11_fillArrivals_19 (L_C_Search_scan G from_2 minute_ m_ m_2 hq20) rfl ⟨Nat.le_of_ble_eq_true rfl, Nat.le_of_ble_eq_true rfl⟩ ⟨Nat.le_of_ble_eq_true rfl, Nat.le_of_ble_eq_true rfl⟩ (Nat.le_of_ble_eq_true rfl) noT (kkU ?_)
        refine s_const X (by unfold InR; omega) dX11_fillArrivals_22 ?_
        obtain ⟨to_, e24, h⟩ := ltv_elim h
        refine s_istore_n X e24 rfl (by omega) dX11_fillArrivals_23 ?_
        obtain ⟨to_4, m_5, hl34, h⟩ := bq2_some h
        obtain ⟨fu250, hl35⟩ := loop_iter hl34
        have KX31 : ∀ q9 : Int × Mem, q9 = (to_4, m_5) → J SHC G rm_X11_fillArrivals (.inl O) C 0 0 60 [(3, VI q9.1), (2, VI from_2), (0, VR 0), (1, VI minute_)] [] (q9.2) := by
          intro q9 e9
          subst e9
          show J SHC G rm_X11_fillArrivals (.inl O) C 0 0 60 [(3, VI to_4), (2, VI from_2), (0, VR 0), (1, VI minute_)] [] m_5
          obtain ⟨g48, h⟩ := grd_some h
          obtain ⟨from_3, e49, h⟩ := ltv_elim h
          refine s_iinc X 1 rfl g48 e49 rfl (by omega) dX11_fillArrivals_60 ?_
          refine s_goto (tgt := 2) X dX11_fillArrivals_63 (by omega) ?_
          refine s_loc [0, 2, 3] rfl ?_
          exact ih7 _ _ (iter_next h hc6)
        have LP30 : ∀ (fu25 : Nat) (to_2 : Int) (m_3 : Mem), iter (fun s => C_fillArrivals_b2 from_2 s.1 s.2) fu25 (to_2, m_3) = some (to_4, m_5) → J SHC G rm_X11_fillArrivals (.inl O) C 0 0 24 [(3, VI to_2), (2, VI from_2), (0, VR 0), (1, VI minute_)] [] m_3 := by
          intro fu25
          induction fu25 with
          | zero => intro to_2 m_3 hn26; exact absurd hn26 (by simp [iter])
          | succ fu25 ih29 =>
            intro to_2 m_3 hn26
            obtain ⟨x27, h, hc28⟩ := iter_succ hn26
            replace h : C_fillArrivals_b2 from_2 to_2 m_3 = some x27 := h
            unfold C_fillArrivals_b2 at h
            refine s_iload_n X 0 rfl dX11_fillArrivals_24 ?_
            refine s_load0 X 2 rfl dX11_fillArrivals_25 ?_
            refine s_getR (id := 1) X fk_X11_12 SHC_0 rfl dX11_fillArrivals_26 ?_
            refine s_getI X fk_X11_92 SHC_1 rfl dX11_fillArrivals_29 ?_
            refine s_icmpge_f (tgt := 60) X dX11_fillArrivals_32 (by omega) (fun c39 => ?_) (fun c40 => ?_)
            · replace h := ite_neg h c39
              exact KX31 _ (iter_exit h hc28)
            · replace h := ite_pos h c40
              obtain ⟨g41, h⟩ := grd_some h
              refine s_load0 X 2 rfl dX11_fillArrivals_35 ?_
              refine s_getR (id := 442) X fk_X11_85 SHC_0 rfl dX11_fillArrivals_36 ?_
              refine s_iload_n X 1 rfl dX11_fillArrivals_39 ?_
              refine s_aaldI (id := (443 + from_2.toNat)) X (by omega) (Or.inl rfl) SHC_442 g41.1 g41.2.1 dX11_fillArrivals_40 ?_
              refine s_iload_n X 0 rfl dX11_fillArrivals_41 ?_
              refine s_load0 X 2 rfl dX11_fillArrivals_42 ?_
              refine s_getR (id := 345) X fk_X11_58 SHC_0 rfl dX11_fillArrivals_43 ?_
              refine s_getR (id := 352) X fk_X11_286 SHC_345 rfl dX11_fillArrivals_46 ?_
              refine s_iload_n X 0 rfl dX11_fillArrivals_49 ?_
              obtain ⟨r_, hq42, h⟩ := bnd_some h
              refine s_callV (As := [VI to_2]) X cw_X11_290 (shLab labS) rfl dX11_fillArrivals_50 (L_C_Labels_at G 352 to_2 m_3 r_ labS hq42) rfl ⟨Nat.le_of_ble_eq_true rfl, Nat.le_of_ble_eq_true rfl⟩ ⟨Nat.le_of_ble_eq_true rfl, Nat.le_of_ble_eq_true rfl⟩ (Nat.le_of_ble_eq_true rfl) noT (kkR ?_)
              obtain ⟨m_4, e45, h⟩ := ltv_elim h
              refine s_iast X e45 (SHC_r443 g41.1 g41.2.1) g41.2.2.1 g41.2.2.2 dX11_fillArrivals_53 ?_
              obtain ⟨g46, h⟩ := grd_some h
              obtain ⟨to_3, e47, h⟩ := ltv_elim h
              refine s_iinc X 0 rfl g46 e47 rfl (by omega) dX11_fillArrivals_54 ?_
              refine s_goto (tgt := 24) X dX11_fillArrivals_57 (by omega) ?_
              exact ih29 _ _ (iter_next h hc28)
        exact LP30 _ _ _ hl35
  exact LP8 _ _ _ hl13
set_option maxRecDepth 20000 in
set_option maxHeartbeats 4000000 in
theorem L_C_countCutOffFrom (G : Gl) (from_ : Int) (cut_ : Int) (m : Mem) (r : Int)  (h : C_countCutOffFrom from_ cut_ m = some r) : Con SHC G yX11_countCutOffFrom cX11_countCutOffFrom 6 (some .int) rm_X11_countCutOffFrom [VR 0, VI from_, VI cut_] m (((.inl (some (VI r)), m) : Res × Mem)) := by
  refine con_of (own := "Lastbus") (by decide) rfl (Nat.le_of_ble_eq_true rfl) (fun C X => ?_)
  obtain ⟨O, hO⟩ : ∃ O : Res × Mem, O = (((.inl (some (VI r)), m) : Res × Mem)) := ⟨_, rfl⟩
  rw [← hO]
  show J SHC G rm_X11_countCutOffFrom (.inl O) C 0 0 0 [(0, VR 0), (1, VI from_), (2, VI cut_)] [] m
  unfold C_countCutOffFrom at h
  refine s_const X (by unfold InR; omega) dX11_countCutOffFrom_0 ?_
  obtain ⟨count_, e2, h⟩ := ltv_elim h
  refine s_istore_n X e2 rfl (by omega) dX11_countCutOffFrom_1 ?_
  refine s_const X (by unfold InR; omega) dX11_countCutOffFrom_2 ?_
  obtain ⟨to_, e4, h⟩ := ltv_elim h
  refine s_istore X e4 rfl (by omega) dX11_countCutOffFrom_3 ?_
  obtain ⟨count_4, to_6, hl14, h⟩ := bq2_some h
  obtain ⟨fu50, hl15⟩ := loop_iter hl14
  have KX11 : ∀ q9 : Int × Int, q9 = (count_4, to_6) → J SHC G rm_X11_countCutOffFrom (.inl O) C 0 0 83 [(4, VI q9.2), (3, VI q9.1), (0, VR 0), (1, VI from_), (2, VI cut_)] [] m := by
    intro q9 e9
    subst e9
    show J SHC G rm_X11_countCutOffFrom (.inl O) C 0 0 83 [(4, VI to_6), (3, VI count_4), (0, VR 0), (1, VI from_), (2, VI cut_)] [] m
    refine s_iload_n X 1 rfl dX11_countCutOffFrom_83 ?_
    exact s_iret X (Nat.le_of_ble_eq_true rfl) (Nat.le_of_ble_eq_true rfl) (by cases h; exact hO) dX11_countCutOffFrom_84
  have LP10 : ∀ (fu5 : Nat) (count_2 : Int) (to_2 : Int), iter (fun s => C_countCutOffFrom_b1 from_ cut_ m s.1 s.2) fu5 (count_2, to_2) = some (count_4, to_6) → J SHC G rm_X11_countCutOffFrom (.inl O) C 0 0 5 [(4, VI to_2), (3, VI count_2), (0, VR 0), (1, VI from_), (2, VI cut_)] [] m := by
    intro fu5
    induction fu5 with
    | zero => intro count_2 to_2 hn6; exact absurd hn6 (by simp [iter])
    | succ fu5 ih9 =>
      intro count_2 to_2 hn6
      obtain ⟨x7, h, hc8⟩ := iter_succ hn6
      replace h : C_countCutOffFrom_b1 from_ cut_ m count_2 to_2 = some x7 := h
      unfold C_countCutOffFrom_b1 at h
      refine s_iload X 0 rfl dX11_countCutOffFrom_5 ?_
      refine s_load0 X 2 rfl dX11_countCutOffFrom_7 ?_
      refine s_getR (id := 1) X fk_X11_12 SHC_0 rfl dX11_countCutOffFrom_8 ?_
      refine s_getI X fk_X11_92 SHC_1 rfl dX11_countCutOffFrom_11 ?_
      refine s_icmpge_f (tgt := 83) X dX11_countCutOffFrom_14 (by omega) (fun c19 => ?_) (fun c20 => ?_)
      · replace h := ite_neg h c19
        exact KX11 _ (iter_exit h hc8)
      · replace h := ite_pos h c20
        have kM22 : J SHC G rm_X11_countCutOffFrom (.inl O) C 0 0 34 [(4, VI to_2), (3, VI count_2), (0, VR 0), (1, VI from_), (2, VI cut_)] [VI (if (¬ to_2 = cut_) ∧ (¬ to_2 = from_) then 1 else 0)] m := by
          obtain ⟨isOther_, e28, h⟩ := ltv_elim h
          refine s_istore X e28 rfl (by omega) dX11_countCutOffFrom_34 ?_
          obtain ⟨g29, h⟩ := grd_some h
          have kF31 : ¬ ((¬ isOther_ = 0) ∧ (m (443 + from_.toNat) to_2.toNat < 1000000)) → J SHC G rm_X11_countCutOffFrom (.inl O) C 0 0 77 [(5, VI isOther_), (4, VI to_2), (3, VI count_2), (0, VR 0), (1, VI from_), (2, VI cut_)] [] m := by
            intro c36
            replace h := ite_neg h c36
            obtain ⟨g34, h⟩ := grd_some h
            obtain ⟨to_3, e35, h⟩ := ltv_elim h
            refine s_iinc X 1 rfl g34 e35 rfl (by omega) dX11_countCutOffFrom_77 ?_
            refine s_goto (tgt := 5) X dX11_countCutOffFrom_80 (by omega) ?_
            refine s_loc [0, 2, 3, 4, 5] rfl ?_
            exact ih9 _ _ (iter_next h hc8)
          refine s_iload X 0 rfl dX11_countCutOffFrom_36 ?_
          refine s_ifeq_f (tgt := 77) X dX11_countCutOffFrom_38 (by omega) (fun c32 => ?_) (fun c33 => ?_)
          · exact kF31 (fun q => c32 q.1)
          · have a37 : ¬ isOther_ = 0 := c33
            refine s_load0 X 3 rfl dX11_countCutOffFrom_41 ?_
            refine s_getR (id := 442) X fk_X11_85 SHC_0 rfl dX11_countCutOffFrom_42 ?_
            refine s_iload_n X 4 rfl dX11_countCutOffFrom_45 ?_
            refine s_aaldI (id := (443 + from_.toNat)) X (by omega) (Or.inl rfl) SHC_442 (g29.1 a37) (g29.2.1 a37) dX11_countCutOffFrom_46 ?_
            refine s_iload X 1 rfl dX11_countCutOffFrom_47 ?_
            refine s_iald X (SHC_r443 (g29.1 a37) (g29.2.1 a37)) (g29.2.2.1 a37) (g29.2.2.2 a37) dX11_countCutOffFrom_49 ?_
            refine s_ldcW (z := 1000000) X (by unfold InR; omega) kc_X11_420 dX11_countCutOffFrom_50 ?_
            refine s_icmpge_f (tgt := 77) X dX11_countCutOffFrom_53 (by omega) (fun c38 => ?_) (fun c39 => ?_)
            · exact kF31 (fun q => c38 q.2)
            · replace h := ite_pos h ⟨a37, c39⟩
              refine s_load0 X 3 rfl dX11_countCutOffFrom_56 ?_
              refine s_getR (id := 345) X fk_X11_58 SHC_0 rfl dX11_countCutOffFrom_57 ?_
              refine s_getR (id := 352) X fk_X11_286 SHC_345 rfl dX11_countCutOffFrom_60 ?_
              refine s_iload X 1 rfl dX11_countCutOffFrom_63 ?_
              obtain ⟨r_, hq41, h⟩ := bnd_some h
              refine s_callV (As := [VI to_2]) X cw_X11_290 (shLab labS) rfl dX11_countCutOffFrom_65 (L_C_Labels_at G 352 to_2 m r_ labS hq41) rfl ⟨Nat.le_of_ble_eq_true rfl, Nat.le_of_ble_eq_true rfl⟩ ⟨Nat.le_of_ble_eq_true rfl, Nat.le_of_ble_eq_true rfl⟩ (Nat.le_of_ble_eq_true rfl) noT (kkR ?_)
              refine s_ldcW (z := 1000000) X (by unfold InR; omega) kc_X11_420 dX11_countCutOffFrom_68 ?_
              refine s_icmplt_f (tgt := 77) X dX11_countCutOffFrom_71 (by omega) (fun c44 => ?_) (fun c45 => ?_)
              · replace h := ite_neg h c44
                obtain ⟨g46, h⟩ := grd_some h
                obtain ⟨to_4, e47, h⟩ := ltv_elim h
                refine s_iinc X 1 rfl g46 e47 rfl (by omega) dX11_countCutOffFrom_77 ?_
                refine s_goto (tgt := 5) X dX11_countCutOffFrom_80 (by omega) ?_
                refine s_loc [0, 2, 3, 4, 5] rfl ?_
                exact ih9 _ _ (iter_next h hc8)
              · replace h := ite_pos h c45
                obtain ⟨g48, h⟩ := grd_some h
                obtain ⟨count_3, e49, h⟩ := ltv_elim h
                refine s_iinc X 2 rfl g48 e49 rfl (by omega) dX11_countCutOffFrom_74 ?_
                obtain ⟨g50, h⟩ := grd_some h
                obtain ⟨to_5, e51, h⟩ := ltv_elim h
                refine s_iinc X 2 rfl g50 e51 rfl (by omega) dX11_countCutOffFrom_77 ?_
                refine s_goto (tgt := 5) X dX11_countCutOffFrom_80 (by omega) ?_
                refine s_loc [0, 1, 3, 4, 5] rfl ?_
                exact ih9 _ _ (iter_next h hc8)
        refine s_iload X 0 rfl dX11_countCutOffFrom_17 ?_
        refine s_iload_n X 4 rfl dX11_countCutOffFrom_19 ?_
        refine s_icmpeq_f (tgt := 33) X dX11_countCutOffFrom_20 (by omega) (fun c23 => ?_) (fun c24 => ?_)
        · refine s_const X (by unfold InR; omega) dX11_countCutOffFrom_33 ?_
          exact s_eqt (if_neg (fun q => c23 q.1)) kM22
        · have a25 : ¬ to_2 = cut_ := c24
          refine s_iload X 0 rfl dX11_countCutOffFrom_23 ?_
          refine s_iload_n X 3 rfl dX11_countCutOffFrom_25 ?_
          refine s_icmpeq_f (tgt := 33) X dX11_countCutOffFrom_26 (by omega) (fun c26 => ?_) (fun c27 => ?_)
          · refine s_const X (by unfold InR; omega) dX11_countCutOffFrom_33 ?_
            exact s_eqt (if_neg (fun q => c26 q.2)) kM22
          · refine s_const X (by unfold InR; omega) dX11_countCutOffFrom_29 ?_
            refine s_goto (tgt := 34) X dX11_countCutOffFrom_30 (by omega) ?_
            exact s_eqt (if_pos ⟨a25, c27⟩) kM22
  exact LP10 _ _ _ hl15
set_option maxRecDepth 20000 in
set_option maxHeartbeats 4000000 in
theorem L_C_countCutOff (G : Gl) (cut_ : Int) (m : Mem) (r : (Int × Mem))  (h : C_countCutOff cut_ m = some r) : Con SHC G yX11_countCutOff cX11_countCutOff 4 (some .int) rm_X11_countCutOff [VR 0, VI cut_] m (((.inl (some (VI r.1)), r.2) : Res × Mem)) := by
  refine con_of (own := "Lastbus") (by decide) rfl (Nat.le_of_ble_eq_true rfl) (fun C X => ?_)
  obtain ⟨O, hO⟩ : ∃ O : Res × Mem, O = (((.inl (some (VI r.1)), r.2) : Res × Mem)) := ⟨_, rfl⟩
  rw [← hO]
  show J SHC G rm_X11_countCutOff (.inl O) C 0 0 0 [(0, VR 0), (1, VI cut_)] [] m
  unfold C_countCutOff at h
  refine s_load0 X 0 rfl dX11_countCutOff_0 ?_
  refine s_getR (id := 1) X fk_X11_12 SHC_0 rfl dX11_countCutOff_1 ?_
  refine s_iload_n X 1 rfl dX11_countCutOff_4 ?_
  obtain ⟨m_, hq2, h⟩ := bnd_some h
  refine s_callV (As := [VI cut_]) X cw_X11_122 SHC_1 rfl dX11_countCutOff_5 (L_C_Stops_link G cut_ m m_ hq2) rfl ⟨Nat.le_of_ble_eq_true rfl, Nat.le_of_ble_eq_true rfl⟩ ⟨Nat.le_of_ble_eq_true rfl, Nat.le_of_ble_eq_true rfl⟩ (Nat.le_of_ble_eq_true rfl) noT (kkU ?_)
  refine s_const X (by unfold InR; omega) dX11_countCutOff_8 ?_
  obtain ⟨count_, e6, h⟩ := ltv_elim h
  refine s_istore_n X e6 rfl (by omega) dX11_countCutOff_9 ?_
  refine s_const X (by unfold InR; omega) dX11_countCutOff_10 ?_
  obtain ⟨from_, e8, h⟩ := ltv_elim h
  refine s_istore_n X e8 rfl (by omega) dX11_countCutOff_11 ?_
  obtain ⟨count_4, from_5, m_4, hl18, h⟩ := bq3_some h
  obtain ⟨fu90, hl19⟩ := loop_iter hl18
  have KX15 : ∀ q9 : Int × Int × Mem, q9 = (count_4, from_5, m_4) → J SHC G rm_X11_countCutOff (.inl O) C 0 0 52 [(3, VI q9.2.1), (2, VI q9.1), (0, VR 0), (1, VI cut_)] [] (q9.2.2) := by
    intro q9 e9
    subst e9
    show J SHC G rm_X11_countCutOff (.inl O) C 0 0 52 [(3, VI from_5), (2, VI count_4), (0, VR 0), (1, VI cut_)] [] m_4
    refine s_load0 X 2 rfl dX11_countCutOff_52 ?_
    refine s_getR (id := 1) X fk_X11_12 SHC_0 rfl dX11_countCutOff_53 ?_
    refine s_const X (by unfold InR; omega) dX11_countCutOff_56 ?_
    obtain ⟨m_5, hq44, h⟩ := bnd_some h
    refine s_callV (As := [VI (-1)]) X cw_X11_122 SHC_1 rfl dX11_countCutOff_57 (L_C_Stops_link G (-1) m_4 m_5 hq44) rfl ⟨Nat.le_of_ble_eq_true rfl, Nat.le_of_ble_eq_true rfl⟩ ⟨Nat.le_of_ble_eq_true rfl, Nat.le_of_ble_eq_true rfl⟩ (Nat.le_of_ble_eq_true rfl) noT (kkU ?_)
    refine s_iload_n X 1 rfl dX11_countCutOff_60 ?_
    exact s_iret X (Nat.le_of_ble_eq_true rfl) (Nat.le_of_ble_eq_true rfl) (by cases h; exact hO) dX11_countCutOff_61
  have LP14 : ∀ (fu9 : Nat) (count_2 : Int) (from_2 : Int) (m_2 : Mem), iter (fun s => C_countCutOff_b1 cut_ s.1 s.2.1 s.2.2) fu9 (count_2, from_2, m_2) = some (count_4, from_5, m_4) → J SHC G rm_X11_countCutOff (.inl O) C 0 0 12 [(3, VI from_2), (2, VI count_2), (0, VR 0), (1, VI cut_)] [] m_2 := by
    intro fu9
    induction fu9 with
    | zero => intro count_2 from_2 m_2 hn10; exact absurd hn10 (by simp [iter])
    | succ fu9 ih13 =>
      intro count_2 from_2 m_2 hn10
      obtain ⟨x11, h, hc12⟩ := iter_succ hn10
      replace h : C_countCutOff_b1 cut_ count_2 from_2 m_2 = some x11 := h
      unfold C_countCutOff_b1 at h
      refine s_iload_n X 0 rfl dX11_countCutOff_12 ?_
      refine s_load0 X 2 rfl dX11_countCutOff_13 ?_
      refine s_getR (id := 1) X fk_X11_12 SHC_0 rfl dX11_countCutOff_14 ?_
      refine s_getI X fk_X11_92 SHC_1 rfl dX11_countCutOff_17 ?_
      refine s_icmpge_f (tgt := 52) X dX11_countCutOff_20 (by omega) (fun c23 => ?_) (fun c24 => ?_)
      · replace h := ite_neg h c23
        exact KX15 _ (iter_exit h hc12)
      · replace h := ite_pos h c24
        refine s_iload_n X 0 rfl dX11_countCutOff_23 ?_
        refine s_iload_n X 3 rfl dX11_countCutOff_24 ?_
        refine s_icmpeq_f (tgt := 46) X dX11_countCutOff_25 (by omega) (fun c28 => ?_) (fun c29 => ?_)
        · replace h := ite_neg h c28
          obtain ⟨g30, h⟩ := grd_some h
          obtain ⟨from_3, e31, h⟩ := ltv_elim h
          refine s_iinc X 0 rfl g30 e31 rfl (by omega) dX11_countCutOff_46 ?_
          refine s_goto (tgt := 12) X dX11_countCutOff_49 (by omega) ?_
          exact ih13 _ _ _ (iter_next h hc12)
        · replace h := ite_pos h c29
          refine s_load0 X 2 rfl dX11_countCutOff_28 ?_
          refine s_getR (id := 345) X fk_X11_58 SHC_0 rfl dX11_countCutOff_29 ?_
          refine s_iload_n X 0 rfl dX11_countCutOff_32 ?_
          refine s_const X (by unfold InR; omega) dX11_countCutOff_33 ?_
          obtain ⟨m_3, hq33, h⟩ := bnd_some h
          refine s_callV (As := [VI from_2, VI 0]) X cw_X11_283 SHC_345 rfl dX11_countCutOff_34 (L_C_Search_scan G from_2 0 m_2 m_3 hq33) rfl ⟨Nat.le_of_ble_eq_true rfl, Nat.le_of_ble_eq_true rfl⟩ ⟨Nat.le_of_ble_eq_true rfl, Nat.le_of_ble_eq_true rfl⟩ (Nat.le_of_ble_eq_true rfl) noT (kkU ?_)
          refine s_iload_n X 1 rfl dX11_countCutOff_37 ?_
          refine s_load0 X 2 rfl dX11_countCutOff_38 ?_
          refine s_iload_n X 0 rfl dX11_countCutOff_39 ?_
          refine s_iload_n X 3 rfl dX11_countCutOff_40 ?_
          obtain ⟨r_, hq37, h⟩ := bnd_some h
          refine s_callV (As := [VI from_2, VI cut_]) X cw_X11_480 SHC_0 rfl dX11_countCutOff_41 (L_C_countCutOffFrom G from_2 cut_ m_3 r_ hq37) rfl ⟨Nat.le_of_ble_eq_true rfl, Nat.le_of_ble_eq_true rfl⟩ ⟨Nat.le_of_ble_eq_true rfl, Nat.le_of_ble_eq_true rfl⟩ (Nat.le_of_ble_eq_true rfl) noT (kkR ?_)
          obtain ⟨g39, h⟩ := grd_some h
          refine s_iadd X g39 dX11_countCutOff_44 ?_
          obtain ⟨count_3, e40, h⟩ := ltv_elim h
          refine s_istore_n X e40 rfl (by omega) dX11_countCutOff_45 ?_
          obtain ⟨g41, h⟩ := grd_some h
          obtain ⟨from_4, e42, h⟩ := ltv_elim h
          refine s_iinc X 1 rfl g41 e42 rfl (by omega) dX11_countCutOff_46 ?_
          refine s_goto (tgt := 12) X dX11_countCutOff_49 (by omega) ?_
          exact ih13 _ _ _ (iter_next h hc12)
  exact LP14 _ _ _ _ hl19
set_option maxRecDepth 20000 in
set_option maxHeartbeats 4000000 in
theorem L_C_lost (G : Gl) (stop_ : Int) (day_ : Int) (m : Mem) (r : ((Int ⊕ Nat) × Mem))  (h : C_lost stop_ day_ m = some r) : Con SHC G yX11_lost cX11_lost 3 (some .int) rm_X11_lost [VR 0, VI stop_, VI day_] m (oT wI r) := by
  refine con_of (own := "Lastbus") (by decide) rfl (Nat.le_of_ble_eq_true rfl) (fun C X => ?_)
  obtain ⟨O, hO⟩ : ∃ O : Res × Mem, O = (oT wI r) := ⟨_, rfl⟩
  rw [← hO]
  show J SHC G rm_X11_lost (.inl O) C 0 0 0 [(0, VR 0), (1, VI stop_), (2, VI day_)] [] m
  unfold C_lost at h
  refine s_load0 X 0 rfl dX11_lost_0 ?_
  refine s_iload_n X 1 rfl dX11_lost_1 ?_
  obtain ⟨q3, hq2, h⟩ := bnd_some h
  refine s_callV (As := [VI stop_]) X cw_X11_107 SHC_0 rfl dX11_lost_2 (L_C_needStop G stop_ m q3 hq2) rfl ⟨Nat.le_of_ble_eq_true rfl, Nat.le_of_ble_eq_true rfl⟩ ⟨Nat.le_of_ble_eq_true rfl, Nat.le_of_ble_eq_true rfl⟩ (Nat.le_of_ble_eq_true rfl) (thr_up hO h) (kkT fun u_ m_ e9 => ?_)
  subst e9
  replace h := tbd_inl h
  refine s_iload_n X 2 rfl dX11_lost_5 ?_
  obtain ⟨q7, hq6, h⟩ := bnd_some h
  refine s_callS (As := [VI day_]) X cw_X11_140 dX11_lost_6 (L_C_needDay G day_ m_ q7 hq6) rfl ⟨Nat.le_of_ble_eq_true rfl, Nat.le_of_ble_eq_true rfl⟩ ⟨Nat.le_of_ble_eq_true rfl, Nat.le_of_ble_eq_true rfl⟩ (Nat.le_of_ble_eq_true rfl) (thr_up hO h) (kkT fun u_2 m_2 e9 => ?_)
  subst e9
  replace h := tbd_inl h
  refine s_load0 X 0 rfl dX11_lost_9 ?_
  refine s_getR (id := 119) X fk_X11_49 SHC_0 rfl dX11_lost_10 ?_
  refine s_iload_n X 2 rfl dX11_lost_13 ?_
  refine s_const X (by unfold InR; omega) dX11_lost_14 ?_
  refine s_const X (by unfold InR; omega) dX11_lost_15 ?_
  obtain ⟨m_3, hq10, h⟩ := bnd_some h
  refine s_callV (As := [VI day_, VI (-1), VI 0]) X cw_X11_280 SHC_119 rfl dX11_lost_16 (L_C_Net_lay G day_ (-1) 0 m_2 m_3 hq10) rfl ⟨Nat.le_of_ble_eq_true rfl, Nat.le_of_ble_eq_true rfl⟩ ⟨Nat.le_of_ble_eq_true rfl, Nat.le_of_ble_eq_true rfl⟩ (Nat.le_of_ble_eq_true rfl) noT (kkU ?_)
  refine s_load0 X 0 rfl dX11_lost_19 ?_
  refine s_const X (by unfold InR; omega) dX11_lost_20 ?_
  obtain ⟨m_4, hq14, h⟩ := bnd_some h
  refine s_callV (As := [VI 0]) X cw_X11_392 SHC_0 rfl dX11_lost_21 (L_C_fillArrivals G 0 m_3 m_4 hq14) rfl ⟨Nat.le_of_ble_eq_true rfl, Nat.le_of_ble_eq_true rfl⟩ ⟨Nat.le_of_ble_eq_true rfl, Nat.le_of_ble_eq_true rfl⟩ (Nat.le_of_ble_eq_true rfl) noT (kkU ?_)
  refine s_load0 X 0 rfl dX11_lost_24 ?_
  refine s_iload_n X 1 rfl dX11_lost_25 ?_
  obtain ⟨r_, m_5, hq18, h⟩ := bq2_some h
  refine s_callV (As := [VI stop_]) X cw_X11_395 SHC_0 rfl dX11_lost_26 (L_C_countCutOff G stop_ m_4 (r_, m_5) hq18) rfl ⟨Nat.le_of_ble_eq_true rfl, Nat.le_of_ble_eq_true rfl⟩ ⟨Nat.le_of_ble_eq_true rfl, Nat.le_of_ble_eq_true rfl⟩ (Nat.le_of_ble_eq_true rfl) noT (kkR ?_)
  exact s_iret X (Nat.le_of_ble_eq_true rfl) (Nat.le_of_ble_eq_true rfl) (by cases h; exact hO) dX11_lost_29
set_option maxRecDepth 20000 in
set_option maxHeartbeats 4000000 in
theorem L_C_bridges (G : Gl) (day_ : Int) (m : Mem) (r : ((Int ⊕ Nat) × Mem))  (h : C_bridges day_ m = some r) : Con SHC G yX11_bridges cX11_bridges 4 (some .int) rm_X11_bridges [VR 0, VI day_] m (oT wI r) := by
  refine con_of (own := "Lastbus") (by decide) rfl (Nat.le_of_ble_eq_true rfl) (fun C X => ?_)
  obtain ⟨O, hO⟩ : ∃ O : Res × Mem, O = (oT wI r) := ⟨_, rfl⟩
  rw [← hO]
  show J SHC G rm_X11_bridges (.inl O) C 0 0 0 [(0, VR 0), (1, VI day_)] [] m
  unfold C_bridges at h
  refine s_iload_n X 1 rfl dX11_bridges_0 ?_
  obtain ⟨q3, hq2, h⟩ := bnd_some h
  refine s_callS (As := [VI day_]) X cw_X11_140 dX11_bridges_1 (L_C_needDay G day_ m q3 hq2) rfl ⟨Nat.le_of_ble_eq_true rfl, Nat.le_of_ble_eq_true rfl⟩ ⟨Nat.le_of_ble_eq_true rfl, Nat.le_of_ble_eq_true rfl⟩ (Nat.le_of_ble_eq_true rfl) (thr_up hO h) (kkT fun u_ m_ e9 => ?_)
  subst e9
  replace h := tbd_inl h
  refine s_load0 X 0 rfl dX11_bridges_4 ?_
  refine s_getR (id := 119) X fk_X11_49 SHC_0 rfl dX11_bridges_5 ?_
  refine s_iload_n X 1 rfl dX11_bridges_8 ?_
  refine s_const X (by unfold InR; omega) dX11_bridges_9 ?_
  refine s_const X (by unfold InR; omega) dX11_bridges_10 ?_
  obtain ⟨m_2, hq6, h⟩ := bnd_some h
  refine s_callV (As := [VI day_, VI (-1), VI 0]) X cw_X11_280 SHC_119 rfl dX11_bridges_11 (L_C_Net_lay G day_ (-1) 0 m_ m_2 hq6) rfl ⟨Nat.le_of_ble_eq_true rfl, Nat.le_of_ble_eq_true rfl⟩ ⟨Nat.le_of_ble_eq_true rfl, Nat.le_of_ble_eq_true rfl⟩ (Nat.le_of_ble_eq_true rfl) noT (kkU ?_)
  refine s_load0 X 0 rfl dX11_bridges_14 ?_
  refine s_const X (by unfold InR; omega) dX11_bridges_15 ?_
  obtain ⟨m_3, hq10, h⟩ := bnd_some h
  refine s_callV (As := [VI 0]) X cw_X11_392 SHC_0 rfl dX11_bridges_16 (L_C_fillArrivals G 0 m_2 m_3 hq10) rfl ⟨Nat.le_of_ble_eq_true rfl, Nat.le_of_ble_eq_true rfl⟩ ⟨Nat.le_of_ble_eq_true rfl, Nat.le_of_ble_eq_true rfl⟩ (Nat.le_of_ble_eq_true rfl) noT (kkU ?_)
  refine s_const X (by unfold InR; omega) dX11_bridges_19 ?_
  obtain ⟨sum_, e14, h⟩ := ltv_elim h
  refine s_istore_n X e14 rfl (by omega) dX11_bridges_20 ?_
  refine s_const X (by unfold InR; omega) dX11_bridges_21 ?_
  obtain ⟨stop_, e16, h⟩ := ltv_elim h
  refine s_istore_n X e16 rfl (by omega) dX11_bridges_22 ?_
  obtain ⟨sum_4, stop_5, m_6, hl26, h⟩ := bq3_some h
  obtain ⟨fu170, hl27⟩ := loop_iter hl26
  have KX23 : ∀ q9 : Int × Int × Mem, q9 = (sum_4, stop_5, m_6) → J SHC G rm_X11_bridges (.inl O) C 1 6 54 [(3, VI q9.2.1), (2, VI q9.1), (0, VR 0), (1, VI day_)] [] (q9.2.2) := by
    intro q9 e9
    subst e9
    show J SHC G rm_X11_bridges (.inl O) C 1 6 54 [(3, VI stop_5), (2, VI sum_4), (0, VR 0), (1, VI day_)] [] m_6
    refine s_iload_n X 1 rfl dX11_bridges_54 ?_
    exact s_iret X (Nat.le_of_ble_eq_true rfl) (Nat.le_of_ble_eq_true rfl) (by cases h; exact hO) dX11_bridges_55
  have LP22 : ∀ (fu17 : Nat) (sum_2 : Int) (stop_2 : Int) (m_4 : Mem), iter (fun s => C_bridges_b1 s.1 s.2.1 s.2.2) fu17 (sum_2, stop_2, m_4) = some (sum_4, stop_5, m_6) → J SHC G rm_X11_bridges (.inl O) C 1 6 23 [(3, VI stop_2), (2, VI sum_2), (0, VR 0), (1, VI day_)] [] m_4 := by
    intro fu17
    induction fu17 with
    | zero => intro sum_2 stop_2 m_4 hn18; exact absurd hn18 (by simp [iter])
    | succ fu17 ih21 =>
      intro sum_2 stop_2 m_4 hn18
      obtain ⟨x19, h, hc20⟩ := iter_succ hn18
      replace h : C_bridges_b1 sum_2 stop_2 m_4 = some x19 := h
      unfold C_bridges_b1 at h
      refine s_iload_n X 0 rfl dX11_bridges_23 ?_
      refine s_load0 X 2 rfl dX11_bridges_24 ?_
      refine s_getR (id := 1) X fk_X11_12 SHC_0 rfl dX11_bridges_25 ?_
      refine s_getI X fk_X11_92 SHC_1 rfl dX11_bridges_28 ?_
      refine s_icmpge_f (tgt := 54) X dX11_bridges_31 (by omega) (fun c31 => ?_) (fun c32 => ?_)
      · replace h := ite_neg h c31
        exact KX23 _ (iter_exit h hc20)
      · replace h := ite_pos h c32
        refine s_load0 X 2 rfl dX11_bridges_34 ?_
        refine s_iload_n X 0 rfl dX11_bridges_35 ?_
        obtain ⟨r_, m_5, hq34, h⟩ := bq2_some h
        refine s_callV (As := [VI stop_2]) X cw_X11_395 SHC_0 rfl dX11_bridges_36 (L_C_countCutOff G stop_2 m_4 (r_, m_5) hq34) rfl ⟨Nat.le_of_ble_eq_true rfl, Nat.le_of_ble_eq_true rfl⟩ ⟨Nat.le_of_ble_eq_true rfl, Nat.le_of_ble_eq_true rfl⟩ (Nat.le_of_ble_eq_true rfl) noT (kkR ?_)
        refine s_ifle_f (tgt := 48) X dX11_bridges_39 (by omega) (fun c37 => ?_) (fun c38 => ?_)
        · replace h := ite_neg h c37
          obtain ⟨g39, h⟩ := grd_some h
          obtain ⟨stop_3, e40, h⟩ := ltv_elim h
          refine s_iinc X 0 rfl g39 e40 rfl (by omega) dX11_bridges_48 ?_
          refine s_goto (tgt := 23) X dX11_bridges_51 (by omega) ?_
          exact ih21 _ _ _ (iter_next h hc20)
        · replace h := ite_pos h c38
          refine s_iload_n X 1 rfl dX11_bridges_42 ?_
          refine s_const X (by unfold InR; omega) dX11_bridges_43 ?_
          refine s_iload_n X 0 rfl dX11_bridges_44 ?_
          refine s_ishl X dX11_bridges_45 ?_
          refine s_ior X dX11_bridges_46 ?_
          obtain ⟨sum_3, e42, h⟩ := ltv_elim h
          refine s_istore_n X e42 rfl (by omega) dX11_bridges_47 ?_
          obtain ⟨g43, h⟩ := grd_some h
          obtain ⟨stop_4, e44, h⟩ := ltv_elim h
          refine s_iinc X 1 rfl g43 e44 rfl (by omega) dX11_bridges_48 ?_
          refine s_goto (tgt := 23) X dX11_bridges_51 (by omega) ?_
          exact ih21 _ _ _ (iter_next h hc20)
  exact LP22 _ _ _ _ hl27
set_option maxRecDepth 20000 in
set_option maxHeartbeats 4000000 in
theorem L_C_Fleet_gather (G : Gl) (day_ : Int) (m : Mem) (r : Mem)  (h : C_Fleet_gather day_ m = some r) : Con SHC G yX1_gather cX1_gather 6 none rm_X1_gather [VR 431, VR 29, VR 31, VI day_] m (((.inl none, r) : Res × Mem)) := by
  refine con_of (own := "Lastbus$Fleet") (by decide) rfl (Nat.le_of_ble_eq_true rfl) (fun C X => ?_)
  obtain ⟨O, hO⟩ : ∃ O : Res × Mem, O = (((.inl none, r) : Res × Mem)) := ⟨_, rfl⟩
  rw [← hO]
  show J SHC G rm_X1_gather (.inl O) C 0 0 0 [(0, VR 431), (1, VR 29), (2, VR 31), (3, VI day_)] [] m
  unfold C_Fleet_gather at h
  refine s_load0 X 0 rfl dX1_gather_0 ?_
  refine s_const X (by unfold InR; omega) dX1_gather_1 ?_
  obtain ⟨m_, e2, h⟩ := ltv_elim h
  refine s_putI X e2 fp_X1_42 SHC_431 rfl trivial dX1_gather_2 ?_
  refine s_const X (by unfold InR; omega) dX1_gather_5 ?_
  obtain ⟨trip_, e4, h⟩ := ltv_elim h
  refine s_istore X e4 rfl (by omega) dX1_gather_6 ?_
  obtain ⟨trip_5, m_8, hl14, h⟩ := bq2_some h
  obtain ⟨fu50, hl15⟩ := loop_iter hl14
  have KX11 : ∀ q9 : Int × Mem, q9 = (trip_5, m_8) → J SHC G rm_X1_gather (.inl O) C 0 0 135 [(4, VI q9.1), (0, VR 431), (1, VR 29), (2, VR 31), (3, VI day_)] [] (q9.2) := by
    intro q9 e9
    subst e9
    show J SHC G rm_X1_gather (.inl O) C 0 0 135 [(4, VI trip_5), (0, VR 431), (1, VR 29), (2, VR 31), (3, VI day_)] [] m_8
    exact s_vret X (Nat.le_of_ble_eq_true rfl) (Nat.le_of_ble_eq_true rfl) (by cases h; exact hO) dX1_gather_135
  have LP10 : ∀ (fu5 : Nat) (trip_2 : Int) (m_2 : Mem), iter (fun s => C_Fleet_gather_b1 day_ s.1 s.2) fu5 (trip_2, m_2) = some (trip_5, m_8) → J SHC G rm_X1_gather (.inl O) C 0 0 8 [(4, VI trip_2), (0, VR 431), (1, VR 29), (2, VR 31), (3, VI day_)] [] m_2 := by
    intro fu5
    induction fu5 with
    | zero => intro trip_2 m_2 hn6; exact absurd hn6 (by simp [iter])
    | succ fu5 ih9 =>
      intro trip_2 m_2 hn6
      obtain ⟨x7, h, hc8⟩ := iter_succ hn6
      replace h : C_Fleet_gather_b1 day_ trip_2 m_2 = some x7 := h
      unfold C_Fleet_gather_b1 at h
      refine s_iload X 0 rfl dX1_gather_8 ?_
      refine s_load0 X 3 rfl dX1_gather_10 ?_
      refine s_getI X fk_X1_46 SHC_31 rfl dX1_gather_11 ?_
      refine s_icmpge_f (tgt := 135) X dX1_gather_14 (by omega) (fun c19 => ?_) (fun c20 => ?_)
      · replace h := ite_neg h c19
        exact KX11 _ (iter_exit h hc8)
      · replace h := ite_pos h c20
        obtain ⟨g21, h⟩ := grd_some h
        refine s_load0 X 2 rfl dX1_gather_17 ?_
        refine s_load0 X 3 rfl dX1_gather_18 ?_
        refine s_getR (id := 32) X fk_X1_49 SHC_31 rfl dX1_gather_19 ?_
        refine s_iload X 0 rfl dX1_gather_22 ?_
        refine s_iald X SHC_32 g21.1 g21.2 dX1_gather_24 ?_
        refine s_iload_n X 4 rfl dX1_gather_25 ?_
        obtain ⟨r_, hq22, h⟩ := bnd_some h
        refine s_callV (As := [VI (m_2 32 trip_2.toNat), VI day_]) X cw_X1_52 SHC_29 rfl dX1_gather_26 (L_C_Services_isOn G (m_2 32 trip_2.toNat) day_ m_2 r_ hq22) rfl ⟨Nat.le_of_ble_eq_true rfl, Nat.le_of_ble_eq_true rfl⟩ ⟨Nat.le_of_ble_eq_true rfl, Nat.le_of_ble_eq_true rfl⟩ (Nat.le_of_ble_eq_true rfl) noT (kkR ?_)
        refine s_ifeq_f (tgt := 129) X dX1_gather_29 (by omega) (fun c25 => ?_) (fun c26 => ?_)
        · replace h := ite_neg h c25
          obtain ⟨g27, h⟩ := grd_some h
          obtain ⟨trip_3, e28, h⟩ := ltv_elim h
          refine s_iinc X 0 rfl g27 e28 rfl (by omega) dX1_gather_129 ?_
          refine s_goto (tgt := 8) X dX1_gather_132 (by omega) ?_
          exact ih9 _ _ (iter_next h hc8)
        · replace h := ite_pos h c26
          obtain ⟨g29, h⟩ := grd_some h
          refine s_load0 X 3 rfl dX1_gather_32 ?_
          refine s_getR (id := 33) X fk_X1_58 SHC_31 rfl dX1_gather_33 ?_
          refine s_iload X 0 rfl dX1_gather_36 ?_
          refine s_iald X SHC_33 g21.1 g21.2 dX1_gather_38 ?_
          refine s_const X (by unfold InR; omega) dX1_gather_39 ?_
          refine s_isub X g29 dX1_gather_40 ?_
          obtain ⟨end_, e30, h⟩ := ltv_elim h
          refine s_istore X e30 rfl (by omega) dX1_gather_41 ?_
          obtain ⟨g31, h⟩ := grd_some h
          refine s_load0 X 2 rfl dX1_gather_43 ?_
          refine s_getR (id := 432) X fk_X1_9 SHC_431 rfl dX1_gather_44 ?_
          refine s_load0 X 2 rfl dX1_gather_47 ?_
          refine s_getI X fk_X1_42 SHC_431 rfl dX1_gather_48 ?_
          refine s_load0 X 4 rfl dX1_gather_51 ?_
          refine s_getR (id := 34) X fk_X1_61 SHC_31 rfl dX1_gather_52 ?_
          refine s_iload X 1 rfl dX1_gather_55 ?_
          refine s_aaldI (id := (35 + trip_2.toNat)) X (by omega) (Or.inl rfl) SHC_34 g21.1 g21.2 dX1_gather_57 ?_
          refine s_const X (by unfold InR; omega) dX1_gather_58 ?_
          refine s_iald X (SHC_r35 g21.1 g21.2) (by omega) (by omega) dX1_gather_59 ?_
          obtain ⟨m_3, e32, h⟩ := ltv_elim h
          refine s_iast X e32 SHC_432 g31.1 g31.2 dX1_gather_60 ?_
          obtain ⟨g33, h⟩ := grd_some h
          refine s_load0 X 2 rfl dX1_gather_61 ?_
          refine s_getR (id := 433) X fk_X1_15 SHC_431 rfl dX1_gather_62 ?_
          refine s_load0 X 2 rfl dX1_gather_65 ?_
          refine s_getI X fk_X1_42 SHC_431 rfl dX1_gather_66 ?_
          refine s_load0 X 4 rfl dX1_gather_69 ?_
          refine s_getR (id := 34) X fk_X1_61 SHC_31 rfl dX1_gather_70 ?_
          refine s_iload X 1 rfl dX1_gather_73 ?_
          refine s_aaldI (id := (35 + trip_2.toNat)) X (by omega) (Or.inl rfl) SHC_34 g21.1 g21.2 dX1_gather_75 ?_
          refine s_iload X 0 rfl dX1_gather_76 ?_
          refine s_iald X (SHC_r35 g21.1 g21.2) g33.2.2.1 g33.2.2.2 dX1_gather_78 ?_
          obtain ⟨m_4, e34, h⟩ := ltv_elim h
          refine s_iast X e34 SHC_433 g33.1 g33.2.1 dX1_gather_79 ?_
          obtain ⟨g35, h⟩ := grd_some h
          refine s_load0 X 2 rfl dX1_gather_80 ?_
          refine s_getR (id := 434) X fk_X1_18 SHC_431 rfl dX1_gather_81 ?_
          refine s_load0 X 2 rfl dX1_gather_84 ?_
          refine s_getI X fk_X1_42 SHC_431 rfl dX1_gather_85 ?_
          refine s_load0 X 4 rfl dX1_gather_88 ?_
          refine s_getR (id := 84) X fk_X1_65 SHC_31 rfl dX1_gather_89 ?_
          refine s_iload X 1 rfl dX1_gather_92 ?_
          refine s_aaldI (id := (85 + trip_2.toNat)) X (by omega) (Or.inl rfl) SHC_84 g21.1 g21.2 dX1_gather_94 ?_
          refine s_const X (by unfold InR; omega) dX1_gather_95 ?_
          refine s_iald X (SHC_r85 g21.1 g21.2) (by omega) (by omega) dX1_gather_96 ?_
          obtain ⟨m_5, e36, h⟩ := ltv_elim h
          refine s_iast X e36 SHC_434 g35.1 g35.2 dX1_gather_97 ?_
          obtain ⟨g37, h⟩ := grd_some h
          refine s_load0 X 2 rfl dX1_gather_98 ?_
          refine s_getR (id := 435) X fk_X1_21 SHC_431 rfl dX1_gather_99 ?_
          refine s_load0 X 2 rfl dX1_gather_102 ?_
          refine s_getI X fk_X1_42 SHC_431 rfl dX1_gather_103 ?_
          refine s_load0 X 4 rfl dX1_gather_106 ?_
          refine s_getR (id := 59) X fk_X1_67 SHC_31 rfl dX1_gather_107 ?_
          refine s_iload X 1 rfl dX1_gather_110 ?_
          refine s_aaldI (id := (60 + trip_2.toNat)) X (by omega) (Or.inl rfl) SHC_59 g21.1 g21.2 dX1_gather_112 ?_
          refine s_iload X 0 rfl dX1_gather_113 ?_
          refine s_iald X (SHC_r60 g21.1 g21.2) g33.2.2.1 g33.2.2.2 dX1_gather_115 ?_
          refine s_const X (by unfold InR; omega) dX1_gather_116 ?_
          refine s_iadd X g37.2.2 dX1_gather_117 ?_
          obtain ⟨m_6, e38, h⟩ := ltv_elim h
          refine s_iast X e38 SHC_435 g37.1 g37.2.1 dX1_gather_118 ?_
          obtain ⟨g39, h⟩ := grd_some h
          refine s_load0 X 2 rfl dX1_gather_119 ?_
          refine s_dup X rfl dX1_gather_120 ?_
          refine s_getI X fk_X1_42 SHC_431 rfl dX1_gather_121 ?_
          refine s_const X (by unfold InR; omega) dX1_gather_124 ?_
          refine s_iadd X g39 dX1_gather_125 ?_
          obtain ⟨m_7, e40, h⟩ := ltv_elim h
          refine s_putI X e40 fp_X1_42 SHC_431 rfl trivial dX1_gather_126 ?_
          obtain ⟨g41, h⟩ := grd_some h
          obtain ⟨trip_4, e42, h⟩ := ltv_elim h
          refine s_iinc X 1 rfl g41 e42 rfl (by omega) dX1_gather_129 ?_
          refine s_goto (tgt := 8) X dX1_gather_132 (by omega) ?_
          refine s_loc [0, 2, 3, 4, 5] rfl ?_
          exact ih9 _ _ (iter_next h hc8)
  exact LP10 _ _ _ hl15
set_option maxRecDepth 20000 in
set_option maxHeartbeats 4000000 in
theorem L_C_Fleet_countAt (G : Gl) (stop_ : Int) (m : Mem) (r : (Int × Mem))  (h : C_Fleet_countAt stop_ m = some r) : Con SHC G yX1_countAt cX1_countAt 6 (some .int) rm_X1_countAt [VR 431, VI stop_] m (((.inl (some (VI r.1)), r.2) : Res × Mem)) := by
  refine con_of (own := "Lastbus$Fleet") (by decide) rfl (Nat.le_of_ble_eq_true rfl) (fun C X => ?_)
  obtain ⟨O, hO⟩ : ∃ O : Res × Mem, O = (((.inl (some (VI r.1)), r.2) : Res × Mem)) := ⟨_, rfl⟩
  rw [← hO]
  show J SHC G rm_X1_countAt (.inl O) C 0 0 0 [(0, VR 431), (1, VI stop_)] [] m
  unfold C_Fleet_countAt at h
  refine s_const X (by unfold InR; omega) dX1_countAt_0 ?_
  obtain ⟨found_, e2, h⟩ := ltv_elim h
  refine s_istore_n X e2 rfl (by omega) dX1_countAt_1 ?_
  refine s_const X (by unfold InR; omega) dX1_countAt_2 ?_
  obtain ⟨trip_, e4, h⟩ := ltv_elim h
  refine s_istore_n X e4 rfl (by omega) dX1_countAt_3 ?_
  obtain ⟨found_6, trip_5, m_5, hl14, h⟩ := bq3_some h
  obtain ⟨fu50, hl15⟩ := loop_iter hl14
  have KX11 : ∀ q9 : Int × Int × Mem, q9 = (found_6, trip_5, m_5) → J SHC G rm_X1_countAt (.inl O) C 0 0 74 [(3, VI q9.2.1), (2, VI q9.1), (0, VR 431), (1, VI stop_)] [] (q9.2.2) := by
    intro q9 e9
    subst e9
    show J SHC G rm_X1_countAt (.inl O) C 0 0 74 [(3, VI trip_5), (2, VI found_6), (0, VR 431), (1, VI stop_)] [] m_5
    refine s_load0 X 2 rfl dX1_countAt_74 ?_
    refine s_getR (id := 436) X fk_X1_24 SHC_431 rfl dX1_countAt_75 ?_
    refine s_load0 X 2 rfl dX1_countAt_78 ?_
    refine s_getR (id := 437) X fk_X1_27 SHC_431 rfl dX1_countAt_79 ?_
    refine s_iload_n X 1 rfl dX1_countAt_82 ?_
    obtain ⟨m_6, hq46, h⟩ := bnd_some h
    refine s_callN (As := [VR 436, VR 437, VI found_6]) X cw_X1_74 dX1_countAt_83 (L_C_sortUp G 436 437 found_6 m_5 m_6 ⟨_, SHC_436⟩ ⟨_, SHC_437⟩ hq46) rfl ⟨Nat.le_of_ble_eq_true rfl, Nat.le_of_ble_eq_true rfl⟩ ⟨Nat.le_of_ble_eq_true rfl, Nat.le_of_ble_eq_true rfl⟩ (Nat.le_of_ble_eq_true rfl) noT (kkU ?_)
    refine s_const X (by unfold InR; omega) dX1_countAt_86 ?_
    obtain ⟨idle_, e50, h⟩ := ltv_elim h
    refine s_istore_n X e50 rfl (by omega) dX1_countAt_87 ?_
    refine s_const X (by unfold InR; omega) dX1_countAt_88 ?_
    obtain ⟨fresh_, e52, h⟩ := ltv_elim h
    refine s_istore X e52 rfl (by omega) dX1_countAt_89 ?_
    refine s_const X (by unfold InR; omega) dX1_countAt_91 ?_
    obtain ⟨index_, e54, h⟩ := ltv_elim h
    refine s_istore X e54 rfl (by omega) dX1_countAt_92 ?_
    obtain ⟨idle_5, fresh_4, index_6, hl64, h⟩ := bq3_some h
    obtain ⟨fu550, hl65⟩ := loop_iter hl64
    have KX61 : ∀ q9 : Int × Int × Int, q9 = (idle_5, fresh_4, index_6) → J SHC G rm_X1_countAt (.inl O) C 0 0 137 [(5, VI q9.2.2), (4, VI q9.2.1), (3, VI q9.1), (2, VI found_6), (0, VR 431), (1, VI stop_)] [] m_6 := by
      intro q9 e9
      subst e9
      show J SHC G rm_X1_countAt (.inl O) C 0 0 137 [(5, VI index_6), (4, VI fresh_4), (3, VI idle_5), (2, VI found_6), (0, VR 431), (1, VI stop_)] [] m_6
      refine s_iload X 1 rfl dX1_countAt_137 ?_
      exact s_iret X (Nat.le_of_ble_eq_true rfl) (Nat.le_of_ble_eq_true rfl) (by cases h; exact hO) dX1_countAt_139
    have LP60 : ∀ (fu55 : Nat) (idle_2 : Int) (fresh_2 : Int) (index_2 : Int), iter (fun s => C_Fleet_countAt_b2 found_6 m_6 s.1 s.2.1 s.2.2) fu55 (idle_2, fresh_2, index_2) = some (idle_5, fresh_4, index_6) → J SHC G rm_X1_countAt (.inl O) C 0 0 94 [(5, VI index_2), (4, VI fresh_2), (3, VI idle_2), (2, VI found_6), (0, VR 431), (1, VI stop_)] [] m_6 := by
      intro fu55
      induction fu55 with
      | zero => intro idle_2 fresh_2 index_2 hn56; exact absurd hn56 (by simp [iter])
      | succ fu55 ih59 =>
        intro idle_2 fresh_2 index_2 hn56
        obtain ⟨x57, h, hc58⟩ := iter_succ hn56
        replace h : C_Fleet_countAt_b2 found_6 m_6 idle_2 fresh_2 index_2 = some x57 := h
        unfold C_Fleet_countAt_b2 at h
        refine s_iload X 0 rfl dX1_countAt_94 ?_
        refine s_iload_n X 3 rfl dX1_countAt_96 ?_
        refine s_icmpge_f (tgt := 137) X dX1_countAt_97 (by omega) (fun c69 => ?_) (fun c70 => ?_)
        · replace h := ite_neg h c69
          exact KX61 _ (iter_exit h hc58)
        · replace h := ite_pos h c70
          obtain ⟨g71, h⟩ := grd_some h
          refine s_load0 X 4 rfl dX1_countAt_100 ?_
          refine s_getR (id := 436) X fk_X1_24 SHC_431 rfl dX1_countAt_101 ?_
          refine s_iload X 0 rfl dX1_countAt_104 ?_
          refine s_iald X SHC_436 g71.1 g71.2 dX1_countAt_106 ?_
          refine s_const X (by unfold InR; omega) dX1_countAt_107 ?_
          refine s_irem X (by omega) dX1_countAt_108 ?_
          refine s_ifne_f (tgt := 118) X dX1_countAt_109 (by omega) (fun c74 => ?_) (fun c75 => ?_)
          · replace h := ite_neg h c74
            refine s_iload_n X 2 rfl dX1_countAt_118 ?_
            refine s_ifle_f (tgt := 128) X dX1_countAt_119 (by omega) (fun c79 => ?_) (fun c80 => ?_)
            · replace h := ite_neg h c79
              obtain ⟨g81, h⟩ := grd_some h
              obtain ⟨fresh_3, e82, h⟩ := ltv_elim h
              refine s_iinc X 1 rfl g81 e82 rfl (by omega) dX1_countAt_128 ?_
              obtain ⟨g83, h⟩ := grd_some h
              obtain ⟨index_3, e84, h⟩ := ltv_elim h
              refine s_iinc X 1 rfl g83 e84 rfl (by omega) dX1_countAt_131 ?_
              refine s_goto (tgt := 94) X dX1_countAt_134 (by omega) ?_
              exact ih59 _ _ _ (iter_next h hc58)
            · replace h := ite_pos h c80
              obtain ⟨g85, h⟩ := grd_some h
              obtain ⟨idle_3, e86, h⟩ := ltv_elim h
              refine s_iinc X 2 rfl g85 e86 rfl (by omega) dX1_countAt_122 ?_
              refine s_goto (tgt := 131) X dX1_countAt_125 (by omega) ?_
              obtain ⟨g87, h⟩ := grd_some h
              obtain ⟨index_4, e88, h⟩ := ltv_elim h
              refine s_iinc X 1 rfl g87 e88 rfl (by omega) dX1_countAt_131 ?_
              refine s_goto (tgt := 94) X dX1_countAt_134 (by omega) ?_
              refine s_loc [0, 2, 1, 3, 4, 5] rfl ?_
              exact ih59 _ _ _ (iter_next h hc58)
          · replace h := ite_pos h c75
            obtain ⟨g89, h⟩ := grd_some h
            obtain ⟨idle_4, e90, h⟩ := ltv_elim h
            refine s_iinc X 2 rfl g89 e90 rfl (by omega) dX1_countAt_112 ?_
            refine s_goto (tgt := 131) X dX1_countAt_115 (by omega) ?_
            obtain ⟨g91, h⟩ := grd_some h
            obtain ⟨index_5, e92, h⟩ := ltv_elim h
            refine s_iinc X 1 rfl g91 e92 rfl (by omega) dX1_countAt_131 ?_
            refine s_goto (tgt := 94) X dX1_countAt_134 (by omega) ?_
            refine s_loc [0, 2, 1, 3, 4, 5] rfl ?_
            exact ih59 _ _ _ (iter_next h hc58)
    exact LP60 _ _ _ _ hl65
  have LP10 : ∀ (fu5 : Nat) (found_2 : Int) (trip_2 : Int) (m_ : Mem), iter (fun s => C_Fleet_countAt_b1 stop_ s.1 s.2.1 s.2.2) fu5 (found_2, trip_2, m_) = some (found_6, trip_5, m_5) → J SHC G rm_X1_countAt (.inl O) C 0 0 4 [(3, VI trip_2), (2, VI found_2), (0, VR 431), (1, VI stop_)] [] m_ := by
    intro fu5
    induction fu5 with
    | zero => intro found_2 trip_2 m_ hn6; exact absurd hn6 (by simp [iter])
    | succ fu5 ih9 =>
      intro found_2 trip_2 m_ hn6
      obtain ⟨x7, h, hc8⟩ := iter_succ hn6
      replace h : C_Fleet_countAt_b1 stop_ found_2 trip_2 m_ = some x7 := h
      unfold C_Fleet_countAt_b1 at h
      refine s_iload_n X 0 rfl dX1_countAt_4 ?_
      refine s_load0 X 2 rfl dX1_countAt_5 ?_
      refine s_getI X fk_X1_42 SHC_431 rfl dX1_countAt_6 ?_
      refine s_icmpge_f (tgt := 74) X dX1_countAt_9 (by omega) (fun c19 => ?_) (fun c20 => ?_)
      · replace h := ite_neg h c19
        exact KX11 _ (iter_exit h hc8)
      · replace h := ite_pos h c20
        obtain ⟨kj_, hk21, h⟩ := ltv_elim h
        have K22 : ∀ (found_3 : Int) (m_2 : Mem), kj_ found_3 m_2 = some x7 → J SHC G rm_X1_countAt (.inl O) C 0 0 39 [(3, VI trip_2), (2, VI found_3), (0, VR 431), (1, VI stop_)] [] m_2 := by
          intro found_3 m_2 h
          subst hk21
          dsimp only at h
          obtain ⟨g32, h⟩ := grd_some h
          refine s_load0 X 2 rfl dX1_countAt_39 ?_
          refine s_getR (id := 432) X fk_X1_9 SHC_431 rfl dX1_countAt_40 ?_
          refine s_iload_n X 0 rfl dX1_countAt_43 ?_
          refine s_iald X SHC_432 g32.1 g32.2 dX1_countAt_44 ?_
          refine s_iload_n X 3 rfl dX1_countAt_45 ?_
          refine s_icmpne_f (tgt := 68) X dX1_countAt_46 (by omega) (fun c35 => ?_) (fun c36 => ?_)
          · replace h := ite_neg h c35
            obtain ⟨g37, h⟩ := grd_some h
            obtain ⟨trip_3, e38, h⟩ := ltv_elim h
            refine s_iinc X 0 rfl g37 e38 rfl (by omega) dX1_countAt_68 ?_
            refine s_goto (tgt := 4) X dX1_countAt_71 (by omega) ?_
            exact ih9 _ _ _ (iter_next h hc8)
          · replace h := ite_pos h c36
            obtain ⟨g39, h⟩ := grd_some h
            refine s_load0 X 2 rfl dX1_countAt_49 ?_
            refine s_getR (id := 436) X fk_X1_24 SHC_431 rfl dX1_countAt_50 ?_
            refine s_iload_n X 1 rfl dX1_countAt_53 ?_
            refine s_const X (by unfold InR; omega) dX1_countAt_54 ?_
            refine s_load0 X 2 rfl dX1_countAt_55 ?_
            refine s_getR (id := 434) X fk_X1_18 SHC_431 rfl dX1_countAt_56 ?_
            refine s_iload_n X 0 rfl dX1_countAt_59 ?_
            refine s_iald X SHC_434 g32.1 g32.2 dX1_countAt_60 ?_
            refine s_imul X g39.2.2.1 dX1_countAt_61 ?_
            refine s_const X (by unfold InR; omega) dX1_countAt_62 ?_
            refine s_iadd X g39.2.2.2 dX1_countAt_63 ?_
            obtain ⟨m_4, e40, h⟩ := ltv_elim h
            refine s_iast X e40 SHC_436 g39.1 g39.2.1 dX1_countAt_64 ?_
            obtain ⟨g41, h⟩ := grd_some h
            obtain ⟨found_5, e42, h⟩ := ltv_elim h
            refine s_iinc X 1 rfl g41 e42 rfl (by omega) dX1_countAt_65 ?_
            obtain ⟨g43, h⟩ := grd_some h
            obtain ⟨trip_4, e44, h⟩ := ltv_elim h
            refine s_iinc X 1 rfl g43 e44 rfl (by omega) dX1_countAt_68 ?_
            refine s_goto (tgt := 4) X dX1_countAt_71 (by omega) ?_
            exact ih9 _ _ _ (iter_next h hc8)
        obtain ⟨g23, h⟩ := grd_some h
        refine s_load0 X 2 rfl dX1_countAt_12 ?_
        refine s_getR (id := 433) X fk_X1_15 SHC_431 rfl dX1_countAt_13 ?_
        refine s_iload_n X 0 rfl dX1_countAt_16 ?_
        refine s_iald X SHC_433 g23.1 g23.2 dX1_countAt_17 ?_
        refine s_iload_n X 3 rfl dX1_countAt_18 ?_
        refine s_icmpne_f (tgt := 39) X dX1_countAt_19 (by omega) (fun c26 => ?_) (fun c27 => ?_)
        · replace h := ite_neg h c26
          exact s_kn rfl rfl (K22 _ _ h)
        · replace h := ite_pos h c27
          obtain ⟨g28, h⟩ := grd_some h
          refine s_load0 X 2 rfl dX1_countAt_22 ?_
          refine s_getR (id := 436) X fk_X1_24 SHC_431 rfl dX1_countAt_23 ?_
          refine s_iload_n X 1 rfl dX1_countAt_26 ?_
          refine s_const X (by unfold InR; omega) dX1_countAt_27 ?_
          refine s_load0 X 2 rfl dX1_countAt_28 ?_
          refine s_getR (id := 435) X fk_X1_21 SHC_431 rfl dX1_countAt_29 ?_
          refine s_iload_n X 0 rfl dX1_countAt_32 ?_
          refine s_iald X SHC_435 g23.1 g23.2 dX1_countAt_33 ?_
          refine s_imul X g28.2.2 dX1_countAt_34 ?_
          obtain ⟨m_3, e29, h⟩ := ltv_elim h
          refine s_iast X e29 SHC_436 g28.1 g28.2.1 dX1_countAt_35 ?_
          obtain ⟨g30, h⟩ := grd_some h
          obtain ⟨found_4, e31, h⟩ := ltv_elim h
          refine s_iinc X 1 rfl g30 e31 rfl (by omega) dX1_countAt_36 ?_
          refine s_loc [1, 0, 2, 3] rfl ?_
          exact s_kn rfl rfl (K22 _ _ h)
  exact LP10 _ _ _ _ hl15
set_option maxRecDepth 20000 in
set_option maxHeartbeats 4000000 in
theorem L_C_Fleet_countByTimes (G : Gl) (stops_ : Int) (m : Mem) (r : (Int × Mem))  (h : C_Fleet_countByTimes stops_ m = some r) : Con SHC G yX1_countByTimes cX1_countByTimes 4 (some .int) rm_X1_countByTimes [VR 431, VI stops_] m (((.inl (some (VI r.1)), r.2) : Res × Mem)) := by
  refine con_of (own := "Lastbus$Fleet") (by decide) rfl (Nat.le_of_ble_eq_true rfl) (fun C X => ?_)
  obtain ⟨O, hO⟩ : ∃ O : Res × Mem, O = (((.inl (some (VI r.1)), r.2) : Res × Mem)) := ⟨_, rfl⟩
  rw [← hO]
  show J SHC G rm_X1_countByTimes (.inl O) C 0 0 0 [(0, VR 431), (1, VI stops_)] [] m
  unfold C_Fleet_countByTimes at h
  refine s_const X (by unfold InR; omega) dX1_countByTimes_0 ?_
  obtain ⟨sum_, e2, h⟩ := ltv_elim h
  refine s_istore_n X e2 rfl (by omega) dX1_countByTimes_1 ?_
  refine s_const X (by unfold InR; omega) dX1_countByTimes_2 ?_
  obtain ⟨stop_, e4, h⟩ := ltv_elim h
  refine s_istore_n X e4 rfl (by omega) dX1_countByTimes_3 ?_
  obtain ⟨sum_4, stop_4, m_3, hl14, h⟩ := bq3_some h
  obtain ⟨fu50, hl15⟩ := loop_iter hl14
  have KX11 : ∀ q9 : Int × Int × Mem, q9 = (sum_4, stop_4, m_3) → J SHC G rm_X1_countByTimes (.inl O) C 0 0 23 [(3, VI q9.2.1), (2, VI q9.1), (0, VR 431), (1, VI stops_)] [] (q9.2.2) := by
    intro q9 e9
    subst e9
    show J SHC G rm_X1_countByTimes (.inl O) C 0 0 23 [(3, VI stop_4), (2, VI sum_4), (0, VR 431), (1, VI stops_)] [] m_3
    refine s_iload_n X 1 rfl dX1_countByTimes_23 ?_
    exact s_iret X (Nat.le_of_ble_eq_true rfl) (Nat.le_of_ble_eq_true rfl) (by cases h; exact hO) dX1_countByTimes_24
  have LP10 : ∀ (fu5 : Nat) (sum_2 : Int) (stop_2 : Int) (m_ : Mem), iter (fun s => C_Fleet_countByTimes_b1 stops_ s.1 s.2.1 s.2.2) fu5 (sum_2, stop_2, m_) = some (sum_4, stop_4, m_3) → J SHC G rm_X1_countByTimes (.inl O) C 0 0 4 [(3, VI stop_2), (2, VI sum_2), (0, VR 431), (1, VI stops_)] [] m_ := by
    intro fu5
    induction fu5 with
    | zero => intro sum_2 stop_2 m_ hn6; exact absurd hn6 (by simp [iter])
    | succ fu5 ih9 =>
      intro sum_2 stop_2 m_ hn6
      obtain ⟨x7, h, hc8⟩ := iter_succ hn6
      replace h : C_Fleet_countByTimes_b1 stops_ sum_2 stop_2 m_ = some x7 := h
      unfold C_Fleet_countByTimes_b1 at h
      refine s_iload_n X 0 rfl dX1_countByTimes_4 ?_
      refine s_iload_n X 3 rfl dX1_countByTimes_5 ?_
      refine s_icmpge_f (tgt := 23) X dX1_countByTimes_6 (by omega) (fun c19 => ?_) (fun c20 => ?_)
      · replace h := ite_neg h c19
        exact KX11 _ (iter_exit h hc8)
      · replace h := ite_pos h c20
        refine s_iload_n X 1 rfl dX1_countByTimes_9 ?_
        refine s_load0 X 2 rfl dX1_countByTimes_10 ?_
        refine s_iload_n X 0 rfl dX1_countByTimes_11 ?_
        obtain ⟨r_, m_2, hq22, h⟩ := bq2_some h
        refine s_callV (As := [VI stop_2]) X cw_X1_70 SHC_431 rfl dX1_countByTimes_12 (L_C_Fleet_countAt G stop_2 m_ (r_, m_2) hq22) rfl ⟨Nat.le_of_ble_eq_true rfl, Nat.le_of_ble_eq_true rfl⟩ ⟨Nat.le_of_ble_eq_true rfl, Nat.le_of_ble_eq_true rfl⟩ (Nat.le_of_ble_eq_true rfl) noT (kkR ?_)
        obtain ⟨g24, h⟩ := grd_some h
        refine s_iadd X g24 dX1_countByTimes_15 ?_
        obtain ⟨sum_3, e25, h⟩ := ltv_elim h
        refine s_istore_n X e25 rfl (by omega) dX1_countByTimes_16 ?_
        obtain ⟨g26, h⟩ := grd_some h
        obtain ⟨stop_3, e27, h⟩ := ltv_elim h
        refine s_iinc X 1 rfl g26 e27 rfl (by omega) dX1_countByTimes_17 ?_
        refine s_goto (tgt := 4) X dX1_countByTimes_20 (by omega) ?_
        exact ih9 _ _ _ (iter_next h hc8)
  exact LP10 _ _ _ _ hl15
set_option maxRecDepth 20000 in
set_option maxHeartbeats 4000000 in
theorem L_C_vehicles (G : Gl) (day_ : Int) (m : Mem) (r : ((Int ⊕ Nat) × Mem))  (h : C_vehicles day_ m = some r) : Con SHC G yX11_vehicles cX11_vehicles 2 (some .int) rm_X11_vehicles [VR 0, VI day_] m (oT wI r) := by
  refine con_of (own := "Lastbus") (by decide) rfl (Nat.le_of_ble_eq_true rfl) (fun C X => ?_)
  obtain ⟨O, hO⟩ : ∃ O : Res × Mem, O = (oT wI r) := ⟨_, rfl⟩
  rw [← hO]
  show J SHC G rm_X11_vehicles (.inl O) C 0 0 0 [(0, VR 0), (1, VI day_)] [] m
  unfold C_vehicles at h
  refine s_iload_n X 1 rfl dX11_vehicles_0 ?_
  obtain ⟨q3, hq2, h⟩ := bnd_some h
  refine s_callS (As := [VI day_]) X cw_X11_140 dX11_vehicles_1 (L_C_needDay G day_ m q3 hq2) rfl ⟨Nat.le_of_ble_eq_true rfl, Nat.le_of_ble_eq_true rfl⟩ ⟨Nat.le_of_ble_eq_true rfl, Nat.le_of_ble_eq_true rfl⟩ (Nat.le_of_ble_eq_true rfl) (thr_up hO h) (kkT fun u_ m_ e9 => ?_)
  subst e9
  replace h := tbd_inl h
  refine s_load0 X 0 rfl dX11_vehicles_4 ?_
  refine s_getR (id := 431) X fk_X11_79 SHC_0 rfl dX11_vehicles_5 ?_
  refine s_load0 X 0 rfl dX11_vehicles_8 ?_
  refine s_getR (id := 29) X fk_X11_19 SHC_0 rfl dX11_vehicles_9 ?_
  refine s_load0 X 0 rfl dX11_vehicles_12 ?_
  refine s_getR (id := 31) X fk_X11_26 SHC_0 rfl dX11_vehicles_13 ?_
  refine s_iload_n X 1 rfl dX11_vehicles_16 ?_
  obtain ⟨m_2, hq6, h⟩ := bnd_some h
  refine s_callV (As := [VR 29, VR 31, VI day_]) X cw_X11_398 SHC_431 rfl dX11_vehicles_17 (L_C_Fleet_gather G day_ m_ m_2 hq6) rfl ⟨Nat.le_of_ble_eq_true rfl, Nat.le_of_ble_eq_true rfl⟩ ⟨Nat.le_of_ble_eq_true rfl, Nat.le_of_ble_eq_true rfl⟩ (Nat.le_of_ble_eq_true rfl) noT (kkU ?_)
  refine s_load0 X 0 rfl dX11_vehicles_20 ?_
  refine s_getR (id := 431) X fk_X11_79 SHC_0 rfl dX11_vehicles_21 ?_
  refine s_load0 X 0 rfl dX11_vehicles_24 ?_
  refine s_getR (id := 1) X fk_X11_12 SHC_0 rfl dX11_vehicles_25 ?_
  refine s_getI X fk_X11_92 SHC_1 rfl dX11_vehicles_28 ?_
  obtain ⟨r_, m_3, hq10, h⟩ := bq2_some h
  refine s_callV (As := [VI (m_2 1 0)]) X cw_X11_402 SHC_431 rfl dX11_vehicles_31 (L_C_Fleet_countByTimes G (m_2 1 0) m_2 (r_, m_3) hq10) rfl ⟨Nat.le_of_ble_eq_true rfl, Nat.le_of_ble_eq_true rfl⟩ ⟨Nat.le_of_ble_eq_true rfl, Nat.le_of_ble_eq_true rfl⟩ (Nat.le_of_ble_eq_true rfl) noT (kkR ?_)
  exact s_iret X (Nat.le_of_ble_eq_true rfl) (Nat.le_of_ble_eq_true rfl) (by cases h; exact hO) dX11_vehicles_34
set_option maxRecDepth 20000 in
set_option maxHeartbeats 4000000 in
theorem L_C_Fleet_canFollow (G : Gl) (trip_ : Int) (next_ : Int) (m : Mem) (r : Int)  (h : C_Fleet_canFollow trip_ next_ m = some r) : Con SHC G yX1_canFollow cX1_canFollow 3 (some .boolean) rm_X1_canFollow [VR 431, VI trip_, VI next_] m (((.inl (some (VI r)), m) : Res × Mem)) := by
  refine con_of (own := "Lastbus$Fleet") (by decide) rfl (Nat.le_of_ble_eq_true rfl) (fun C X => ?_)
  obtain ⟨O, hO⟩ : ∃ O : Res × Mem, O = (((.inl (some (VI r)), m) : Res × Mem)) := ⟨_, rfl⟩
  rw [← hO]
  show J SHC G rm_X1_canFollow (.inl O) C 0 0 0 [(0, VR 431), (1, VI trip_), (2, VI next_)] [] m
  unfold C_Fleet_canFollow at h
  obtain ⟨g1, h⟩ := grd_some h
  have kM2 : J SHC G rm_X1_canFollow (.inl O) C 0 0 35 [(0, VR 431), (1, VI trip_), (2, VI next_)] [VI (if (m 433 trip_.toNat = m 432 next_.toNat) ∧ (m 435 trip_.toNat ≤ m 434 next_.toNat) then 1 else 0)] m := by
    exact s_zret X okT_ite (Nat.le_of_ble_eq_true rfl) (Nat.le_of_ble_eq_true rfl) (by cases h; exact hO) dX1_canFollow_35
  refine s_load0 X 0 rfl dX1_canFollow_0 ?_
  refine s_getR (id := 433) X fk_X1_15 SHC_431 rfl dX1_canFollow_1 ?_
  refine s_iload_n X 1 rfl dX1_canFollow_4 ?_
  refine s_iald X SHC_433 g1.1 g1.2.1 dX1_canFollow_5 ?_
  refine s_load0 X 0 rfl dX1_canFollow_6 ?_
  refine s_getR (id := 432) X fk_X1_9 SHC_431 rfl dX1_canFollow_7 ?_
  refine s_iload_n X 2 rfl dX1_canFollow_10 ?_
  refine s_iald X SHC_432 g1.2.2.1 g1.2.2.2 dX1_canFollow_11 ?_
  refine s_icmpne_f (tgt := 34) X dX1_canFollow_12 (by omega) (fun c3 => ?_) (fun c4 => ?_)
  · refine s_const X (by unfold InR; omega) dX1_canFollow_34 ?_
    exact s_eqt (if_neg (fun q => c3 q.1)) kM2
  · have a5 : m 433 trip_.toNat = m 432 next_.toNat := c4
    refine s_load0 X 0 rfl dX1_canFollow_15 ?_
    refine s_getR (id := 435) X fk_X1_21 SHC_431 rfl dX1_canFollow_16 ?_
    refine s_iload_n X 1 rfl dX1_canFollow_19 ?_
    refine s_iald X SHC_435 g1.1 g1.2.1 dX1_canFollow_20 ?_
    refine s_load0 X 0 rfl dX1_canFollow_21 ?_
    refine s_getR (id := 434) X fk_X1_18 SHC_431 rfl dX1_canFollow_22 ?_
    refine s_iload_n X 2 rfl dX1_canFollow_25 ?_
    refine s_iald X SHC_434 g1.2.2.1 g1.2.2.2 dX1_canFollow_26 ?_
    refine s_icmpgt_f (tgt := 34) X dX1_canFollow_27 (by omega) (fun c6 => ?_) (fun c7 => ?_)
    · refine s_const X (by unfold InR; omega) dX1_canFollow_34 ?_
      exact s_eqt (if_neg (fun q => c6 q.2)) kM2
    · refine s_const X (by unfold InR; omega) dX1_canFollow_30 ?_
      refine s_goto (tgt := 35) X dX1_canFollow_31 (by omega) ?_
      exact s_eqt (if_pos ⟨a5, c7⟩) kM2
set_option maxRecDepth 20000 in
set_option maxHeartbeats 4000000 in
theorem L_C_Fleet_findFree (G : Gl) (trip_ : Int) (m : Mem) (r : (Int × Mem))  (h : C_Fleet_findFree trip_ m = some r) : Con SHC G yX1_findFree cX1_findFree 5 (some .int) rm_X1_findFree [VR 431, VI trip_] m (((.inl (some (VI r.1)), r.2) : Res × Mem)) := by
  refine con_of (own := "Lastbus$Fleet") (by decide) rfl (Nat.le_of_ble_eq_true rfl) (fun C X => ?_)
  obtain ⟨O, hO⟩ : ∃ O : Res × Mem, O = (((.inl (some (VI r.1)), r.2) : Res × Mem)) := ⟨_, rfl⟩
  rw [← hO]
  show J SHC G rm_X1_findFree (.inl O) C 0 0 0 [(0, VR 431), (1, VI trip_)] [] m
  unfold C_Fleet_findFree at h
  refine s_const X (by unfold InR; omega) dX1_findFree_0 ?_
  obtain ⟨next_, e2, h⟩ := ltv_elim h
  refine s_istore_n X e2 rfl (by omega) dX1_findFree_1 ?_
  obtain ⟨next_4, m_3, hl12, h⟩ := bq2_some h
  obtain ⟨fu30, hl13⟩ := loop_iter hl12
  have KX9 : ∀ q9 : Int × Mem, q9 = (next_4, m_3) → J SHC G rm_X1_findFree (.inl O) C 0 0 23 [(2, VI q9.1), (0, VR 431), (1, VI trip_)] [] (q9.2) := by
    intro q9 e9
    subst e9
    show J SHC G rm_X1_findFree (.inl O) C 0 0 23 [(2, VI next_4), (0, VR 431), (1, VI trip_)] [] m_3
    refine s_load0 X 1 rfl dX1_findFree_23 ?_
    refine s_getR (id := 440) X fk_X1_36 SHC_431 rfl dX1_findFree_24 ?_
    refine s_const X (by unfold InR; omega) dX1_findFree_27 ?_
    refine s_iload_n X 2 rfl dX1_findFree_28 ?_
    obtain ⟨m_4, e24, h⟩ := ltv_elim h
    refine s_iast X e24 SHC_440 (by omega) (by omega) dX1_findFree_29 ?_
    refine s_const X (by unfold InR; omega) dX1_findFree_30 ?_
    obtain ⟨waiting_, e26, h⟩ := ltv_elim h
    refine s_istore_n X e26 rfl (by omega) dX1_findFree_31 ?_
    refine s_const X (by unfold InR; omega) dX1_findFree_32 ?_
    obtain ⟨turn_, e28, h⟩ := ltv_elim h
    refine s_istore_n X e28 rfl (by omega) dX1_findFree_33 ?_
    obtain ⟨s36, hl38, h⟩ := br3_some h
    obtain ⟨fu290, hl39⟩ := loop_iter hl38
    have KR37 : ∀ q9 : (Int × Mem), .inr q9 = s36 → O = ((.inl (some (VI q9.1)), q9.2) : Res × Mem) := by
      intro q9 e9
      subst e9
      replace h := brm3_inr h
      exact (by cases h; exact hO)
    have KX35 : ∀ q9 : Int × Int × Mem, .inl q9 = s36 → J SHC G rm_X1_findFree (.inl O) C 0 0 138 [(3, VI q9.2.1), (2, VI q9.1), (0, VR 431), (1, VI trip_)] [] (q9.2.2) := by
      intro q9 e9
      subst e9
      obtain ⟨waiting_6, turn_4, m_10⟩ := q9
      replace h := brm3_inl h
      show J SHC G rm_X1_findFree (.inl O) C 0 0 138 [(3, VI turn_4), (2, VI waiting_6), (0, VR 431), (1, VI trip_)] [] m_10
      refine s_const X (by unfold InR; omega) dX1_findFree_138 ?_
      exact s_iret X (Nat.le_of_ble_eq_true rfl) (Nat.le_of_ble_eq_true rfl) (by cases h; exact hO) dX1_findFree_139
    have LP34 : ∀ (fu29 : Nat) (waiting_2 : Int) (turn_2 : Int) (m_5 : Mem), iter (fun s => C_Fleet_findFree_b2 s.1 s.2.1 s.2.2) fu29 (waiting_2, turn_2, m_5) = some s36 → J SHC G rm_X1_findFree (.inl O) C 0 0 34 [(3, VI turn_2), (2, VI waiting_2), (0, VR 431), (1, VI trip_)] [] m_5 := by
      intro fu29
      induction fu29 with
      | zero => intro waiting_2 turn_2 m_5 hn30; exact absurd hn30 (by simp [iter])
      | succ fu29 ih33 =>
        intro waiting_2 turn_2 m_5 hn30
        obtain ⟨x31, h, hc32⟩ := iter_succ hn30
        replace h : C_Fleet_findFree_b2 waiting_2 turn_2 m_5 = some x31 := h
        unfold C_Fleet_findFree_b2 at h
        refine s_iload_n X 0 rfl dX1_findFree_34 ?_
        refine s_iload_n X 1 rfl dX1_findFree_35 ?_
        refine s_icmpge_f (tgt := 138) X dX1_findFree_36 (by omega) (fun c43 => ?_) (fun c44 => ?_)
        · replace h := ite_neg h c43
          exact KX35 _ (iter_exit h hc32)
        · replace h := ite_pos h c44
          refine s_const X (by unfold InR; omega) dX1_findFree_39 ?_
          obtain ⟨next_5, e46, h⟩ := ltv_elim h
          refine s_istore X e46 rfl (by omega) dX1_findFree_40 ?_
          obtain ⟨s54, hl56, h⟩ := br3_some h
          obtain ⟨fu470, hl57⟩ := loop_iter hl56
          have KR55 : ∀ q9 : (Int × Mem), .inr q9 = s54 → O = ((.inl (some (VI q9.1)), q9.2) : Res × Mem) := by
            intro q9 e9
            subst e9
            replace h := brm3_inr h
            exact (KR37 _ (iter_exit h hc32))
          have KX53 : ∀ q9 : Int × Int × Mem, .inl q9 = s54 → J SHC G rm_X1_findFree (.inl O) C 0 0 132 [(4, VI q9.2.1), (3, VI turn_2), (2, VI q9.1), (0, VR 431), (1, VI trip_)] [] (q9.2.2) := by
            intro q9 e9
            subst e9
            obtain ⟨waiting_5, next_11, m_9⟩ := q9
            replace h := brm3_inl h
            show J SHC G rm_X1_findFree (.inl O) C 0 0 132 [(4, VI next_11), (3, VI turn_2), (2, VI waiting_5), (0, VR 431), (1, VI trip_)] [] m_9
            obtain ⟨g99, h⟩ := grd_some h
            obtain ⟨turn_3, e100, h⟩ := ltv_elim h
            refine s_iinc X 1 rfl g99 e100 rfl (by omega) dX1_findFree_132 ?_
            refine s_goto (tgt := 34) X dX1_findFree_135 (by omega) ?_
            refine s_loc [0, 2, 3, 4] rfl ?_
            exact ih33 _ _ _ (iter_next h hc32)
          have LP52 : ∀ (fu47 : Nat) (waiting_3 : Int) (next_6 : Int) (m_6 : Mem), iter (fun s => C_Fleet_findFree_b3 turn_2 s.1 s.2.1 s.2.2) fu47 (waiting_3, next_6, m_6) = some s54 → J SHC G rm_X1_findFree (.inl O) C 0 0 42 [(4, VI next_6), (3, VI turn_2), (2, VI waiting_3), (0, VR 431), (1, VI trip_)] [] m_6 := by
            intro fu47
            induction fu47 with
            | zero => intro waiting_3 next_6 m_6 hn48; exact absurd hn48 (by simp [iter])
            | succ fu47 ih51 =>
              intro waiting_3 next_6 m_6 hn48
              obtain ⟨x49, h, hc50⟩ := iter_succ hn48
              replace h : C_Fleet_findFree_b3 turn_2 waiting_3 next_6 m_6 = some x49 := h
              unfold C_Fleet_findFree_b3 at h
              refine s_iload X 0 rfl dX1_findFree_42 ?_
              refine s_load0 X 3 rfl dX1_findFree_44 ?_
              refine s_getI X fk_X1_42 SHC_431 rfl dX1_findFree_45 ?_
              refine s_icmpge_f (tgt := 132) X dX1_findFree_48 (by omega) (fun c61 => ?_) (fun c62 => ?_)
              · replace h := ite_neg h c61
                exact KX53 _ (iter_exit h hc50)
              · replace h := ite_pos h c62
                obtain ⟨g63, h⟩ := grd_some h
                refine s_load0 X 3 rfl dX1_findFree_51 ?_
                refine s_getR (id := 441) X fk_X1_39 SHC_431 rfl dX1_findFree_52 ?_
                refine s_iload X 0 rfl dX1_findFree_55 ?_
                refine s_iald X SHC_441 g63.1 g63.2 dX1_findFree_57 ?_
                refine s_const X (by unfold InR; omega) dX1_findFree_58 ?_
                refine s_icmpne_f (tgt := 126) X dX1_findFree_59 (by omega) (fun c66 => ?_) (fun c67 => ?_)
                · replace h := ite_neg h c66
                  obtain ⟨g68, h⟩ := grd_some h
                  obtain ⟨next_7, e69, h⟩ := ltv_elim h
                  refine s_iinc X 0 rfl g68 e69 rfl (by omega) dX1_findFree_126 ?_
                  refine s_goto (tgt := 42) X dX1_findFree_129 (by omega) ?_
                  exact ih51 _ _ _ (iter_next h hc50)
                · replace h := ite_pos h c67
                  obtain ⟨g70, h⟩ := grd_some h
                  refine s_load0 X 3 rfl dX1_findFree_62 ?_
                  refine s_load0 X 3 rfl dX1_findFree_63 ?_
                  refine s_getR (id := 440) X fk_X1_36 SHC_431 rfl dX1_findFree_64 ?_
                  refine s_iload_n X 1 rfl dX1_findFree_67 ?_
                  refine s_iald X SHC_440 g70.1 g70.2 dX1_findFree_68 ?_
                  refine s_iload X 0 rfl dX1_findFree_69 ?_
                  obtain ⟨r_, hq71, h⟩ := bnd_some h
                  refine s_callV (As := [VI (m_6 440 turn_2.toNat), VI next_6]) X cw_X1_85 SHC_431 rfl dX1_findFree_71 (L_C_Fleet_canFollow G (m_6 440 turn_2.toNat) next_6 m_6 r_ hq71) rfl ⟨Nat.le_of_ble_eq_true rfl, Nat.le_of_ble_eq_true rfl⟩ ⟨Nat.le_of_ble_eq_true rfl, Nat.le_of_ble_eq_true rfl⟩ (Nat.le_of_ble_eq_true rfl) noT (kkR ?_)
                  refine s_ifeq_f (tgt := 126) X dX1_findFree_74 (by omega) (fun c74 => ?_) (fun c75 => ?_)
                  · replace h := ite_neg h c74
                    obtain ⟨g76, h⟩ := grd_some h
                    obtain ⟨next_8, e77, h⟩ := ltv_elim h
                    refine s_iinc X 0 rfl g76 e77 rfl (by omega) dX1_findFree_126 ?_
                    refine s_goto (tgt := 42) X dX1_findFree_129 (by omega) ?_
                    exact ih51 _ _ _ (iter_next h hc50)
                  · replace h := ite_pos h c75
                    refine s_load0 X 3 rfl dX1_findFree_77 ?_
                    refine s_getR (id := 441) X fk_X1_39 SHC_431 rfl dX1_findFree_78 ?_
                    refine s_iload X 0 rfl dX1_findFree_81 ?_
                    refine s_load0 X 3 rfl dX1_findFree_83 ?_
                    refine s_getR (id := 440) X fk_X1_36 SHC_431 rfl dX1_findFree_84 ?_
                    refine s_iload_n X 1 rfl dX1_findFree_87 ?_
                    refine s_iald X SHC_440 g70.1 g70.2 dX1_findFree_88 ?_
                    obtain ⟨m_7, e79, h⟩ := ltv_elim h
                    refine s_iast X e79 SHC_441 g63.1 g63.2 dX1_findFree_89 ?_
                    refine s_load0 X 3 rfl dX1_findFree_90 ?_
                    refine s_getR (id := 439) X fk_X1_33 SHC_431 rfl dX1_findFree_91 ?_
                    refine s_iload X 0 rfl dX1_findFree_94 ?_
                    refine s_iald X SHC_439 g63.1 g63.2 dX1_findFree_96 ?_
                    refine s_const X (by unfold InR; omega) dX1_findFree_97 ?_
                    refine s_icmpne_f (tgt := 104) X dX1_findFree_98 (by omega) (fun c83 => ?_) (fun c84 => ?_)
                    · replace h := ite_neg h c83
                      refine s_iload_n X 2 rfl dX1_findFree_104 ?_
                      refine s_bipush X (by omega) dX1_findFree_105 ?_
                      refine s_icmpge_f (tgt := 126) X dX1_findFree_107 (by omega) (fun c88 => ?_) (fun c89 => ?_)
                      · replace h := ite_neg h c88
                        obtain ⟨g90, h⟩ := grd_some h
                        obtain ⟨next_9, e91, h⟩ := ltv_elim h
                        refine s_iinc X 0 rfl g90 e91 rfl (by omega) dX1_findFree_126 ?_
                        refine s_goto (tgt := 42) X dX1_findFree_129 (by omega) ?_
                        exact ih51 _ _ _ (iter_next h hc50)
                      · replace h := ite_pos h c89
                        obtain ⟨g92, h⟩ := grd_some h
                        refine s_load0 X 3 rfl dX1_findFree_110 ?_
                        refine s_getR (id := 440) X fk_X1_36 SHC_431 rfl dX1_findFree_111 ?_
                        refine s_iload_n X 2 rfl dX1_findFree_114 ?_
                        refine s_load0 X 3 rfl dX1_findFree_115 ?_
                        refine s_getR (id := 439) X fk_X1_33 SHC_431 rfl dX1_findFree_116 ?_
                        refine s_iload X 0 rfl dX1_findFree_119 ?_
                        refine s_iald X SHC_439 g63.1 g63.2 dX1_findFree_121 ?_
                        obtain ⟨m_8, e93, h⟩ := ltv_elim h
                        refine s_iast X e93 SHC_440 g92.1 g92.2 dX1_findFree_122 ?_
                        obtain ⟨g94, h⟩ := grd_some h
                        obtain ⟨waiting_4, e95, h⟩ := ltv_elim h
                        refine s_iinc X 2 rfl g94 e95 rfl (by omega) dX1_findFree_123 ?_
                        obtain ⟨g96, h⟩ := grd_some h
                        obtain ⟨next_10, e97, h⟩ := ltv_elim h
                        refine s_iinc X 1 rfl g96 e97 rfl (by omega) dX1_findFree_126 ?_
                        refine s_goto (tgt := 42) X dX1_findFree_129 (by omega) ?_
                        refine s_loc [0, 2, 1, 3, 4] rfl ?_
                        exact ih51 _ _ _ (iter_next h hc50)
                    · replace h := ite_pos h c84
                      refine s_iload X 0 rfl dX1_findFree_101 ?_
                      exact s_iret X (Nat.le_of_ble_eq_true rfl) (Nat.le_of_ble_eq_true rfl) (KR55 _ (iter_exit h hc50)) dX1_findFree_103
          exact LP52 _ _ _ _ hl57
    exact LP34 _ _ _ _ hl39
  have LP8 : ∀ (fu3 : Nat) (next_2 : Int) (m_ : Mem), iter (fun s => C_Fleet_findFree_b1 s.1 s.2) fu3 (next_2, m_) = some (next_4, m_3) → J SHC G rm_X1_findFree (.inl O) C 0 0 2 [(2, VI next_2), (0, VR 431), (1, VI trip_)] [] m_ := by
    intro fu3
    induction fu3 with
    | zero => intro next_2 m_ hn4; exact absurd hn4 (by simp [iter])
    | succ fu3 ih7 =>
      intro next_2 m_ hn4
      obtain ⟨x5, h, hc6⟩ := iter_succ hn4
      replace h : C_Fleet_findFree_b1 next_2 m_ = some x5 := h
      unfold C_Fleet_findFree_b1 at h
      refine s_iload_n X 0 rfl dX1_findFree_2 ?_
      refine s_load0 X 1 rfl dX1_findFree_3 ?_
      refine s_getI X fk_X1_42 SHC_431 rfl dX1_findFree_4 ?_
      refine s_icmpge_f (tgt := 23) X dX1_findFree_7 (by omega) (fun c17 => ?_) (fun c18 => ?_)
      · replace h := ite_neg h c17
        exact KX9 _ (iter_exit h hc6)
      · replace h := ite_pos h c18
        obtain ⟨g19, h⟩ := grd_some h
        refine s_load0 X 1 rfl dX1_findFree_10 ?_
        refine s_getR (id := 441) X fk_X1_39 SHC_431 rfl dX1_findFree_11 ?_
        refine s_iload_n X 0 rfl dX1_findFree_14 ?_
        refine s_const X (by unfold InR; omega) dX1_findFree_15 ?_
        obtain ⟨m_2, e20, h⟩ := ltv_elim h
        refine s_iast X e20 SHC_441 g19.1 g19.2 dX1_findFree_16 ?_
        obtain ⟨g21, h⟩ := grd_some h
        obtain ⟨next_3, e22, h⟩ := ltv_elim h
        refine s_iinc X 0 rfl g21 e22 rfl (by omega) dX1_findFree_17 ?_
        refine s_goto (tgt := 2) X dX1_findFree_20 (by omega) ?_
        exact ih7 _ _ (iter_next h hc6)
  exact LP8 _ _ _ hl13
set_option maxRecDepth 20000 in
set_option maxHeartbeats 4000000 in
theorem L_C_Fleet_matchBack (G : Gl) (end_ : Int) (m : Mem) (r : Mem)  (h : C_Fleet_matchBack end_ m = some r) : Con SHC G yX1_matchBack cX1_matchBack 6 none rm_X1_matchBack [VR 431, VI end_] m (((.inl none, r) : Res × Mem)) := by
  refine con_of (own := "Lastbus$Fleet") (by decide) rfl (Nat.le_of_ble_eq_true rfl) (fun C X => ?_)
  obtain ⟨O, hO⟩ : ∃ O : Res × Mem, O = (((.inl none, r) : Res × Mem)) := ⟨_, rfl⟩
  rw [← hO]
  show J SHC G rm_X1_matchBack (.inl O) C 0 0 0 [(0, VR 431), (1, VI end_)] [] m
  unfold C_Fleet_matchBack at h
  refine s_iload_n X 1 rfl dX1_matchBack_0 ?_
  obtain ⟨next_, e2, h⟩ := ltv_elim h
  refine s_istore_n X e2 rfl (by omega) dX1_matchBack_1 ?_
  refine s_const X (by unfold InR; omega) dX1_matchBack_2 ?_
  obtain ⟨turn_, e4, h⟩ := ltv_elim h
  refine s_istore_n X e4 rfl (by omega) dX1_matchBack_3 ?_
  obtain ⟨next_4, turn_4, m_4, hl14, h⟩ := bq3_some h
  obtain ⟨fu50, hl15⟩ := loop_iter hl14
  have KX11 : ∀ q9 : Int × Int × Mem, q9 = (next_4, turn_4, m_4) → J SHC G rm_X1_matchBack (.inl O) C 0 0 69 [(3, VI q9.2.1), (2, VI q9.1), (0, VR 431), (1, VI end_)] [] (q9.2.2) := by
    intro q9 e9
    subst e9
    show J SHC G rm_X1_matchBack (.inl O) C 0 0 69 [(3, VI turn_4), (2, VI next_4), (0, VR 431), (1, VI end_)] [] m_4
    exact s_vret X (Nat.le_of_ble_eq_true rfl) (Nat.le_of_ble_eq_true rfl) (by cases h; exact hO) dX1_matchBack_69
  have LP10 : ∀ (fu5 : Nat) (next_2 : Int) (turn_2 : Int) (m_ : Mem), iter (fun s => C_Fleet_matchBack_b1 s.1 s.2.1 s.2.2) fu5 (next_2, turn_2, m_) = some (next_4, turn_4, m_4) → J SHC G rm_X1_matchBack (.inl O) C 0 0 4 [(3, VI turn_2), (2, VI next_2), (0, VR 431), (1, VI end_)] [] m_ := by
    intro fu5
    induction fu5 with
    | zero => intro next_2 turn_2 m_ hn6; exact absurd hn6 (by simp [iter])
    | succ fu5 ih9 =>
      intro next_2 turn_2 m_ hn6
      obtain ⟨x7, h, hc8⟩ := iter_succ hn6
      replace h : C_Fleet_matchBack_b1 next_2 turn_2 m_ = some x7 := h
      unfold C_Fleet_matchBack_b1 at h
      obtain ⟨g16, h⟩ := grd_some h
      have kF18 : ¬ (((turn_2 < m_ 431 0) ∧ (¬ next_2 = (-1))) ∧ (¬ m_ 441 next_2.toNat = (-1))) → J SHC G rm_X1_matchBack (.inl O) C 0 0 69 [(3, VI turn_2), (2, VI next_2), (0, VR 431), (1, VI end_)] [] m_ := by
        intro c21
        replace h := ite_neg h c21
        exact KX11 _ (iter_exit h hc8)
      refine s_iload_n X 0 rfl dX1_matchBack_4 ?_
      refine s_load0 X 2 rfl dX1_matchBack_5 ?_
      refine s_getI X fk_X1_42 SHC_431 rfl dX1_matchBack_6 ?_
      refine s_icmpge_f (tgt := 69) X dX1_matchBack_9 (by omega) (fun c19 => ?_) (fun c20 => ?_)
      · exact kF18 (fun q => (fun q => c19 q.1) q.1)
      · have a22 : turn_2 < m_ 431 0 := c20
        refine s_iload_n X 1 rfl dX1_matchBack_12 ?_
        refine s_const X (by unfold InR; omega) dX1_matchBack_13 ?_
        refine s_icmpeq_f (tgt := 69) X dX1_matchBack_14 (by omega) (fun c23 => ?_) (fun c24 => ?_)
        · exact kF18 (fun q => (fun q => c23 q.2) q.1)
        · have a25 : (turn_2 < m_ 431 0) ∧ (¬ next_2 = (-1)) := ⟨a22, c24⟩
          refine s_load0 X 2 rfl dX1_matchBack_17 ?_
          refine s_getR (id := 441) X fk_X1_39 SHC_431 rfl dX1_matchBack_18 ?_
          refine s_iload_n X 1 rfl dX1_matchBack_21 ?_
          refine s_iald X SHC_441 (g16.1 a25) (g16.2 a25) dX1_matchBack_22 ?_
          refine s_const X (by unfold InR; omega) dX1_matchBack_23 ?_
          refine s_icmpeq_f (tgt := 69) X dX1_matchBack_24 (by omega) (fun c26 => ?_) (fun c27 => ?_)
          · exact kF18 (fun q => c26 q.2)
          · replace h := ite_pos h ⟨a25, c27⟩
            obtain ⟨g28, h⟩ := grd_some h
            refine s_load0 X 2 rfl dX1_matchBack_27 ?_
            refine s_getR (id := 441) X fk_X1_39 SHC_431 rfl dX1_matchBack_28 ?_
            refine s_iload_n X 1 rfl dX1_matchBack_31 ?_
            refine s_iald X SHC_441 g28.1 g28.2 dX1_matchBack_32 ?_
            obtain ⟨trip_, e29, h⟩ := ltv_elim h
            refine s_istore X e29 rfl (by omega) dX1_matchBack_33 ?_
            obtain ⟨g30, h⟩ := grd_some h
            refine s_load0 X 3 rfl dX1_matchBack_35 ?_
            refine s_getR (id := 438) X fk_X1_30 SHC_431 rfl dX1_matchBack_36 ?_
            refine s_iload X 0 rfl dX1_matchBack_39 ?_
            refine s_iald X SHC_438 g30.1 g30.2 dX1_matchBack_41 ?_
            obtain ⟨freed_, e31, h⟩ := ltv_elim h
            refine s_istore X e31 rfl (by omega) dX1_matchBack_42 ?_
            refine s_load0 X 4 rfl dX1_matchBack_44 ?_
            refine s_getR (id := 438) X fk_X1_30 SHC_431 rfl dX1_matchBack_45 ?_
            refine s_iload X 1 rfl dX1_matchBack_48 ?_
            refine s_iload_n X 3 rfl dX1_matchBack_50 ?_
            obtain ⟨m_2, e33, h⟩ := ltv_elim h
            refine s_iast X e33 SHC_438 g30.1 g30.2 dX1_matchBack_51 ?_
            refine s_load0 X 4 rfl dX1_matchBack_52 ?_
            refine s_getR (id := 439) X fk_X1_33 SHC_431 rfl dX1_matchBack_53 ?_
            refine s_iload_n X 3 rfl dX1_matchBack_56 ?_
            refine s_iload X 1 rfl dX1_matchBack_57 ?_
            obtain ⟨m_3, e35, h⟩ := ltv_elim h
            refine s_iast X e35 SHC_439 g28.1 g28.2 dX1_matchBack_59 ?_
            refine s_iload X 0 rfl dX1_matchBack_60 ?_
            obtain ⟨next_3, e37, h⟩ := ltv_elim h
            refine s_istore_n X e37 rfl (by omega) dX1_matchBack_62 ?_
            obtain ⟨g38, h⟩ := grd_some h
            obtain ⟨turn_3, e39, h⟩ := ltv_elim h
            refine s_iinc X 3 rfl g38 e39 rfl (by omega) dX1_matchBack_63 ?_
            refine s_goto (tgt := 4) X dX1_matchBack_66 (by omega) ?_
            refine s_loc [0, 1, 4, 5] rfl ?_
            exact ih9 _ _ _ (iter_next h hc8)
  exact LP10 _ _ _ _ hl15
set_option maxRecDepth 20000 in
set_option maxHeartbeats 4000000 in
theorem L_C_Fleet_countByMatching (G : Gl)  (m : Mem) (r : (Int × Mem))  (h : C_Fleet_countByMatching  m = some r) : Con SHC G yX1_countByMatching cX1_countByMatching 4 (some .int) rm_X1_countByMatching [VR 431] m (((.inl (some (VI r.1)), r.2) : Res × Mem)) := by
  refine con_of (own := "Lastbus$Fleet") (by decide) rfl (Nat.le_of_ble_eq_true rfl) (fun C X => ?_)
  obtain ⟨O, hO⟩ : ∃ O : Res × Mem, O = (((.inl (some (VI r.1)), r.2) : Res × Mem)) := ⟨_, rfl⟩
  rw [← hO]
  show J SHC G rm_X1_countByMatching (.inl O) C 0 0 0 [(0, VR 431)] [] m
  unfold C_Fleet_countByMatching at h
  refine s_const X (by unfold InR; omega) dX1_countByMatching_0 ?_
  obtain ⟨trip_, e2, h⟩ := ltv_elim h
  refine s_istore_n X e2 rfl (by omega) dX1_countByMatching_1 ?_
  obtain ⟨trip_4, m_4, hl12, h⟩ := bq2_some h
  obtain ⟨fu30, hl13⟩ := loop_iter hl12
  have KX9 : ∀ q9 : Int × Mem, q9 = (trip_4, m_4) → J SHC G rm_X1_countByMatching (.inl O) C 0 0 30 [(1, VI q9.1), (0, VR 431)] [] (q9.2) := by
    intro q9 e9
    subst e9
    show J SHC G rm_X1_countByMatching (.inl O) C 0 0 30 [(1, VI trip_4), (0, VR 431)] [] m_4
    refine s_const X (by unfold InR; omega) dX1_countByMatching_30 ?_
    obtain ⟨matched_, e26, h⟩ := ltv_elim h
    refine s_istore_n X e26 rfl (by omega) dX1_countByMatching_31 ?_
    refine s_const X (by unfold InR; omega) dX1_countByMatching_32 ?_
    obtain ⟨trip_5, e28, h⟩ := ltv_elim h
    refine s_istore_n X e28 rfl (by omega) dX1_countByMatching_33 ?_
    obtain ⟨matched_4, trip_9, m_8, hl38, h⟩ := bq3_some h
    obtain ⟨fu290, hl39⟩ := loop_iter hl38
    have KX35 : ∀ q9 : Int × Int × Mem, q9 = (matched_4, trip_9, m_8) → J SHC G rm_X1_countByMatching (.inl O) C 0 0 67 [(2, VI q9.2.1), (1, VI q9.1), (0, VR 431)] [] (q9.2.2) := by
      intro q9 e9
      subst e9
      show J SHC G rm_X1_countByMatching (.inl O) C 0 0 67 [(2, VI trip_9), (1, VI matched_4), (0, VR 431)] [] m_8
      obtain ⟨g65, h⟩ := grd_some h
      refine s_load0 X 2 rfl dX1_countByMatching_67 ?_
      refine s_getI X fk_X1_42 SHC_431 rfl dX1_countByMatching_68 ?_
      refine s_iload_n X 1 rfl dX1_countByMatching_71 ?_
      refine s_isub X g65 dX1_countByMatching_72 ?_
      exact s_iret X (Nat.le_of_ble_eq_true rfl) (Nat.le_of_ble_eq_true rfl) (by cases h; exact hO) dX1_countByMatching_73
    have LP34 : ∀ (fu29 : Nat) (matched_2 : Int) (trip_6 : Int) (m_5 : Mem), iter (fun s => C_Fleet_countByMatching_b2 s.1 s.2.1 s.2.2) fu29 (matched_2, trip_6, m_5) = some (matched_4, trip_9, m_8) → J SHC G rm_X1_countByMatching (.inl O) C 0 0 34 [(2, VI trip_6), (1, VI matched_2), (0, VR 431)] [] m_5 := by
      intro fu29
      induction fu29 with
      | zero => intro matched_2 trip_6 m_5 hn30; exact absurd hn30 (by simp [iter])
      | succ fu29 ih33 =>
        intro matched_2 trip_6 m_5 hn30
        obtain ⟨x31, h, hc32⟩ := iter_succ hn30
        replace h : C_Fleet_countByMatching_b2 matched_2 trip_6 m_5 = some x31 := h
        unfold C_Fleet_countByMatching_b2 at h
        refine s_iload_n X 0 rfl dX1_countByMatching_34 ?_
        refine s_load0 X 2 rfl dX1_countByMatching_35 ?_
        refine s_getI X fk_X1_42 SHC_431 rfl dX1_countByMatching_36 ?_
        refine s_icmpge_f (tgt := 67) X dX1_countByMatching_39 (by omega) (fun c43 => ?_) (fun c44 => ?_)
        · replace h := ite_neg h c43
          exact KX35 _ (iter_exit h hc32)
        · replace h := ite_pos h c44
          refine s_load0 X 2 rfl dX1_countByMatching_42 ?_
          refine s_iload_n X 0 rfl dX1_countByMatching_43 ?_
          obtain ⟨r_, m_6, hq46, h⟩ := bq2_some h
          refine s_callV (As := [VI trip_6]) X cw_X1_78 SHC_431 rfl dX1_countByMatching_44 (L_C_Fleet_findFree G trip_6 m_5 (r_, m_6) hq46) rfl ⟨Nat.le_of_ble_eq_true rfl, Nat.le_of_ble_eq_true rfl⟩ ⟨Nat.le_of_ble_eq_true rfl, Nat.le_of_ble_eq_true rfl⟩ (Nat.le_of_ble_eq_true rfl) noT (kkR ?_)
          obtain ⟨end_, e49, h⟩ := ltv_elim h
          refine s_istore_n X e49 rfl (by omega) dX1_countByMatching_47 ?_
          refine s_iload_n X 0 rfl dX1_countByMatching_48 ?_
          refine s_const X (by unfold InR; omega) dX1_countByMatching_49 ?_
          refine s_icmpeq_f (tgt := 61) X dX1_countByMatching_50 (by omega) (fun c53 => ?_) (fun c54 => ?_)
          · replace h := ite_neg h c53
            obtain ⟨g55, h⟩ := grd_some h
            obtain ⟨trip_7, e56, h⟩ := ltv_elim h
            refine s_iinc X 1 rfl g55 e56 rfl (by omega) dX1_countByMatching_61 ?_
            refine s_goto (tgt := 34) X dX1_countByMatching_64 (by omega) ?_
            refine s_loc [0, 2, 3] rfl ?_
            exact ih33 _ _ _ (iter_next h hc32)
          · replace h := ite_pos h c54
            refine s_load0 X 3 rfl dX1_countByMatching_53 ?_
            refine s_iload_n X 0 rfl dX1_countByMatching_54 ?_
            obtain ⟨m_7, hq58, h⟩ := bnd_some h
            refine s_callV (As := [VI end_]) X cw_X1_81 SHC_431 rfl dX1_countByMatching_55 (L_C_Fleet_matchBack G end_ m_6 m_7 hq58) rfl ⟨Nat.le_of_ble_eq_true rfl, Nat.le_of_ble_eq_true rfl⟩ ⟨Nat.le_of_ble_eq_true rfl, Nat.le_of_ble_eq_true rfl⟩ (Nat.le_of_ble_eq_true rfl) noT (kkU ?_)
            obtain ⟨g61, h⟩ := grd_some h
            obtain ⟨matched_3, e62, h⟩ := ltv_elim h
            refine s_iinc X 2 rfl g61 e62 rfl (by omega) dX1_countByMatching_58 ?_
            obtain ⟨g63, h⟩ := grd_some h
            obtain ⟨trip_8, e64, h⟩ := ltv_elim h
            refine s_iinc X 2 rfl g63 e64 rfl (by omega) dX1_countByMatching_61 ?_
            refine s_goto (tgt := 34) X dX1_countByMatching_64 (by omega) ?_
            refine s_loc [0, 1, 3] rfl ?_
            exact ih33 _ _ _ (iter_next h hc32)
    exact LP34 _ _ _ _ hl39
  have LP8 : ∀ (fu3 : Nat) (trip_2 : Int) (m_ : Mem), iter (fun s => C_Fleet_countByMatching_b1 s.1 s.2) fu3 (trip_2, m_) = some (trip_4, m_4) → J SHC G rm_X1_countByMatching (.inl O) C 0 0 2 [(1, VI trip_2), (0, VR 431)] [] m_ := by
    intro fu3
    induction fu3 with
    | zero => intro trip_2 m_ hn4; exact absurd hn4 (by simp [iter])
    | succ fu3 ih7 =>
      intro trip_2 m_ hn4
      obtain ⟨x5, h, hc6⟩ := iter_succ hn4
      replace h : C_Fleet_countByMatching_b1 trip_2 m_ = some x5 := h
      unfold C_Fleet_countByMatching_b1 at h
      refine s_iload_n X 0 rfl dX1_countByMatching_2 ?_
      refine s_load0 X 1 rfl dX1_countByMatching_3 ?_
      refine s_getI X fk_X1_42 SHC_431 rfl dX1_countByMatching_4 ?_
      refine s_icmpge_f (tgt := 30) X dX1_countByMatching_7 (by omega) (fun c17 => ?_) (fun c18 => ?_)
      · replace h := ite_neg h c17
        exact KX9 _ (iter_exit h hc6)
      · replace h := ite_pos h c18
        obtain ⟨g19, h⟩ := grd_some h
        refine s_load0 X 1 rfl dX1_countByMatching_10 ?_
        refine s_getR (id := 438) X fk_X1_30 SHC_431 rfl dX1_countByMatching_11 ?_
        refine s_iload_n X 0 rfl dX1_countByMatching_14 ?_
        refine s_const X (by unfold InR; omega) dX1_countByMatching_15 ?_
        obtain ⟨m_2, e20, h⟩ := ltv_elim h
        refine s_iast X e20 SHC_438 g19.1 g19.2 dX1_countByMatching_16 ?_
        refine s_load0 X 1 rfl dX1_countByMatching_17 ?_
        refine s_getR (id := 439) X fk_X1_33 SHC_431 rfl dX1_countByMatching_18 ?_
        refine s_iload_n X 0 rfl dX1_countByMatching_21 ?_
        refine s_const X (by unfold InR; omega) dX1_countByMatching_22 ?_
        obtain ⟨m_3, e22, h⟩ := ltv_elim h
        refine s_iast X e22 SHC_439 g19.1 g19.2 dX1_countByMatching_23 ?_
        obtain ⟨g23, h⟩ := grd_some h
        obtain ⟨trip_3, e24, h⟩ := ltv_elim h
        refine s_iinc X 0 rfl g23 e24 rfl (by omega) dX1_countByMatching_24 ?_
        refine s_goto (tgt := 2) X dX1_countByMatching_27 (by omega) ?_
        exact ih7 _ _ (iter_next h hc6)
  exact LP8 _ _ _ hl13
set_option maxRecDepth 20000 in
set_option maxHeartbeats 4000000 in
theorem L_C_vehiclesByMatching (G : Gl) (day_ : Int) (m : Mem) (r : ((Int ⊕ Nat) × Mem))  (h : C_vehiclesByMatching day_ m = some r) : Con SHC G yX11_vehiclesByMatching cX11_vehiclesByMatching 2 (some .int) rm_X11_vehiclesByMatching [VR 0, VI day_] m (oT wI r) := by
  refine con_of (own := "Lastbus") (by decide) rfl (Nat.le_of_ble_eq_true rfl) (fun C X => ?_)
  obtain ⟨O, hO⟩ : ∃ O : Res × Mem, O = (oT wI r) := ⟨_, rfl⟩
  rw [← hO]
  show J SHC G rm_X11_vehiclesByMatching (.inl O) C 0 0 0 [(0, VR 0), (1, VI day_)] [] m
  unfold C_vehiclesByMatching at h
  refine s_iload_n X 1 rfl dX11_vehiclesByMatching_0 ?_
  obtain ⟨q3, hq2, h⟩ := bnd_some h
  refine s_callS (As := [VI day_]) X cw_X11_140 dX11_vehiclesByMatching_1 (L_C_needDay G day_ m q3 hq2) rfl ⟨Nat.le_of_ble_eq_true rfl, Nat.le_of_ble_eq_true rfl⟩ ⟨Nat.le_of_ble_eq_true rfl, Nat.le_of_ble_eq_true rfl⟩ (Nat.le_of_ble_eq_true rfl) (thr_up hO h) (kkT fun u_ m_ e9 => ?_)
  subst e9
  replace h := tbd_inl h
  refine s_load0 X 0 rfl dX11_vehiclesByMatching_4 ?_
  refine s_getR (id := 431) X fk_X11_79 SHC_0 rfl dX11_vehiclesByMatching_5 ?_
  refine s_load0 X 0 rfl dX11_vehiclesByMatching_8 ?_
  refine s_getR (id := 29) X fk_X11_19 SHC_0 rfl dX11_vehiclesByMatching_9 ?_
  refine s_load0 X 0 rfl dX11_vehiclesByMatching_12 ?_
  refine s_getR (id := 31) X fk_X11_26 SHC_0 rfl dX11_vehiclesByMatching_13 ?_
  refine s_iload_n X 1 rfl dX11_vehiclesByMatching_16 ?_
  obtain ⟨m_2, hq6, h⟩ := bnd_some h
  refine s_callV (As := [VR 29, VR 31, VI day_]) X cw_X11_398 SHC_431 rfl dX11_vehiclesByMatching_17 (L_C_Fleet_gather G day_ m_ m_2 hq6) rfl ⟨Nat.le_of_ble_eq_true rfl, Nat.le_of_ble_eq_true rfl⟩ ⟨Nat.le_of_ble_eq_true rfl, Nat.le_of_ble_eq_true rfl⟩ (Nat.le_of_ble_eq_true rfl) noT (kkU ?_)
  refine s_load0 X 0 rfl dX11_vehiclesByMatching_20 ?_
  refine s_getR (id := 431) X fk_X11_79 SHC_0 rfl dX11_vehiclesByMatching_21 ?_
  obtain ⟨r_, m_3, hq10, h⟩ := bq2_some h
  refine s_callV (As := []) X cw_X11_405 SHC_431 rfl dX11_vehiclesByMatching_24 (L_C_Fleet_countByMatching G m_2 (r_, m_3) hq10) rfl ⟨Nat.le_of_ble_eq_true rfl, Nat.le_of_ble_eq_true rfl⟩ ⟨Nat.le_of_ble_eq_true rfl, Nat.le_of_ble_eq_true rfl⟩ (Nat.le_of_ble_eq_true rfl) noT (kkR ?_)
  exact s_iret X (Nat.le_of_ble_eq_true rfl) (Nat.le_of_ble_eq_true rfl) (by cases h; exact hO) dX11_vehiclesByMatching_27
set_option maxRecDepth 20000 in
set_option maxHeartbeats 4000000 in
theorem L_C_fillArrivalsAndShift (G : Gl) (trip_ : Int) (minutes_ : Int) (day_ : Int) (minute_ : Int) (m : Mem) (r : Mem)  (h : C_fillArrivalsAndShift trip_ minutes_ day_ minute_ m = some r) : Con SHC G yX11_fillArrivalsAndShift cX11_fillArrivalsAndShift 5 none rm_X11_fillArrivalsAndShift [VR 0, VI trip_, VI minutes_, VI day_, VI minute_] m (((.inl none, r) : Res × Mem)) := by
  refine con_of (own := "Lastbus") (by decide) rfl (Nat.le_of_ble_eq_true rfl) (fun C X => ?_)
  obtain ⟨O, hO⟩ : ∃ O : Res × Mem, O = (((.inl none, r) : Res × Mem)) := ⟨_, rfl⟩
  rw [← hO]
  show J SHC G rm_X11_fillArrivalsAndShift (.inl O) C 0 0 0 [(0, VR 0), (1, VI trip_), (2, VI minutes_), (3, VI day_), (4, VI minute_)] [] m
  unfold C_fillArrivalsAndShift at h
  refine s_load0 X 0 rfl dX11_fillArrivalsAndShift_0 ?_
  refine s_getR (id := 119) X fk_X11_49 SHC_0 rfl dX11_fillArrivalsAndShift_1 ?_
  refine s_iload_n X 3 rfl dX11_fillArrivalsAndShift_4 ?_
  refine s_const X (by unfold InR; omega) dX11_fillArrivalsAndShift_5 ?_
  refine s_const X (by unfold InR; omega) dX11_fillArrivalsAndShift_6 ?_
  obtain ⟨m_, hq2, h⟩ := bnd_some h
  refine s_callV (As := [VI day_, VI (-1), VI 0]) X cw_X11_280 SHC_119 rfl dX11_fillArrivalsAndShift_7 (L_C_Net_lay G day_ (-1) 0 m m_ hq2) rfl ⟨Nat.le_of_ble_eq_true rfl, Nat.le_of_ble_eq_true rfl⟩ ⟨Nat.le_of_ble_eq_true rfl, Nat.le_of_ble_eq_true rfl⟩ (Nat.le_of_ble_eq_true rfl) noT (kkU ?_)
  refine s_load0 X 0 rfl dX11_fillArrivalsAndShift_10 ?_
  refine s_iload X 4 rfl dX11_fillArrivalsAndShift_11 ?_
  obtain ⟨m_2, hq6, h⟩ := bnd_some h
  refine s_callV (As := [VI minute_]) X cw_X11_392 SHC_0 rfl dX11_fillArrivalsAndShift_13 (L_C_fillArrivals G minute_ m_ m_2 hq6) rfl ⟨Nat.le_of_ble_eq_true rfl, Nat.le_of_ble_eq_true rfl⟩ ⟨Nat.le_of_ble_eq_true rfl, Nat.le_of_ble_eq_true rfl⟩ (Nat.le_of_ble_eq_true rfl) noT (kkU ?_)
  refine s_load0 X 0 rfl dX11_fillArrivalsAndShift_16 ?_
  refine s_getR (id := 119) X fk_X11_49 SHC_0 rfl dX11_fillArrivalsAndShift_17 ?_
  refine s_iload_n X 3 rfl dX11_fillArrivalsAndShift_20 ?_
  refine s_iload_n X 1 rfl dX11_fillArrivalsAndShift_21 ?_
  refine s_iload_n X 2 rfl dX11_fillArrivalsAndShift_22 ?_
  obtain ⟨m_3, hq10, h⟩ := bnd_some h
  refine s_callV (As := [VI day_, VI trip_, VI minutes_]) X cw_X11_280 SHC_119 rfl dX11_fillArrivalsAndShift_23 (L_C_Net_lay G day_ trip_ minutes_ m_2 m_3 hq10) rfl ⟨Nat.le_of_ble_eq_true rfl, Nat.le_of_ble_eq_true rfl⟩ ⟨Nat.le_of_ble_eq_true rfl, Nat.le_of_ble_eq_true rfl⟩ (Nat.le_of_ble_eq_true rfl) noT (kkU ?_)
  exact s_vret X (Nat.le_of_ble_eq_true rfl) (Nat.le_of_ble_eq_true rfl) (by cases h; exact hO) dX11_fillArrivalsAndShift_26
