/-! ===== printed by a program out of the Java source and the decode rows: 31c.LC ===== -/
set_option maxRecDepth 20000 in
set_option maxHeartbeats 4000000 in
theorem L_C_wall (G : Gl) (from_ : Int) (day_ : Int) (minute_ : Int) (before_ : Int) (m : Mem) (r : ((Int ⊕ Nat) × Mem))  (h : C_wall from_ day_ minute_ before_ m = some r) : Con SHC G yX11_wall cX11_wall 7 (some .int) rm_X11_wall [VR 0, VI from_, VI day_, VI minute_, VI before_] m (oT wI r) := by
  refine con_of (own := "Lastbus") (by decide) rfl (Nat.le_of_ble_eq_true rfl) (fun C X => ?_)
  obtain ⟨O, hO⟩ : ∃ O : Res × Mem, O = (oT wI r) := ⟨_, rfl⟩
  rw [← hO]
  show J SHC G rm_X11_wall (.inl O) C 0 0 0 [(0, VR 0), (1, VI from_), (2, VI day_), (3, VI minute_), (4, VI before_)] [] m
  unfold C_wall at h
  refine s_load0 X 0 rfl dX11_wall_0 ?_
  refine s_iload_n X 1 rfl dX11_wall_1 ?_
  obtain ⟨q3, hq2, h⟩ := bnd_some h
  refine s_callV (As := [VI from_]) X cw_X11_107 SHC_0 rfl dX11_wall_2 (L_C_needStop G from_ m q3 hq2) rfl ⟨Nat.le_of_ble_eq_true rfl, Nat.le_of_ble_eq_true rfl⟩ ⟨Nat.le_of_ble_eq_true rfl, Nat.le_of_ble_eq_true rfl⟩ (Nat.le_of_ble_eq_true rfl) (thr_up hO h) (kkT fun u_ m_ e9 => ?_)
  subst e9
  replace h := tbd_inl h
  refine s_iload_n X 2 rfl dX11_wall_5 ?_
  obtain ⟨q7, hq6, h⟩ := bnd_some h
  refine s_callS (As := [VI day_]) X cw_X11_140 dX11_wall_6 (L_C_needDay G day_ m_ q7 hq6) rfl ⟨Nat.le_of_ble_eq_true rfl, Nat.le_of_ble_eq_true rfl⟩ ⟨Nat.le_of_ble_eq_true rfl, Nat.le_of_ble_eq_true rfl⟩ (Nat.le_of_ble_eq_true rfl) (thr_up hO h) (kkT fun u_2 m_2 e9 => ?_)
  subst e9
  replace h := tbd_inl h
  refine s_iload_n X 3 rfl dX11_wall_9 ?_
  refine s_const X (by unfold InR; omega) dX11_wall_10 ?_
  refine s_sipush X (by omega) dX11_wall_11 ?_
  obtain ⟨q11, hq10, h⟩ := bnd_some h
  refine s_callS (As := [VI minute_, VI 0, VI 1439]) X cw_X11_88 dX11_wall_14 (L_C_needNumber G minute_ 0 1439 m_2 q11 hq10) rfl ⟨Nat.le_of_ble_eq_true rfl, Nat.le_of_ble_eq_true rfl⟩ ⟨Nat.le_of_ble_eq_true rfl, Nat.le_of_ble_eq_true rfl⟩ (Nat.le_of_ble_eq_true rfl) (thr_up hO h) (kkT fun u_3 m_3 e9 => ?_)
  subst e9
  replace h := tbd_inl h
  refine s_iload X 4 rfl dX11_wall_17 ?_
  refine s_const X (by unfold InR; omega) dX11_wall_19 ?_
  refine s_sipush X (by omega) dX11_wall_20 ?_
  obtain ⟨q15, hq14, h⟩ := bnd_some h
  refine s_callS (As := [VI before_, VI 0, VI 4319]) X cw_X11_88 dX11_wall_23 (L_C_needNumber G before_ 0 4319 m_3 q15 hq14) rfl ⟨Nat.le_of_ble_eq_true rfl, Nat.le_of_ble_eq_true rfl⟩ ⟨Nat.le_of_ble_eq_true rfl, Nat.le_of_ble_eq_true rfl⟩ (Nat.le_of_ble_eq_true rfl) (thr_up hO h) (kkT fun u_4 m_4 e9 => ?_)
  subst e9
  replace h := tbd_inl h
  refine s_load0 X 0 rfl dX11_wall_26 ?_
  refine s_getR (id := 119) X fk_X11_49 SHC_0 rfl dX11_wall_27 ?_
  refine s_iload_n X 2 rfl dX11_wall_30 ?_
  refine s_const X (by unfold InR; omega) dX11_wall_31 ?_
  refine s_const X (by unfold InR; omega) dX11_wall_32 ?_
  obtain ⟨m_5, hq18, h⟩ := bnd_some h
  refine s_callV (As := [VI day_, VI (-1), VI 0]) X cw_X11_280 SHC_119 rfl dX11_wall_33 (L_C_Net_lay G day_ (-1) 0 m_4 m_5 hq18) rfl ⟨Nat.le_of_ble_eq_true rfl, Nat.le_of_ble_eq_true rfl⟩ ⟨Nat.le_of_ble_eq_true rfl, Nat.le_of_ble_eq_true rfl⟩ (Nat.le_of_ble_eq_true rfl) noT (kkU ?_)
  refine s_load0 X 0 rfl dX11_wall_36 ?_
  refine s_getR (id := 345) X fk_X11_58 SHC_0 rfl dX11_wall_37 ?_
  refine s_iload_n X 1 rfl dX11_wall_40 ?_
  refine s_iload_n X 3 rfl dX11_wall_41 ?_
  obtain ⟨m_6, hq22, h⟩ := bnd_some h
  refine s_callV (As := [VI from_, VI minute_]) X cw_X11_283 SHC_345 rfl dX11_wall_42 (L_C_Search_scan G from_ minute_ m_5 m_6 hq22) rfl ⟨Nat.le_of_ble_eq_true rfl, Nat.le_of_ble_eq_true rfl⟩ ⟨Nat.le_of_ble_eq_true rfl, Nat.le_of_ble_eq_true rfl⟩ (Nat.le_of_ble_eq_true rfl) noT (kkU ?_)
  refine s_const X (by unfold InR; omega) dX11_wall_45 ?_
  obtain ⟨sum_, e26, h⟩ := ltv_elim h
  refine s_istore X e26 rfl (by omega) dX11_wall_46 ?_
  refine s_const X (by unfold InR; omega) dX11_wall_48 ?_
  obtain ⟨stop_, e28, h⟩ := ltv_elim h
  refine s_istore X e28 rfl (by omega) dX11_wall_49 ?_
  obtain ⟨sum_4, stop_5, hl38, h⟩ := bq2_some h
  obtain ⟨fu290, hl39⟩ := loop_iter hl38
  have KX35 : ∀ q9 : Int × Int, q9 = (sum_4, stop_5) → J SHC G rm_X11_wall (.inl O) C 4 24 95 [(6, VI q9.2), (5, VI q9.1), (0, VR 0), (1, VI from_), (2, VI day_), (3, VI minute_), (4, VI before_)] [] m_6 := by
    intro q9 e9
    subst e9
    show J SHC G rm_X11_wall (.inl O) C 4 24 95 [(6, VI stop_5), (5, VI sum_4), (0, VR 0), (1, VI from_), (2, VI day_), (3, VI minute_), (4, VI before_)] [] m_6
    refine s_iload X 1 rfl dX11_wall_95 ?_
    exact s_iret X (Nat.le_of_ble_eq_true rfl) (Nat.le_of_ble_eq_true rfl) (by cases h; exact hO) dX11_wall_97
  have LP34 : ∀ (fu29 : Nat) (sum_2 : Int) (stop_2 : Int), iter (fun s => C_wall_b1 before_ m_6 s.1 s.2) fu29 (sum_2, stop_2) = some (sum_4, stop_5) → J SHC G rm_X11_wall (.inl O) C 4 24 51 [(6, VI stop_2), (5, VI sum_2), (0, VR 0), (1, VI from_), (2, VI day_), (3, VI minute_), (4, VI before_)] [] m_6 := by
    intro fu29
    induction fu29 with
    | zero => intro sum_2 stop_2 hn30; exact absurd hn30 (by simp [iter])
    | succ fu29 ih33 =>
      intro sum_2 stop_2 hn30
      obtain ⟨x31, h, hc32⟩ := iter_succ hn30
      replace h : C_wall_b1 before_ m_6 sum_2 stop_2 = some x31 := h
      unfold C_wall_b1 at h
      refine s_iload X 0 rfl dX11_wall_51 ?_
      refine s_load0 X 2 rfl dX11_wall_53 ?_
      refine s_getR (id := 1) X fk_X11_12 SHC_0 rfl dX11_wall_54 ?_
      refine s_getI X fk_X11_92 SHC_1 rfl dX11_wall_57 ?_
      refine s_icmpge_f (tgt := 95) X dX11_wall_60 (by omega) (fun c43 => ?_) (fun c44 => ?_)
      · replace h := ite_neg h c43
        exact KX35 _ (iter_exit h hc32)
      · replace h := ite_pos h c44
        refine s_load0 X 2 rfl dX11_wall_63 ?_
        refine s_getR (id := 345) X fk_X11_58 SHC_0 rfl dX11_wall_64 ?_
        refine s_getR (id := 352) X fk_X11_286 SHC_345 rfl dX11_wall_67 ?_
        refine s_iload X 0 rfl dX11_wall_70 ?_
        obtain ⟨r_, hq46, h⟩ := bnd_some h
        refine s_callV (As := [VI stop_2]) X cw_X11_290 (shLab labS) rfl dX11_wall_72 (L_C_Labels_at G 352 stop_2 m_6 r_ labS hq46) rfl ⟨Nat.le_of_ble_eq_true rfl, Nat.le_of_ble_eq_true rfl⟩ ⟨Nat.le_of_ble_eq_true rfl, Nat.le_of_ble_eq_true rfl⟩ (Nat.le_of_ble_eq_true rfl) noT (kkR ?_)
        refine s_iload X 6 rfl dX11_wall_75 ?_
        refine s_icmpge_f (tgt := 89) X dX11_wall_77 (by omega) (fun c49 => ?_) (fun c50 => ?_)
        · replace h := ite_neg h c49
          obtain ⟨g51, h⟩ := grd_some h
          obtain ⟨stop_3, e52, h⟩ := ltv_elim h
          refine s_iinc X 0 rfl g51 e52 rfl (by omega) dX11_wall_89 ?_
          refine s_goto (tgt := 51) X dX11_wall_92 (by omega) ?_
          exact ih33 _ _ (iter_next h hc32)
        · replace h := ite_pos h c50
          refine s_iload X 1 rfl dX11_wall_80 ?_
          refine s_const X (by unfold InR; omega) dX11_wall_82 ?_
          refine s_iload X 0 rfl dX11_wall_83 ?_
          refine s_ishl X dX11_wall_85 ?_
          refine s_ior X dX11_wall_86 ?_
          obtain ⟨sum_3, e54, h⟩ := ltv_elim h
          refine s_istore X e54 rfl (by omega) dX11_wall_87 ?_
          obtain ⟨g55, h⟩ := grd_some h
          obtain ⟨stop_4, e56, h⟩ := ltv_elim h
          refine s_iinc X 1 rfl g55 e56 rfl (by omega) dX11_wall_89 ?_
          refine s_goto (tgt := 51) X dX11_wall_92 (by omega) ?_
          exact ih33 _ _ (iter_next h hc32)
  exact LP34 _ _ _ hl39
set_option maxRecDepth 20000 in
set_option maxHeartbeats 4000000 in
theorem L_C_Search_getOnBack (G : Gl) (stop_ : Int) (leave_ : Int) (m : Mem) (r : Mem)  (h : C_Search_getOnBack stop_ leave_ m = some r) : Con SHC G yX6_getOnBack cX6_getOnBack 4 none rm_X6_getOnBack [VR 345, VI stop_, VI leave_] m (((.inl none, r) : Res × Mem)) := by
  refine con_of (own := "Lastbus$Search") (by decide) rfl (Nat.le_of_ble_eq_true rfl) (fun C X => ?_)
  obtain ⟨O, hO⟩ : ∃ O : Res × Mem, O = (((.inl none, r) : Res × Mem)) := ⟨_, rfl⟩
  rw [← hO]
  show J SHC G rm_X6_getOnBack (.inl O) C 0 0 0 [(0, VR 345), (1, VI stop_), (2, VI leave_)] [] m
  unfold C_Search_getOnBack at h
  obtain ⟨g1, h⟩ := grd_some h
  refine s_iload_n X 2 rfl dX6_getOnBack_0 ?_
  refine s_load0 X 0 rfl dX6_getOnBack_1 ?_
  refine s_getR (id := 347) X fk_X6_15 SHC_345 rfl dX6_getOnBack_2 ?_
  refine s_iload_n X 1 rfl dX6_getOnBack_5 ?_
  refine s_iald X SHC_347 g1.1 g1.2 dX6_getOnBack_6 ?_
  refine s_icmpgt_f (tgt := 11) X dX6_getOnBack_7 (by omega) (fun c4 => ?_) (fun c5 => ?_)
  · replace h := ite_neg h c4
    refine s_load0 X 0 rfl dX6_getOnBack_11 ?_
    refine s_getR (id := 347) X fk_X6_15 SHC_345 rfl dX6_getOnBack_12 ?_
    refine s_iload_n X 1 rfl dX6_getOnBack_15 ?_
    refine s_iload_n X 2 rfl dX6_getOnBack_16 ?_
    obtain ⟨m_, e7, h⟩ := ltv_elim h
    refine s_iast X e7 SHC_347 g1.1 g1.2 dX6_getOnBack_17 ?_
    obtain ⟨g8, h⟩ := grd_some h
    refine s_load0 X 0 rfl dX6_getOnBack_18 ?_
    refine s_getR (id := 348) X fk_X6_19 SHC_345 rfl dX6_getOnBack_19 ?_
    refine s_iload_n X 1 rfl dX6_getOnBack_22 ?_
    refine s_load0 X 0 rfl dX6_getOnBack_23 ?_
    refine s_getR (id := 348) X fk_X6_19 SHC_345 rfl dX6_getOnBack_24 ?_
    refine s_iload_n X 1 rfl dX6_getOnBack_27 ?_
    refine s_iald X SHC_348 g1.1 g1.2 dX6_getOnBack_28 ?_
    refine s_iload_n X 2 rfl dX6_getOnBack_29 ?_
    refine s_load0 X 0 rfl dX6_getOnBack_30 ?_
    refine s_getR (id := 1) X fk_X6_31 SHC_345 rfl dX6_getOnBack_31 ?_
    refine s_getR (id := 2) X fk_X6_134 SHC_1 rfl dX6_getOnBack_34 ?_
    refine s_iload_n X 1 rfl dX6_getOnBack_37 ?_
    refine s_iald X SHC_2 g1.1 g1.2 dX6_getOnBack_38 ?_
    refine s_isub X g8 dX6_getOnBack_39 ?_
    refine s_max X mm_X6_113 (Nat.le_of_ble_eq_true rfl) (Nat.le_of_ble_eq_true rfl) ⟨Nat.le_of_ble_eq_true rfl, Nat.le_of_ble_eq_true rfl⟩ dX6_getOnBack_40 ?_
    obtain ⟨m_2, e9, h⟩ := ltv_elim h
    refine s_iast X e9 SHC_348 g1.1 g1.2 dX6_getOnBack_43 ?_
    refine s_const X (by unfold InR; omega) dX6_getOnBack_44 ?_
    obtain ⟨other_, e11, h⟩ := ltv_elim h
    refine s_istore_n X e11 rfl (by omega) dX6_getOnBack_45 ?_
    obtain ⟨other_4, m_5, hl21, h⟩ := bq2_some h
    obtain ⟨fu120, hl22⟩ := loop_iter hl21
    have KX18 : ∀ q9 : Int × Mem, q9 = (other_4, m_5) → J SHC G rm_X6_getOnBack (.inl O) C 0 0 91 [(3, VI q9.1), (0, VR 345), (1, VI stop_), (2, VI leave_)] [] (q9.2) := by
      intro q9 e9
      subst e9
      show J SHC G rm_X6_getOnBack (.inl O) C 0 0 91 [(3, VI other_4), (0, VR 345), (1, VI stop_), (2, VI leave_)] [] m_5
      exact s_vret X (Nat.le_of_ble_eq_true rfl) (Nat.le_of_ble_eq_true rfl) (by cases h; exact hO) dX6_getOnBack_91
    have LP17 : ∀ (fu12 : Nat) (other_2 : Int) (m_3 : Mem), iter (fun s => C_Search_getOnBack_b1 stop_ leave_ s.1 s.2) fu12 (other_2, m_3) = some (other_4, m_5) → J SHC G rm_X6_getOnBack (.inl O) C 0 0 46 [(3, VI other_2), (0, VR 345), (1, VI stop_), (2, VI leave_)] [] m_3 := by
      intro fu12
      induction fu12 with
      | zero => intro other_2 m_3 hn13; exact absurd hn13 (by simp [iter])
      | succ fu12 ih16 =>
        intro other_2 m_3 hn13
        obtain ⟨x14, h, hc15⟩ := iter_succ hn13
        replace h : C_Search_getOnBack_b1 stop_ leave_ other_2 m_3 = some x14 := h
        unfold C_Search_getOnBack_b1 at h
        refine s_iload_n X 0 rfl dX6_getOnBack_46 ?_
        refine s_load0 X 1 rfl dX6_getOnBack_47 ?_
        refine s_getR (id := 1) X fk_X6_31 SHC_345 rfl dX6_getOnBack_48 ?_
        refine s_getI X fk_X6_122 SHC_1 rfl dX6_getOnBack_51 ?_
        refine s_icmpge_f (tgt := 91) X dX6_getOnBack_54 (by omega) (fun c26 => ?_) (fun c27 => ?_)
        · replace h := ite_neg h c26
          exact KX18 _ (iter_exit h hc15)
        · replace h := ite_pos h c27
          obtain ⟨g28, h⟩ := grd_some h
          refine s_load0 X 1 rfl dX6_getOnBack_57 ?_
          refine s_getR (id := 348) X fk_X6_19 SHC_345 rfl dX6_getOnBack_58 ?_
          refine s_iload_n X 0 rfl dX6_getOnBack_61 ?_
          refine s_load0 X 1 rfl dX6_getOnBack_62 ?_
          refine s_getR (id := 348) X fk_X6_19 SHC_345 rfl dX6_getOnBack_63 ?_
          refine s_iload_n X 0 rfl dX6_getOnBack_66 ?_
          refine s_iald X SHC_348 g28.1 g28.2.1 dX6_getOnBack_67 ?_
          refine s_iload_n X 3 rfl dX6_getOnBack_68 ?_
          refine s_load0 X 1 rfl dX6_getOnBack_69 ?_
          refine s_getR (id := 1) X fk_X6_31 SHC_345 rfl dX6_getOnBack_70 ?_
          refine s_getR (id := 16) X fk_X6_108 SHC_1 rfl dX6_getOnBack_73 ?_
          refine s_iload_n X 0 rfl dX6_getOnBack_76 ?_
          refine s_aaldI (id := (17 + other_2.toNat)) X (by omega) (Or.inl rfl) SHC_16 g28.1 g28.2.1 dX6_getOnBack_77 ?_
          refine s_iload_n X 2 rfl dX6_getOnBack_78 ?_
          refine s_iald X (SHC_r17 g28.1 g28.2.1) g28.2.2.1 g28.2.2.2.1 dX6_getOnBack_79 ?_
          refine s_isub X g28.2.2.2.2 dX6_getOnBack_80 ?_
          refine s_max X mm_X6_113 (Nat.le_of_ble_eq_true rfl) (Nat.le_of_ble_eq_true rfl) ⟨Nat.le_of_ble_eq_true rfl, Nat.le_of_ble_eq_true rfl⟩ dX6_getOnBack_81 ?_
          obtain ⟨m_4, e29, h⟩ := ltv_elim h
          refine s_iast X e29 SHC_348 g28.1 g28.2.1 dX6_getOnBack_84 ?_
          obtain ⟨g30, h⟩ := grd_some h
          obtain ⟨other_3, e31, h⟩ := ltv_elim h
          refine s_iinc X 0 rfl g30 e31 rfl (by omega) dX6_getOnBack_85 ?_
          refine s_goto (tgt := 46) X dX6_getOnBack_88 (by omega) ?_
          exact ih16 _ _ (iter_next h hc15)
    exact LP17 _ _ _ hl22
  · replace h := ite_pos h c5
    exact s_vret X (Nat.le_of_ble_eq_true rfl) (Nat.le_of_ble_eq_true rfl) (by cases h; exact hO) dX6_getOnBack_10
set_option maxRecDepth 20000 in
set_option maxHeartbeats 4000000 in
theorem L_C_Search_scanBack (G : Gl) (to_ : Int) (by_ : Int) (m : Mem) (r : Mem)  (h : C_Search_scanBack to_ by_ m = some r) : Con SHC G yX6_scanBack cX6_scanBack 7 none rm_X6_scanBack [VR 345, VI to_, VI by_] m (((.inl none, r) : Res × Mem)) := by
  refine con_of (own := "Lastbus$Search") (by decide) rfl (Nat.le_of_ble_eq_true rfl) (fun C X => ?_)
  obtain ⟨O, hO⟩ : ∃ O : Res × Mem, O = (((.inl none, r) : Res × Mem)) := ⟨_, rfl⟩
  rw [← hO]
  show J SHC G rm_X6_scanBack (.inl O) C 0 0 0 [(0, VR 345), (1, VI to_), (2, VI by_)] [] m
  unfold C_Search_scanBack at h
  refine s_load0 X 0 rfl dX6_scanBack_0 ?_
  obtain ⟨m_, hq2, h⟩ := bnd_some h
  refine s_callV (As := []) X cw_X6_85 SHC_345 rfl dX6_scanBack_1 (L_C_Search_leaveRuns G m m_ hq2) rfl ⟨Nat.le_of_ble_eq_true rfl, Nat.le_of_ble_eq_true rfl⟩ ⟨Nat.le_of_ble_eq_true rfl, Nat.le_of_ble_eq_true rfl⟩ (Nat.le_of_ble_eq_true rfl) noT (kkU ?_)
  refine s_const X (by unfold InR; omega) dX6_scanBack_4 ?_
  obtain ⟨stop_, e6, h⟩ := ltv_elim h
  refine s_istore_n X e6 rfl (by omega) dX6_scanBack_5 ?_
  obtain ⟨stop_4, m_5, hl16, h⟩ := bq2_some h
  obtain ⟨fu70, hl17⟩ := loop_iter hl16
  have KX13 : ∀ q9 : Int × Mem, q9 = (stop_4, m_5) → J SHC G rm_X6_scanBack (.inl O) C 0 0 58 [(3, VI q9.1), (0, VR 345), (1, VI to_), (2, VI by_)] [] (q9.2) := by
    intro q9 e9
    subst e9
    show J SHC G rm_X6_scanBack (.inl O) C 0 0 58 [(3, VI stop_4), (0, VR 345), (1, VI to_), (2, VI by_)] [] m_5
    obtain ⟨g32, h⟩ := grd_some h
    refine s_load0 X 1 rfl dX6_scanBack_58 ?_
    refine s_getR (id := 119) X fk_X6_35 SHC_345 rfl dX6_scanBack_59 ?_
    refine s_getI X fk_X6_88 SHC_119 rfl dX6_scanBack_62 ?_
    refine s_const X (by unfold InR; omega) dX6_scanBack_65 ?_
    refine s_isub X g32 dX6_scanBack_66 ?_
    obtain ⟨index_, e33, h⟩ := ltv_elim h
    refine s_istore_n X e33 rfl (by omega) dX6_scanBack_67 ?_
    obtain ⟨index_5, m_10, hl43, h⟩ := bq2_some h
    obtain ⟨fu340, hl44⟩ := loop_iter hl43
    have KX40 : ∀ q9 : Int × Mem, q9 = (index_5, m_10) → J SHC G rm_X6_scanBack (.inl O) C 0 0 180 [(3, VI q9.1), (0, VR 345), (1, VI to_), (2, VI by_)] [] (q9.2) := by
      intro q9 e9
      subst e9
      show J SHC G rm_X6_scanBack (.inl O) C 0 0 180 [(3, VI index_5), (0, VR 345), (1, VI to_), (2, VI by_)] [] m_10
      exact s_vret X (Nat.le_of_ble_eq_true rfl) (Nat.le_of_ble_eq_true rfl) (by cases h; exact hO) dX6_scanBack_180
    have LP39 : ∀ (fu34 : Nat) (index_2 : Int) (m_6 : Mem), iter (fun s => C_Search_scanBack_b2 s.1 s.2) fu34 (index_2, m_6) = some (index_5, m_10) → J SHC G rm_X6_scanBack (.inl O) C 0 0 68 [(3, VI index_2), (0, VR 345), (1, VI to_), (2, VI by_)] [] m_6 := by
      intro fu34
      induction fu34 with
      | zero => intro index_2 m_6 hn35; exact absurd hn35 (by simp [iter])
      | succ fu34 ih38 =>
        intro index_2 m_6 hn35
        obtain ⟨x36, h, hc37⟩ := iter_succ hn35
        replace h : C_Search_scanBack_b2 index_2 m_6 = some x36 := h
        unfold C_Search_scanBack_b2 at h
        refine s_iload_n X 0 rfl dX6_scanBack_68 ?_
        refine s_iflt_f (tgt := 180) X dX6_scanBack_69 (by omega) (fun c48 => ?_) (fun c49 => ?_)
        · replace h := ite_neg h c48
          exact KX40 _ (iter_exit h hc37)
        · replace h := ite_pos h c49
          obtain ⟨g50, h⟩ := grd_some h
          refine s_load0 X 1 rfl dX6_scanBack_72 ?_
          refine s_getR (id := 119) X fk_X6_35 SHC_345 rfl dX6_scanBack_73 ?_
          refine s_getR (id := 343) X fk_X6_125 SHC_119 rfl dX6_scanBack_76 ?_
          refine s_iload_n X 0 rfl dX6_scanBack_79 ?_
          refine s_iald X SHC_343 g50.1 g50.2 dX6_scanBack_80 ?_
          obtain ⟨key_, e51, h⟩ := ltv_elim h
          refine s_istore X e51 rfl (by omega) dX6_scanBack_81 ?_
          refine s_iload X 0 rfl dX6_scanBack_83 ?_
          refine s_callS (As := [VI key_]) X cw_X6_94 dX6_scanBack_85 (L_C_Net_runOf G key_ m_6) rfl ⟨Nat.le_of_ble_eq_true rfl, Nat.le_of_ble_eq_true rfl⟩ ⟨Nat.le_of_ble_eq_true rfl, Nat.le_of_ble_eq_true rfl⟩ (Nat.le_of_ble_eq_true rfl) noT (kkR ?_)
          obtain ⟨run_, e53, h⟩ := ltv_elim h
          refine s_istore X e53 rfl (by omega) dX6_scanBack_88 ?_
          refine s_iload X 1 rfl dX6_scanBack_90 ?_
          refine s_callS (As := [VI key_]) X cw_X6_98 dX6_scanBack_92 (L_C_Net_callOf G key_ m_6) rfl ⟨Nat.le_of_ble_eq_true rfl, Nat.le_of_ble_eq_true rfl⟩ ⟨Nat.le_of_ble_eq_true rfl, Nat.le_of_ble_eq_true rfl⟩ (Nat.le_of_ble_eq_true rfl) noT (kkR ?_)
          obtain ⟨call_, e55, h⟩ := ltv_elim h
          refine s_istore X e55 rfl (by omega) dX6_scanBack_95 ?_
          obtain ⟨kj_, hk56, h⟩ := ltv_elim h
          have K57 : ∀ (m_7 : Mem), kj_ m_7 = some x36 → J SHC G rm_X6_scanBack (.inl O) C 0 0 134 [(6, VI call_), (5, VI run_), (4, VI key_), (3, VI index_2), (0, VR 345), (1, VI to_), (2, VI by_)] [] m_7 := by
            intro m_7 h
            subst hk56
            dsimp only at h
            obtain ⟨g65, h⟩ := grd_some h
            refine s_load0 X 4 rfl dX6_scanBack_134 ?_
            refine s_getR (id := 346) X fk_X6_9 SHC_345 rfl dX6_scanBack_135 ?_
            refine s_iload X 1 rfl dX6_scanBack_138 ?_
            refine s_bald X SHC_346 g65.1 g65.2 dX6_scanBack_140 ?_
            refine s_ifeq_f (tgt := 174) X dX6_scanBack_141 (by omega) (fun c68 => ?_) (fun c69 => ?_)
            · replace h := ite_neg h c68
              obtain ⟨g70, h⟩ := grd_some h
              obtain ⟨index_3, e71, h⟩ := ltv_elim h
              refine s_iinc X 3 rfl g70 e71 rfl (by omega) dX6_scanBack_174 ?_
              refine s_goto (tgt := 68) X dX6_scanBack_177 (by omega) ?_
              refine s_loc [0, 4, 5, 6] rfl ?_
              exact ih38 _ _ (iter_next h hc37)
            · replace h := ite_pos h c69
              obtain ⟨g72, h⟩ := grd_some h
              refine s_load0 X 4 rfl dX6_scanBack_144 ?_
              refine s_load0 X 4 rfl dX6_scanBack_145 ?_
              refine s_getR (id := 119) X fk_X6_35 SHC_345 rfl dX6_scanBack_146 ?_
              refine s_getR (id := 123) X fk_X6_74 SHC_119 rfl dX6_scanBack_149 ?_
              refine s_iload X 1 rfl dX6_scanBack_152 ?_
              refine s_aaldI (id := (124 + run_.toNat)) X (by omega) (Or.inl rfl) SHC_123 g65.1 g65.2 dX6_scanBack_154 ?_
              refine s_iload X 0 rfl dX6_scanBack_155 ?_
              refine s_iald X (SHC_r124 g65.1 g65.2) g72.1 g72.2 dX6_scanBack_157 ?_
              refine s_load0 X 4 rfl dX6_scanBack_158 ?_
              refine s_getR (id := 119) X fk_X6_35 SHC_345 rfl dX6_scanBack_159 ?_
              refine s_getR (id := 269) X fk_X6_128 SHC_119 rfl dX6_scanBack_162 ?_
              refine s_iload X 1 rfl dX6_scanBack_165 ?_
              refine s_aaldI (id := (270 + run_.toNat)) X (by omega) (Or.inl rfl) SHC_269 g65.1 g65.2 dX6_scanBack_167 ?_
              refine s_iload X 0 rfl dX6_scanBack_168 ?_
              refine s_iald X (SHC_r270 g65.1 g65.2) g72.1 g72.2 dX6_scanBack_170 ?_
              obtain ⟨m_9, hq73, h⟩ := bnd_some h
              refine s_callV (As := [VI (m_7 (124 + run_.toNat) call_.toNat), VI (m_7 (270 + run_.toNat) call_.toNat)]) X cw_X6_131 SHC_345 rfl dX6_scanBack_171 (L_C_Search_getOnBack G (m_7 (124 + run_.toNat) call_.toNat) (m_7 (270 + run_.toNat) call_.toNat) m_7 m_9 hq73) rfl ⟨Nat.le_of_ble_eq_true rfl, Nat.le_of_ble_eq_true rfl⟩ ⟨Nat.le_of_ble_eq_true rfl, Nat.le_of_ble_eq_true rfl⟩ (Nat.le_of_ble_eq_true rfl) noT (kkU ?_)
              obtain ⟨g76, h⟩ := grd_some h
              obtain ⟨index_4, e77, h⟩ := ltv_elim h
              refine s_iinc X 3 rfl g76 e77 rfl (by omega) dX6_scanBack_174 ?_
              refine s_goto (tgt := 68) X dX6_scanBack_177 (by omega) ?_
              refine s_loc [0, 4, 5, 6] rfl ?_
              exact ih38 _ _ (iter_next h hc37)
          obtain ⟨g58, h⟩ := grd_some h
          refine s_iload X 2 rfl dX6_scanBack_97 ?_
          refine s_sipush X (by omega) dX6_scanBack_99 ?_
          refine s_idiv X (by omega) dX6_scanBack_102 ?_
          refine s_load0 X 4 rfl dX6_scanBack_103 ?_
          refine s_getR (id := 348) X fk_X6_19 SHC_345 rfl dX6_scanBack_104 ?_
          refine s_load0 X 4 rfl dX6_scanBack_107 ?_
          refine s_getR (id := 119) X fk_X6_35 SHC_345 rfl dX6_scanBack_108 ?_
          refine s_getR (id := 123) X fk_X6_74 SHC_119 rfl dX6_scanBack_111 ?_
          refine s_iload X 1 rfl dX6_scanBack_114 ?_
          refine s_aaldI (id := (124 + run_.toNat)) X (by omega) (Or.inl rfl) SHC_123 g58.1 g58.2.1 dX6_scanBack_116 ?_
          refine s_iload X 0 rfl dX6_scanBack_117 ?_
          refine s_const X (by unfold InR; omega) dX6_scanBack_119 ?_
          refine s_iadd X g58.2.2.1 dX6_scanBack_120 ?_
          refine s_iald X (SHC_r124 g58.1 g58.2.1) g58.2.2.2.1 g58.2.2.2.2.1 dX6_scanBack_121 ?_
          refine s_iald X SHC_348 g58.2.2.2.2.2.1 g58.2.2.2.2.2.2 dX6_scanBack_122 ?_
          refine s_icmpgt_f (tgt := 134) X dX6_scanBack_123 (by omega) (fun c61 => ?_) (fun c62 => ?_)
          · replace h := ite_neg h c61
            exact s_kn rfl rfl (K57 _ h)
          · replace h := ite_pos h c62
            refine s_load0 X 4 rfl dX6_scanBack_126 ?_
            refine s_getR (id := 346) X fk_X6_9 SHC_345 rfl dX6_scanBack_127 ?_
            refine s_iload X 1 rfl dX6_scanBack_130 ?_
            refine s_const X (by unfold InR; omega) dX6_scanBack_132 ?_
            obtain ⟨m_8, e64, h⟩ := ltv_elim h
            refine s_bast X e64 SHC_346 g58.1 g58.2.1 (Or.inr rfl) dX6_scanBack_133 ?_
            exact s_kn rfl rfl (K57 _ h)
    exact LP39 _ _ _ hl44
  have LP12 : ∀ (fu7 : Nat) (stop_2 : Int) (m_2 : Mem), iter (fun s => C_Search_scanBack_b1 to_ by_ s.1 s.2) fu7 (stop_2, m_2) = some (stop_4, m_5) → J SHC G rm_X6_scanBack (.inl O) C 0 0 6 [(3, VI stop_2), (0, VR 345), (1, VI to_), (2, VI by_)] [] m_2 := by
    intro fu7
    induction fu7 with
    | zero => intro stop_2 m_2 hn8; exact absurd hn8 (by simp [iter])
    | succ fu7 ih11 =>
      intro stop_2 m_2 hn8
      obtain ⟨x9, h, hc10⟩ := iter_succ hn8
      replace h : C_Search_scanBack_b1 to_ by_ stop_2 m_2 = some x9 := h
      unfold C_Search_scanBack_b1 at h
      refine s_iload_n X 0 rfl dX6_scanBack_6 ?_
      refine s_load0 X 1 rfl dX6_scanBack_7 ?_
      refine s_getR (id := 1) X fk_X6_31 SHC_345 rfl dX6_scanBack_8 ?_
      refine s_getI X fk_X6_122 SHC_1 rfl dX6_scanBack_11 ?_
      refine s_icmpge_f (tgt := 58) X dX6_scanBack_14 (by omega) (fun c21 => ?_) (fun c22 => ?_)
      · replace h := ite_neg h c21
        exact KX13 _ (iter_exit h hc10)
      · replace h := ite_pos h c22
        obtain ⟨g23, h⟩ := grd_some h
        refine s_load0 X 1 rfl dX6_scanBack_17 ?_
        refine s_getR (id := 347) X fk_X6_15 SHC_345 rfl dX6_scanBack_18 ?_
        refine s_iload_n X 0 rfl dX6_scanBack_21 ?_
        refine s_const X (by unfold InR; omega) dX6_scanBack_22 ?_
        obtain ⟨m_3, e24, h⟩ := ltv_elim h
        refine s_iast X e24 SHC_347 g23.1 g23.2 dX6_scanBack_23 ?_
        obtain ⟨g25, h⟩ := grd_some h
        refine s_load0 X 1 rfl dX6_scanBack_24 ?_
        refine s_getR (id := 348) X fk_X6_19 SHC_345 rfl dX6_scanBack_25 ?_
        refine s_iload_n X 0 rfl dX6_scanBack_28 ?_
        have kM26 : J SHC G rm_X6_scanBack (.inl O) C 0 0 51 [(3, VI stop_2), (0, VR 345), (1, VI to_), (2, VI by_)] [VI (if stop_2 = to_ then by_ else by_ - (m_3 (17 + stop_2.toNat) to_.toNat)), VI stop_2, VR 348] m_3 := by
          obtain ⟨m_4, e29, h⟩ := ltv_elim h
          refine s_iast X e29 SHC_348 g23.1 g23.2 dX6_scanBack_51 ?_
          obtain ⟨g30, h⟩ := grd_some h
          obtain ⟨stop_3, e31, h⟩ := ltv_elim h
          refine s_iinc X 0 rfl g30 e31 rfl (by omega) dX6_scanBack_52 ?_
          refine s_goto (tgt := 6) X dX6_scanBack_55 (by omega) ?_
          exact ih11 _ _ (iter_next h hc10)
        refine s_iload_n X 0 rfl dX6_scanBack_29 ?_
        refine s_iload_n X 2 rfl dX6_scanBack_30 ?_
        refine s_icmpne_f (tgt := 38) X dX6_scanBack_31 (by omega) (fun c27 => ?_) (fun c28 => ?_)
        · refine s_iload_n X 3 rfl dX6_scanBack_38 ?_
          refine s_load0 X 1 rfl dX6_scanBack_39 ?_
          refine s_getR (id := 1) X fk_X6_31 SHC_345 rfl dX6_scanBack_40 ?_
          refine s_getR (id := 16) X fk_X6_108 SHC_1 rfl dX6_scanBack_43 ?_
          refine s_iload_n X 0 rfl dX6_scanBack_46 ?_
          refine s_aaldI (id := (17 + stop_2.toNat)) X (by omega) (Or.inl rfl) SHC_16 g23.1 g23.2 dX6_scanBack_47 ?_
          refine s_iload_n X 2 rfl dX6_scanBack_48 ?_
          refine s_iald X (SHC_r17 g23.1 g23.2) (g25.1 c27) (g25.2.1 c27) dX6_scanBack_49 ?_
          refine s_isub X (g25.2.2 c27) dX6_scanBack_50 ?_
          exact s_eqt (if_neg c27) kM26
        · refine s_iload_n X 3 rfl dX6_scanBack_34 ?_
          refine s_goto (tgt := 51) X dX6_scanBack_35 (by omega) ?_
          exact s_eqt (if_pos c28) kM26
  exact LP12 _ _ _ hl17
set_option maxRecDepth 20000 in
set_option maxHeartbeats 4000000 in
theorem L_C_Search_lastLeaveByRides (G : Gl) (from_ : Int) (to_ : Int) (by_ : Int) (m : Mem) (r : (Int × Mem))  (h : C_Search_lastLeaveByRides from_ to_ by_ m = some r) : Con SHC G yX6_lastLeaveByRides cX6_lastLeaveByRides 6 (some .int) rm_X6_lastLeaveByRides [VR 345, VI from_, VI to_, VI by_] m (((.inl (some (VI r.1)), r.2) : Res × Mem)) := by
  refine con_of (own := "Lastbus$Search") (by decide) rfl (Nat.le_of_ble_eq_true rfl) (fun C X => ?_)
  obtain ⟨O, hO⟩ : ∃ O : Res × Mem, O = (((.inl (some (VI r.1)), r.2) : Res × Mem)) := ⟨_, rfl⟩
  rw [← hO]
  show J SHC G rm_X6_lastLeaveByRides (.inl O) C 0 0 0 [(0, VR 345), (1, VI from_), (2, VI to_), (3, VI by_)] [] m
  unfold C_Search_lastLeaveByRides at h
  refine s_load0 X 0 rfl dX6_lastLeaveByRides_0 ?_
  refine s_iload_n X 2 rfl dX6_lastLeaveByRides_1 ?_
  refine s_iload_n X 3 rfl dX6_lastLeaveByRides_2 ?_
  obtain ⟨m_, hq2, h⟩ := bnd_some h
  refine s_callV (As := [VI to_, VI by_]) X cw_X6_119 SHC_345 rfl dX6_lastLeaveByRides_3 (L_C_Search_scanBack G to_ by_ m m_ hq2) rfl ⟨Nat.le_of_ble_eq_true rfl, Nat.le_of_ble_eq_true rfl⟩ ⟨Nat.le_of_ble_eq_true rfl, Nat.le_of_ble_eq_true rfl⟩ (Nat.le_of_ble_eq_true rfl) noT (kkU ?_)
  obtain ⟨g5, h⟩ := grd_some h
  refine s_load0 X 0 rfl dX6_lastLeaveByRides_6 ?_
  refine s_getR (id := 347) X fk_X6_15 SHC_345 rfl dX6_lastLeaveByRides_7 ?_
  refine s_iload_n X 1 rfl dX6_lastLeaveByRides_10 ?_
  refine s_iald X SHC_347 g5.1 g5.2 dX6_lastLeaveByRides_11 ?_
  obtain ⟨leave_, e6, h⟩ := ltv_elim h
  refine s_istore X e6 rfl (by omega) dX6_lastLeaveByRides_12 ?_
  refine s_const X (by unfold InR; omega) dX6_lastLeaveByRides_14 ?_
  obtain ⟨stop_, e8, h⟩ := ltv_elim h
  refine s_istore X e8 rfl (by omega) dX6_lastLeaveByRides_15 ?_
  obtain ⟨leave_4, stop_4, hl18, h⟩ := bq2_some h
  obtain ⟨fu90, hl19⟩ := loop_iter hl18
  have KX15 : ∀ q9 : Int × Int, q9 = (leave_4, stop_4) → J SHC G rm_X6_lastLeaveByRides (.inl O) C 0 0 62 [(5, VI q9.2), (4, VI q9.1), (0, VR 345), (1, VI from_), (2, VI to_), (3, VI by_)] [] m_ := by
    intro q9 e9
    subst e9
    show J SHC G rm_X6_lastLeaveByRides (.inl O) C 0 0 62 [(5, VI stop_4), (4, VI leave_4), (0, VR 345), (1, VI from_), (2, VI to_), (3, VI by_)] [] m_
    refine s_iload X 1 rfl dX6_lastLeaveByRides_62 ?_
    exact s_iret X (Nat.le_of_ble_eq_true rfl) (Nat.le_of_ble_eq_true rfl) (by cases h; exact hO) dX6_lastLeaveByRides_64
  have LP14 : ∀ (fu9 : Nat) (leave_2 : Int) (stop_2 : Int), iter (fun s => C_Search_lastLeaveByRides_b1 from_ m_ s.1 s.2) fu9 (leave_2, stop_2) = some (leave_4, stop_4) → J SHC G rm_X6_lastLeaveByRides (.inl O) C 0 0 17 [(5, VI stop_2), (4, VI leave_2), (0, VR 345), (1, VI from_), (2, VI to_), (3, VI by_)] [] m_ := by
    intro fu9
    induction fu9 with
    | zero => intro leave_2 stop_2 hn10; exact absurd hn10 (by simp [iter])
    | succ fu9 ih13 =>
      intro leave_2 stop_2 hn10
      obtain ⟨x11, h, hc12⟩ := iter_succ hn10
      replace h : C_Search_lastLeaveByRides_b1 from_ m_ leave_2 stop_2 = some x11 := h
      unfold C_Search_lastLeaveByRides_b1 at h
      refine s_iload X 0 rfl dX6_lastLeaveByRides_17 ?_
      refine s_load0 X 2 rfl dX6_lastLeaveByRides_19 ?_
      refine s_getR (id := 1) X fk_X6_31 SHC_345 rfl dX6_lastLeaveByRides_20 ?_
      refine s_getI X fk_X6_122 SHC_1 rfl dX6_lastLeaveByRides_23 ?_
      refine s_icmpge_f (tgt := 62) X dX6_lastLeaveByRides_26 (by omega) (fun c23 => ?_) (fun c24 => ?_)
      · replace h := ite_neg h c23
        exact KX15 _ (iter_exit h hc12)
      · replace h := ite_pos h c24
        obtain ⟨g25, h⟩ := grd_some h
        refine s_iload X 1 rfl dX6_lastLeaveByRides_29 ?_
        refine s_load0 X 2 rfl dX6_lastLeaveByRides_31 ?_
        refine s_getR (id := 347) X fk_X6_15 SHC_345 rfl dX6_lastLeaveByRides_32 ?_
        refine s_iload X 0 rfl dX6_lastLeaveByRides_35 ?_
        refine s_iald X SHC_347 g25.1 g25.2.1 dX6_lastLeaveByRides_37 ?_
        refine s_load0 X 2 rfl dX6_lastLeaveByRides_38 ?_
        refine s_getR (id := 1) X fk_X6_31 SHC_345 rfl dX6_lastLeaveByRides_39 ?_
        refine s_getR (id := 16) X fk_X6_108 SHC_1 rfl dX6_lastLeaveByRides_42 ?_
        refine s_iload_n X 3 rfl dX6_lastLeaveByRides_45 ?_
        refine s_aaldI (id := (17 + from_.toNat)) X (by omega) (Or.inl rfl) SHC_16 g25.2.2.1 g25.2.2.2.1 dX6_lastLeaveByRides_46 ?_
        refine s_iload X 0 rfl dX6_lastLeaveByRides_47 ?_
        refine s_iald X (SHC_r17 g25.2.2.1 g25.2.2.2.1) g25.1 g25.2.1 dX6_lastLeaveByRides_49 ?_
        refine s_isub X g25.2.2.2.2 dX6_lastLeaveByRides_50 ?_
        refine s_max X mm_X6_113 (Nat.le_of_ble_eq_true rfl) (Nat.le_of_ble_eq_true rfl) ⟨Nat.le_of_ble_eq_true rfl, Nat.le_of_ble_eq_true rfl⟩ dX6_lastLeaveByRides_51 ?_
        obtain ⟨leave_3, e26, h⟩ := ltv_elim h
        refine s_istore X e26 rfl (by omega) dX6_lastLeaveByRides_54 ?_
        obtain ⟨g27, h⟩ := grd_some h
        obtain ⟨stop_3, e28, h⟩ := ltv_elim h
        refine s_iinc X 1 rfl g27 e28 rfl (by omega) dX6_lastLeaveByRides_56 ?_
        refine s_goto (tgt := 17) X dX6_lastLeaveByRides_59 (by omega) ?_
        exact ih13 _ _ (iter_next h hc12)
  exact LP14 _ _ _ hl19
set_option maxRecDepth 20000 in
set_option maxHeartbeats 4000000 in
theorem L_C_Search_lastLeave (G : Gl) (from_ : Int) (to_ : Int) (by_ : Int) (m : Mem) (r : (Int × Mem))  (h : C_Search_lastLeave from_ to_ by_ m = some r) : Con SHC G yX6_lastLeave cX6_lastLeave 6 (some .int) rm_X6_lastLeave [VR 345, VI from_, VI to_, VI by_] m (((.inl (some (VI r.1)), r.2) : Res × Mem)) := by
  refine con_of (own := "Lastbus$Search") (by decide) rfl (Nat.le_of_ble_eq_true rfl) (fun C X => ?_)
  obtain ⟨O, hO⟩ : ∃ O : Res × Mem, O = (((.inl (some (VI r.1)), r.2) : Res × Mem)) := ⟨_, rfl⟩
  rw [← hO]
  show J SHC G rm_X6_lastLeave (.inl O) C 0 0 0 [(0, VR 345), (1, VI from_), (2, VI to_), (3, VI by_)] [] m
  unfold C_Search_lastLeave at h
  refine s_load0 X 0 rfl dX6_lastLeave_0 ?_
  refine s_iload_n X 1 rfl dX6_lastLeave_1 ?_
  refine s_iload_n X 2 rfl dX6_lastLeave_2 ?_
  refine s_iload_n X 3 rfl dX6_lastLeave_3 ?_
  obtain ⟨r_, m_, hq2, h⟩ := bq2_some h
  refine s_callV (As := [VI from_, VI to_, VI by_]) X cw_X6_104 SHC_345 rfl dX6_lastLeave_4 (L_C_Search_lastLeaveByRides G from_ to_ by_ m (r_, m_) hq2) rfl ⟨Nat.le_of_ble_eq_true rfl, Nat.le_of_ble_eq_true rfl⟩ ⟨Nat.le_of_ble_eq_true rfl, Nat.le_of_ble_eq_true rfl⟩ (Nat.le_of_ble_eq_true rfl) noT (kkR ?_)
  obtain ⟨byRides_, e5, h⟩ := ltv_elim h
  refine s_istore X e5 rfl (by omega) dX6_lastLeave_7 ?_
  obtain ⟨g6, h⟩ := grd_some h
  have kM7 : J SHC G rm_X6_lastLeave (.inl O) C 0 0 31 [(4, VI byRides_), (0, VR 345), (1, VI from_), (2, VI to_), (3, VI by_)] [VI (if from_ = to_ then by_ else by_ - (m_ (17 + from_.toNat) to_.toNat))] m_ := by
    obtain ⟨byFoot_, e10, h⟩ := ltv_elim h
    refine s_istore X e10 rfl (by omega) dX6_lastLeave_31 ?_
    refine s_iload X 1 rfl dX6_lastLeave_33 ?_
    refine s_iload X 0 rfl dX6_lastLeave_35 ?_
    refine s_max X mm_X6_113 (Nat.le_of_ble_eq_true rfl) (Nat.le_of_ble_eq_true rfl) ⟨Nat.le_of_ble_eq_true rfl, Nat.le_of_ble_eq_true rfl⟩ dX6_lastLeave_37 ?_
    exact s_iret X (Nat.le_of_ble_eq_true rfl) (Nat.le_of_ble_eq_true rfl) (by cases h; exact hO) dX6_lastLeave_40
  refine s_iload_n X 2 rfl dX6_lastLeave_9 ?_
  refine s_iload_n X 3 rfl dX6_lastLeave_10 ?_
  refine s_icmpne_f (tgt := 18) X dX6_lastLeave_11 (by omega) (fun c8 => ?_) (fun c9 => ?_)
  · refine s_iload_n X 4 rfl dX6_lastLeave_18 ?_
    refine s_load0 X 1 rfl dX6_lastLeave_19 ?_
    refine s_getR (id := 1) X fk_X6_31 SHC_345 rfl dX6_lastLeave_20 ?_
    refine s_getR (id := 16) X fk_X6_108 SHC_1 rfl dX6_lastLeave_23 ?_
    refine s_iload_n X 2 rfl dX6_lastLeave_26 ?_
    refine s_aaldI (id := (17 + from_.toNat)) X (by omega) (Or.inl rfl) SHC_16 (g6.1 c8) (g6.2.1 c8) dX6_lastLeave_27 ?_
    refine s_iload_n X 3 rfl dX6_lastLeave_28 ?_
    refine s_iald X (SHC_r17 (g6.1 c8) (g6.2.1 c8)) (g6.2.2.1 c8) (g6.2.2.2.1 c8) dX6_lastLeave_29 ?_
    refine s_isub X (g6.2.2.2.2 c8) dX6_lastLeave_30 ?_
    exact s_eqt (if_neg c8) kM7
  · refine s_iload_n X 4 rfl dX6_lastLeave_14 ?_
    refine s_goto (tgt := 31) X dX6_lastLeave_15 (by omega) ?_
    exact s_eqt (if_pos c9) kM7
set_option maxRecDepth 20000 in
set_option maxHeartbeats 4000000 in
theorem L_C_last (G : Gl) (from_ : Int) (to_ : Int) (day_ : Int) (minute_ : Int) (m : Mem) (r : ((Int ⊕ Nat) × Mem))  (h : C_last from_ to_ day_ minute_ m = some r) : Con SHC G yX11_last cX11_last 6 (some .int) rm_X11_last [VR 0, VI from_, VI to_, VI day_, VI minute_] m (oT wI r) := by
  refine con_of (own := "Lastbus") (by decide) rfl (Nat.le_of_ble_eq_true rfl) (fun C X => ?_)
  obtain ⟨O, hO⟩ : ∃ O : Res × Mem, O = (oT wI r) := ⟨_, rfl⟩
  rw [← hO]
  show J SHC G rm_X11_last (.inl O) C 0 0 0 [(0, VR 0), (1, VI from_), (2, VI to_), (3, VI day_), (4, VI minute_)] [] m
  unfold C_last at h
  refine s_load0 X 0 rfl dX11_last_0 ?_
  refine s_iload_n X 1 rfl dX11_last_1 ?_
  obtain ⟨q3, hq2, h⟩ := bnd_some h
  refine s_callV (As := [VI from_]) X cw_X11_107 SHC_0 rfl dX11_last_2 (L_C_needStop G from_ m q3 hq2) rfl ⟨Nat.le_of_ble_eq_true rfl, Nat.le_of_ble_eq_true rfl⟩ ⟨Nat.le_of_ble_eq_true rfl, Nat.le_of_ble_eq_true rfl⟩ (Nat.le_of_ble_eq_true rfl) (thr_up hO h) (kkT fun u_ m_ e9 => ?_)
  subst e9
  replace h := tbd_inl h
  refine s_load0 X 0 rfl dX11_last_5 ?_
  refine s_iload_n X 2 rfl dX11_last_6 ?_
  obtain ⟨q7, hq6, h⟩ := bnd_some h
  refine s_callV (As := [VI to_]) X cw_X11_107 SHC_0 rfl dX11_last_7 (L_C_needStop G to_ m_ q7 hq6) rfl ⟨Nat.le_of_ble_eq_true rfl, Nat.le_of_ble_eq_true rfl⟩ ⟨Nat.le_of_ble_eq_true rfl, Nat.le_of_ble_eq_true rfl⟩ (Nat.le_of_ble_eq_true rfl) (thr_up hO h) (kkT fun u_2 m_2 e9 => ?_)
  subst e9
  replace h := tbd_inl h
  refine s_iload_n X 3 rfl dX11_last_10 ?_
  obtain ⟨q11, hq10, h⟩ := bnd_some h
  refine s_callS (As := [VI day_]) X cw_X11_140 dX11_last_11 (L_C_needDay G day_ m_2 q11 hq10) rfl ⟨Nat.le_of_ble_eq_true rfl, Nat.le_of_ble_eq_true rfl⟩ ⟨Nat.le_of_ble_eq_true rfl, Nat.le_of_ble_eq_true rfl⟩ (Nat.le_of_ble_eq_true rfl) (thr_up hO h) (kkT fun u_3 m_3 e9 => ?_)
  subst e9
  replace h := tbd_inl h
  refine s_iload X 4 rfl dX11_last_14 ?_
  refine s_const X (by unfold InR; omega) dX11_last_16 ?_
  refine s_sipush X (by omega) dX11_last_17 ?_
  obtain ⟨q15, hq14, h⟩ := bnd_some h
  refine s_callS (As := [VI minute_, VI 0, VI 2879]) X cw_X11_88 dX11_last_20 (L_C_needNumber G minute_ 0 2879 m_3 q15 hq14) rfl ⟨Nat.le_of_ble_eq_true rfl, Nat.le_of_ble_eq_true rfl⟩ ⟨Nat.le_of_ble_eq_true rfl, Nat.le_of_ble_eq_true rfl⟩ (Nat.le_of_ble_eq_true rfl) (thr_up hO h) (kkT fun u_4 m_4 e9 => ?_)
  subst e9
  replace h := tbd_inl h
  refine s_load0 X 0 rfl dX11_last_23 ?_
  refine s_getR (id := 119) X fk_X11_49 SHC_0 rfl dX11_last_24 ?_
  refine s_iload_n X 3 rfl dX11_last_27 ?_
  refine s_const X (by unfold InR; omega) dX11_last_28 ?_
  refine s_const X (by unfold InR; omega) dX11_last_29 ?_
  obtain ⟨m_5, hq18, h⟩ := bnd_some h
  refine s_callV (As := [VI day_, VI (-1), VI 0]) X cw_X11_280 SHC_119 rfl dX11_last_30 (L_C_Net_lay G day_ (-1) 0 m_4 m_5 hq18) rfl ⟨Nat.le_of_ble_eq_true rfl, Nat.le_of_ble_eq_true rfl⟩ ⟨Nat.le_of_ble_eq_true rfl, Nat.le_of_ble_eq_true rfl⟩ (Nat.le_of_ble_eq_true rfl) noT (kkU ?_)
  refine s_load0 X 0 rfl dX11_last_33 ?_
  refine s_getR (id := 345) X fk_X11_58 SHC_0 rfl dX11_last_34 ?_
  refine s_iload_n X 1 rfl dX11_last_37 ?_
  refine s_iload_n X 2 rfl dX11_last_38 ?_
  refine s_iload X 4 rfl dX11_last_39 ?_
  obtain ⟨r_, m_6, hq22, h⟩ := bq2_some h
  refine s_callV (As := [VI from_, VI to_, VI minute_]) X cw_X11_303 SHC_345 rfl dX11_last_41 (L_C_Search_lastLeave G from_ to_ minute_ m_5 (r_, m_6) hq22) rfl ⟨Nat.le_of_ble_eq_true rfl, Nat.le_of_ble_eq_true rfl⟩ ⟨Nat.le_of_ble_eq_true rfl, Nat.le_of_ble_eq_true rfl⟩ (Nat.le_of_ble_eq_true rfl) noT (kkR ?_)
  obtain ⟨leave_, e25, h⟩ := ltv_elim h
  refine s_istore X e25 rfl (by omega) dX11_last_44 ?_
  refine s_iload X 0 rfl dX11_last_46 ?_
  refine s_ifge_f (tgt := 62) X dX11_last_48 (by omega) (fun c29 => ?_) (fun c30 => ?_)
  · replace h := ite_neg h c29
    refine s_iload X 0 rfl dX11_last_62 ?_
    exact s_iret X (Nat.le_of_ble_eq_true rfl) (Nat.le_of_ble_eq_true rfl) (by cases h; exact hO) dX11_last_64
  · replace h := ite_pos h c30
    exact s_throwNW X th_X11_168_306_172 (by cases h; exact hO) (Nat.le_of_ble_eq_true rfl) (Nat.le_of_ble_eq_true rfl) (Nat.le_of_ble_eq_true rfl) (Nat.le_of_ble_eq_true rfl) dX11_last_51 dX11_last_54 dX11_last_55 dX11_last_58 dX11_last_61
set_option maxRecDepth 20000 in
set_option maxHeartbeats 4000000 in
theorem L_C_Rounds_fewestRides (G : Gl) (to_ : Int) (m : Mem) (r : Int)  (h : C_Rounds_fewestRides to_ m = some r) : Con SHC G yX4_fewestRides cX4_fewestRides 3 (some .int) rm_X4_fewestRides [VR 355, VI to_] m (((.inl (some (VI r)), m) : Res × Mem)) := by
  refine con_of (own := "Lastbus$Rounds") (by decide) rfl (Nat.le_of_ble_eq_true rfl) (fun C X => ?_)
  obtain ⟨O, hO⟩ : ∃ O : Res × Mem, O = (((.inl (some (VI r)), m) : Res × Mem)) := ⟨_, rfl⟩
  rw [← hO]
  show J SHC G rm_X4_fewestRides (.inl O) C 0 0 0 [(0, VR 355), (1, VI to_)] [] m
  unfold C_Rounds_fewestRides at h
  refine s_const X (by unfold InR; omega) dX4_fewestRides_0 ?_
  obtain ⟨round_, e2, h⟩ := ltv_elim h
  refine s_istore_n X e2 rfl (by omega) dX4_fewestRides_1 ?_
  obtain ⟨s10, hl12, h⟩ := br1_some h
  obtain ⟨fu30, hl13⟩ := loop_iter hl12
  have KR11 : ∀ q9 : Int, .inr q9 = s10 → O = ((.inl (some (VI q9)), m) : Res × Mem) := by
    intro q9 e9
    subst e9
    replace h := brm1_inr h
    exact (by cases h; exact hO)
  have KX9 : ∀ q9 : Int, .inl q9 = s10 → J SHC G rm_X4_fewestRides (.inl O) C 0 0 36 [(2, VI q9), (0, VR 355), (1, VI to_)] [] m := by
    intro q9 e9
    subst e9
    replace h := brm1_inl h
    obtain ⟨round_4, e8⟩ : ∃ z, z = q9 := ⟨_, rfl⟩
    subst e8
    show J SHC G rm_X4_fewestRides (.inl O) C 0 0 36 [(2, VI round_4), (0, VR 355), (1, VI to_)] [] m
    refine s_load0 X 1 rfl dX4_fewestRides_36 ?_
    refine s_getI X fk_X4_45 SHC_355 rfl dX4_fewestRides_37 ?_
    exact s_iret X (Nat.le_of_ble_eq_true rfl) (Nat.le_of_ble_eq_true rfl) (by cases h; exact hO) dX4_fewestRides_40
  have LP8 : ∀ (fu3 : Nat) (round_2 : Int), iter (fun s => C_Rounds_fewestRides_b1 to_ m s) fu3 round_2 = some s10 → J SHC G rm_X4_fewestRides (.inl O) C 0 0 2 [(2, VI round_2), (0, VR 355), (1, VI to_)] [] m := by
    intro fu3
    induction fu3 with
    | zero => intro round_2 hn4; exact absurd hn4 (by simp [iter])
    | succ fu3 ih7 =>
      intro round_2 hn4
      obtain ⟨x5, h, hc6⟩ := iter_succ hn4
      replace h : C_Rounds_fewestRides_b1 to_ m round_2 = some x5 := h
      unfold C_Rounds_fewestRides_b1 at h
      refine s_iload_n X 0 rfl dX4_fewestRides_2 ?_
      refine s_load0 X 1 rfl dX4_fewestRides_3 ?_
      refine s_getI X fk_X4_45 SHC_355 rfl dX4_fewestRides_4 ?_
      refine s_icmpge_f (tgt := 36) X dX4_fewestRides_7 (by omega) (fun c17 => ?_) (fun c18 => ?_)
      · replace h := ite_neg h c17
        exact KX9 _ (iter_exit h hc6)
      · replace h := ite_pos h c18
        obtain ⟨g19, h⟩ := grd_some h
        refine s_load0 X 1 rfl dX4_fewestRides_10 ?_
        refine s_getR (id := 356) X fk_X4_11 SHC_355 rfl dX4_fewestRides_11 ?_
        refine s_iload_n X 0 rfl dX4_fewestRides_14 ?_
        refine s_aaldI (id := (361 + 3 * round_2.toNat)) X (by omega) (Or.inr rfl) SHC_356 g19.1 g19.2 dX4_fewestRides_15 ?_
        refine s_iload_n X 2 rfl dX4_fewestRides_16 ?_
        obtain ⟨r_, hq20, h⟩ := bnd_some h
        refine s_callV (As := [VI to_]) X cw_X4_82 (shLab (labRow g19.1 g19.2)) rfl dX4_fewestRides_17 (L_C_Labels_at G (361 + 3 * round_2.toNat) to_ m r_ (labRow g19.1 g19.2) hq20) rfl ⟨Nat.le_of_ble_eq_true rfl, Nat.le_of_ble_eq_true rfl⟩ ⟨Nat.le_of_ble_eq_true rfl, Nat.le_of_ble_eq_true rfl⟩ (Nat.le_of_ble_eq_true rfl) noT (kkR ?_)
        refine s_load0 X 1 rfl dX4_fewestRides_20 ?_
        refine s_iload_n X 2 rfl dX4_fewestRides_21 ?_
        obtain ⟨r_2, hq23, h⟩ := bnd_some h
        refine s_callV (As := [VI to_]) X cw_X4_87 SHC_355 rfl dX4_fewestRides_22 (L_C_Rounds_least G to_ m r_2 hq23) rfl ⟨Nat.le_of_ble_eq_true rfl, Nat.le_of_ble_eq_true rfl⟩ ⟨Nat.le_of_ble_eq_true rfl, Nat.le_of_ble_eq_true rfl⟩ (Nat.le_of_ble_eq_true rfl) noT (kkR ?_)
        refine s_icmpne_f (tgt := 30) X dX4_fewestRides_25 (by omega) (fun c26 => ?_) (fun c27 => ?_)
        · replace h := ite_neg h c26
          obtain ⟨g28, h⟩ := grd_some h
          obtain ⟨round_3, e29, h⟩ := ltv_elim h
          refine s_iinc X 0 rfl g28 e29 rfl (by omega) dX4_fewestRides_30 ?_
          refine s_goto (tgt := 2) X dX4_fewestRides_33 (by omega) ?_
          exact ih7 _ (iter_next h hc6)
        · replace h := ite_pos h c27
          refine s_iload_n X 0 rfl dX4_fewestRides_28 ?_
          exact s_iret X (Nat.le_of_ble_eq_true rfl) (Nat.le_of_ble_eq_true rfl) (KR11 _ (iter_exit h hc6)) dX4_fewestRides_29
  exact LP8 _ _ hl13
set_option maxRecDepth 20000 in
set_option maxHeartbeats 4000000 in
theorem L_C_Rounds_offCall (G : Gl) (run_ : Int) (ride_ : Int) (stop_ : Int) (by_ : Int) (pause_ : Int) (m : Mem) (r : Int)  (h : C_Rounds_offCall run_ ride_ stop_ by_ pause_ m = some r) : Con SHC G yX4_offCall cX4_offCall 9 (some .int) rm_X4_offCall [VR 355, VI run_, VI ride_, VI stop_, VI by_, VI pause_] m (((.inl (some (VI r)), m) : Res × Mem)) := by
  refine con_of (own := "Lastbus$Rounds") (by decide) rfl (Nat.le_of_ble_eq_true rfl) (fun C X => ?_)
  obtain ⟨O, hO⟩ : ∃ O : Res × Mem, O = (((.inl (some (VI r)), m) : Res × Mem)) := ⟨_, rfl⟩
  rw [← hO]
  show J SHC G rm_X4_offCall (.inl O) C 0 0 0 [(0, VR 355), (1, VI run_), (2, VI ride_), (3, VI stop_), (4, VI by_), (5, VI pause_)] [] m
  unfold C_Rounds_offCall at h
  refine s_const X (by unfold InR; omega) dX4_offCall_0 ?_
  obtain ⟨isOn_, e2, h⟩ := ltv_elim h
  refine s_istore X e2 rfl (by omega) dX4_offCall_1 ?_
  refine s_const X (by unfold InR; omega) dX4_offCall_3 ?_
  obtain ⟨call_, e4, h⟩ := ltv_elim h
  refine s_istore X e4 rfl (by omega) dX4_offCall_4 ?_
  obtain ⟨s12, hl14, h⟩ := br2_some h
  obtain ⟨fu50, hl15⟩ := loop_iter hl14
  have KR13 : ∀ q9 : Int, .inr q9 = s12 → O = ((.inl (some (VI q9)), m) : Res × Mem) := by
    intro q9 e9
    subst e9
    replace h := brm2_inr h
    exact (by cases h; exact hO)
  have KX11 : ∀ q9 : Int × Int, .inl q9 = s12 → J SHC G rm_X4_offCall (.inl O) C 0 0 147 [(7, VI q9.2), (6, VI q9.1), (0, VR 355), (1, VI run_), (2, VI ride_), (3, VI stop_), (4, VI by_), (5, VI pause_)] [] m := by
    intro q9 e9
    subst e9
    obtain ⟨isOn_4, call_4⟩ := q9
    replace h := brm2_inl h
    show J SHC G rm_X4_offCall (.inl O) C 0 0 147 [(7, VI call_4), (6, VI isOn_4), (0, VR 355), (1, VI run_), (2, VI ride_), (3, VI stop_), (4, VI by_), (5, VI pause_)] [] m
    refine s_const X (by unfold InR; omega) dX4_offCall_147 ?_
    exact s_iret X (Nat.le_of_ble_eq_true rfl) (Nat.le_of_ble_eq_true rfl) (by cases h; exact hO) dX4_offCall_148
  have LP10 : ∀ (fu5 : Nat) (isOn_2 : Int) (call_2 : Int), iter (fun s => C_Rounds_offCall_b1 run_ ride_ stop_ by_ pause_ m s.1 s.2) fu5 (isOn_2, call_2) = some s12 → J SHC G rm_X4_offCall (.inl O) C 0 0 6 [(7, VI call_2), (6, VI isOn_2), (0, VR 355), (1, VI run_), (2, VI ride_), (3, VI stop_), (4, VI by_), (5, VI pause_)] [] m := by
    intro fu5
    induction fu5 with
    | zero => intro isOn_2 call_2 hn6; exact absurd hn6 (by simp [iter])
    | succ fu5 ih9 =>
      intro isOn_2 call_2 hn6
      obtain ⟨x7, h, hc8⟩ := iter_succ hn6
      replace h : C_Rounds_offCall_b1 run_ ride_ stop_ by_ pause_ m isOn_2 call_2 = some x7 := h
      unfold C_Rounds_offCall_b1 at h
      obtain ⟨g16, h⟩ := grd_some h
      refine s_iload X 0 rfl dX4_offCall_6 ?_
      refine s_load0 X 2 rfl dX4_offCall_8 ?_
      refine s_getR (id := 119) X fk_X4_34 SHC_355 rfl dX4_offCall_9 ?_
      refine s_getR (id := 122) X fk_X4_62 SHC_119 rfl dX4_offCall_12 ?_
      refine s_iload_n X 3 rfl dX4_offCall_15 ?_
      refine s_iald X SHC_122 g16.1 g16.2 dX4_offCall_16 ?_
      refine s_icmpge_f (tgt := 147) X dX4_offCall_17 (by omega) (fun c19 => ?_) (fun c20 => ?_)
      · replace h := ite_neg h c19
        exact KX11 _ (iter_exit h hc8)
      · replace h := ite_pos h c20
        obtain ⟨g21, h⟩ := grd_some h
        have kM22 : J SHC G rm_X4_offCall (.inl O) C 0 0 63 [(7, VI call_2), (6, VI isOn_2), (0, VR 355), (1, VI run_), (2, VI ride_), (3, VI stop_), (4, VI by_), (5, VI pause_)] [VI (if m (124 + run_.toNat) call_2.toNat = stop_ then pause_ else m (17 + (m (124 + run_.toNat) call_2.toNat).toNat) stop_.toNat)] m := by
          obtain ⟨between_, e25, h⟩ := ltv_elim h
          refine s_istore X e25 rfl (by omega) dX4_offCall_63 ?_
          obtain ⟨g26, h⟩ := grd_some h
          have kF28 : ¬ ((¬ isOn_2 = 0) ∧ (m (197 + run_.toNat) call_2.toNat + between_ ≤ by_)) → J SHC G rm_X4_offCall (.inl O) C 0 0 93 [(8, VI between_), (7, VI call_2), (6, VI isOn_2), (0, VR 355), (1, VI run_), (2, VI ride_), (3, VI stop_), (4, VI by_), (5, VI pause_)] [] m := by
            intro c51
            replace h := ite_neg h c51
            obtain ⟨kj_, hk32, h⟩ := ltv_elim h
            have K33 : ∀ (v_ : Int), kj_ v_ = some x7 → J SHC G rm_X4_offCall (.inl O) C 0 0 139 [(8, VI between_), (7, VI call_2), (6, VI isOn_2), (0, VR 355), (1, VI run_), (2, VI ride_), (3, VI stop_), (4, VI by_), (5, VI pause_)] [VI v_] m := by
              intro v_ h
              subst hk32
              dsimp only at h
              obtain ⟨isOn_3, e48, h⟩ := ltv_elim h
              refine s_istore X e48 rfl (by omega) dX4_offCall_139 ?_
              obtain ⟨g49, h⟩ := grd_some h
              obtain ⟨call_3, e50, h⟩ := ltv_elim h
              refine s_iinc X 2 rfl g49 e50 rfl (by omega) dX4_offCall_141 ?_
              refine s_goto (tgt := 6) X dX4_offCall_144 (by omega) ?_
              refine s_loc [0, 1, 3, 4, 5, 6, 7, 8] rfl ?_
              exact ih9 _ _ (iter_next h hc8)
            refine s_iload X 2 rfl dX4_offCall_93 ?_
            refine s_ifne_t (tgt := 134) X dX4_offCall_95 (by omega) (fun c36 => ?_) (fun c37 => ?_)
            · replace h := ite_pos h c36
              refine s_const X (by unfold InR; omega) dX4_offCall_134 ?_
              refine s_goto (tgt := 139) X dX4_offCall_135 (by omega) ?_
              exact s_kn rfl rfl (K33 _ h)
            · replace h := ite_neg h c37
              obtain ⟨g39, h⟩ := grd_some h
              refine s_load0 X 3 rfl dX4_offCall_98 ?_
              refine s_getR (id := 356) X fk_X4_11 SHC_355 rfl dX4_offCall_99 ?_
              refine s_iload_n X 5 rfl dX4_offCall_102 ?_
              refine s_aaldI (id := (361 + 3 * ride_.toNat)) X (by omega) (Or.inr rfl) SHC_356 g39.1 g39.2.1 dX4_offCall_103 ?_
              refine s_load0 X 3 rfl dX4_offCall_104 ?_
              refine s_getR (id := 119) X fk_X4_34 SHC_355 rfl dX4_offCall_105 ?_
              refine s_getR (id := 123) X fk_X4_65 SHC_119 rfl dX4_offCall_108 ?_
              refine s_iload_n X 4 rfl dX4_offCall_111 ?_
              refine s_aaldI (id := (124 + run_.toNat)) X (by omega) (Or.inl rfl) SHC_123 g16.1 g16.2 dX4_offCall_112 ?_
              refine s_iload X 1 rfl dX4_offCall_113 ?_
              refine s_iald X (SHC_r124 g16.1 g16.2) g39.2.2.1 g39.2.2.2 dX4_offCall_115 ?_
              refine s_load0 X 3 rfl dX4_offCall_116 ?_
              refine s_getR (id := 119) X fk_X4_34 SHC_355 rfl dX4_offCall_117 ?_
              refine s_getR (id := 269) X fk_X4_76 SHC_119 rfl dX4_offCall_120 ?_
              refine s_iload_n X 4 rfl dX4_offCall_123 ?_
              refine s_aaldI (id := (270 + run_.toNat)) X (by omega) (Or.inl rfl) SHC_269 g16.1 g16.2 dX4_offCall_124 ?_
              refine s_iload X 1 rfl dX4_offCall_125 ?_
              refine s_iald X (SHC_r270 g16.1 g16.2) g39.2.2.1 g39.2.2.2 dX4_offCall_127 ?_
              obtain ⟨r_, hq40, h⟩ := bnd_some h
              refine s_callV (As := [VI (m (124 + run_.toNat) call_2.toNat), VI (m (270 + run_.toNat) call_2.toNat)]) X cw_X4_79 (shLab (labRow g39.1 g39.2.1)) rfl dX4_offCall_128 (L_C_Labels_canGetOn G (361 + 3 * ride_.toNat) (m (124 + run_.toNat) call_2.toNat) (m (270 + run_.toNat) call_2.toNat) m r_ (labRow g39.1 g39.2.1) hq40) rfl ⟨Nat.le_of_ble_eq_true rfl, Nat.le_of_ble_eq_true rfl⟩ ⟨Nat.le_of_ble_eq_true rfl, Nat.le_of_ble_eq_true rfl⟩ (Nat.le_of_ble_eq_true rfl) noT (kkR ?_)
              refine s_ifeq_f (tgt := 138) X dX4_offCall_131 (by omega) (fun c43 => ?_) (fun c44 => ?_)
              · replace h := ite_neg h c43
                refine s_const X (by unfold InR; omega) dX4_offCall_138 ?_
                exact s_kn rfl rfl (K33 _ h)
              · replace h := ite_pos h c44
                refine s_const X (by unfold InR; omega) dX4_offCall_134 ?_
                refine s_goto (tgt := 139) X dX4_offCall_135 (by omega) ?_
                exact s_kn rfl rfl (K33 _ h)
          refine s_iload X 2 rfl dX4_offCall_65 ?_
          refine s_ifeq_f (tgt := 93) X dX4_offCall_67 (by omega) (fun c29 => ?_) (fun c30 => ?_)
          · exact kF28 (fun q => c29 q.1)
          · have a52 : ¬ isOn_2 = 0 := c30
            refine s_load0 X 3 rfl dX4_offCall_70 ?_
            refine s_getR (id := 119) X fk_X4_34 SHC_355 rfl dX4_offCall_71 ?_
            refine s_getR (id := 196) X fk_X4_69 SHC_119 rfl dX4_offCall_74 ?_
            refine s_iload_n X 4 rfl dX4_offCall_77 ?_
            refine s_aaldI (id := (197 + run_.toNat)) X (by omega) (Or.inl rfl) SHC_196 g16.1 g16.2 dX4_offCall_78 ?_
            refine s_iload X 1 rfl dX4_offCall_79 ?_
            refine s_iald X (SHC_r197 g16.1 g16.2) (g26.1 a52) (g26.2.1 a52) dX4_offCall_81 ?_
            refine s_iload X 0 rfl dX4_offCall_82 ?_
            refine s_iadd X (g26.2.2 a52) dX4_offCall_84 ?_
            refine s_iload X 7 rfl dX4_offCall_85 ?_
            refine s_icmpgt_f (tgt := 93) X dX4_offCall_87 (by omega) (fun c53 => ?_) (fun c54 => ?_)
            · exact kF28 (fun q => c53 q.2)
            · replace h := ite_pos h ⟨a52, c54⟩
              refine s_iload X 1 rfl dX4_offCall_90 ?_
              exact s_iret X (Nat.le_of_ble_eq_true rfl) (Nat.le_of_ble_eq_true rfl) (KR13 _ (iter_exit h hc8)) dX4_offCall_92
        refine s_load0 X 2 rfl dX4_offCall_20 ?_
        refine s_getR (id := 119) X fk_X4_34 SHC_355 rfl dX4_offCall_21 ?_
        refine s_getR (id := 123) X fk_X4_65 SHC_119 rfl dX4_offCall_24 ?_
        refine s_iload_n X 3 rfl dX4_offCall_27 ?_
        refine s_aaldI (id := (124 + run_.toNat)) X (by omega) (Or.inl rfl) SHC_123 g16.1 g16.2 dX4_offCall_28 ?_
        refine s_iload X 0 rfl dX4_offCall_29 ?_
        refine s_iald X (SHC_r124 g16.1 g16.2) g21.1 g21.2.1 dX4_offCall_31 ?_
        refine s_iload_n X 5 rfl dX4_offCall_32 ?_
        refine s_icmpne_f (tgt := 41) X dX4_offCall_33 (by omega) (fun c23 => ?_) (fun c24 => ?_)
        · refine s_load0 X 2 rfl dX4_offCall_41 ?_
          refine s_getR (id := 1) X fk_X4_30 SHC_355 rfl dX4_offCall_42 ?_
          refine s_getR (id := 16) X fk_X4_119 SHC_1 rfl dX4_offCall_45 ?_
          refine s_load0 X 2 rfl dX4_offCall_48 ?_
          refine s_getR (id := 119) X fk_X4_34 SHC_355 rfl dX4_offCall_49 ?_
          refine s_getR (id := 123) X fk_X4_65 SHC_119 rfl dX4_offCall_52 ?_
          refine s_iload_n X 3 rfl dX4_offCall_55 ?_
          refine s_aaldI (id := (124 + run_.toNat)) X (by omega) (Or.inl rfl) SHC_123 g16.1 g16.2 dX4_offCall_56 ?_
          refine s_iload X 0 rfl dX4_offCall_57 ?_
          refine s_iald X (SHC_r124 g16.1 g16.2) g21.1 g21.2.1 dX4_offCall_59 ?_
          refine s_aaldI (id := (17 + (m (124 + run_.toNat) call_2.toNat).toNat)) X (by omega) (Or.inl rfl) SHC_16 (g21.2.2.1 c23) (g21.2.2.2.1 c23) dX4_offCall_60 ?_
          refine s_iload_n X 5 rfl dX4_offCall_61 ?_
          refine s_iald X (SHC_r17 (g21.2.2.1 c23) (g21.2.2.2.1 c23)) (g21.2.2.2.2.1 c23) (g21.2.2.2.2.2 c23) dX4_offCall_62 ?_
          exact s_eqt (if_neg c23) kM22
        · refine s_iload X 7 rfl dX4_offCall_36 ?_
          refine s_goto (tgt := 63) X dX4_offCall_38 (by omega) ?_
          exact s_eqt (if_pos c24) kM22
  exact LP10 _ _ _ hl15
set_option maxRecDepth 20000 in
set_option maxHeartbeats 4000000 in
theorem L_C_Rounds_findRide (G : Gl) (ride_ : Int) (stop_ : Int) (by_ : Int) (pause_ : Int) (m : Mem) (r : Int)  (h : C_Rounds_findRide ride_ stop_ by_ pause_ m = some r) : Con SHC G yX4_findRide cX4_findRide 6 (some .int) rm_X4_findRide [VR 355, VI ride_, VI stop_, VI by_, VI pause_] m (((.inl (some (VI r)), m) : Res × Mem)) := by
  refine con_of (own := "Lastbus$Rounds") (by decide) rfl (Nat.le_of_ble_eq_true rfl) (fun C X => ?_)
  obtain ⟨O, hO⟩ : ∃ O : Res × Mem, O = (((.inl (some (VI r)), m) : Res × Mem)) := ⟨_, rfl⟩
  rw [← hO]
  show J SHC G rm_X4_findRide (.inl O) C 0 0 0 [(0, VR 355), (1, VI ride_), (2, VI stop_), (3, VI by_), (4, VI pause_)] [] m
  unfold C_Rounds_findRide at h
  refine s_const X (by unfold InR; omega) dX4_findRide_0 ?_
  obtain ⟨run_, e2, h⟩ := ltv_elim h
  refine s_istore X e2 rfl (by omega) dX4_findRide_1 ?_
  obtain ⟨s10, hl12, h⟩ := br1_some h
  obtain ⟨fu30, hl13⟩ := loop_iter hl12
  have KR11 : ∀ q9 : Int, .inr q9 = s10 → O = ((.inl (some (VI q9)), m) : Res × Mem) := by
    intro q9 e9
    subst e9
    replace h := brm1_inr h
    exact (by cases h; exact hO)
  have KX9 : ∀ q9 : Int, .inl q9 = s10 → J SHC G rm_X4_findRide (.inl O) C 0 0 39 [(5, VI q9), (0, VR 355), (1, VI ride_), (2, VI stop_), (3, VI by_), (4, VI pause_)] [] m := by
    intro q9 e9
    subst e9
    replace h := brm1_inl h
    obtain ⟨run_4, e8⟩ : ∃ z, z = q9 := ⟨_, rfl⟩
    subst e8
    show J SHC G rm_X4_findRide (.inl O) C 0 0 39 [(5, VI run_4), (0, VR 355), (1, VI ride_), (2, VI stop_), (3, VI by_), (4, VI pause_)] [] m
    refine s_const X (by unfold InR; omega) dX4_findRide_39 ?_
    exact s_iret X (Nat.le_of_ble_eq_true rfl) (Nat.le_of_ble_eq_true rfl) (by cases h; exact hO) dX4_findRide_40
  have LP8 : ∀ (fu3 : Nat) (run_2 : Int), iter (fun s => C_Rounds_findRide_b1 ride_ stop_ by_ pause_ m s) fu3 run_2 = some s10 → J SHC G rm_X4_findRide (.inl O) C 0 0 3 [(5, VI run_2), (0, VR 355), (1, VI ride_), (2, VI stop_), (3, VI by_), (4, VI pause_)] [] m := by
    intro fu3
    induction fu3 with
    | zero => intro run_2 hn4; exact absurd hn4 (by simp [iter])
    | succ fu3 ih7 =>
      intro run_2 hn4
      obtain ⟨x5, h, hc6⟩ := iter_succ hn4
      replace h : C_Rounds_findRide_b1 ride_ stop_ by_ pause_ m run_2 = some x5 := h
      unfold C_Rounds_findRide_b1 at h
      refine s_iload X 0 rfl dX4_findRide_3 ?_
      refine s_load0 X 1 rfl dX4_findRide_5 ?_
      refine s_getR (id := 119) X fk_X4_34 SHC_355 rfl dX4_findRide_6 ?_
      refine s_getI X fk_X4_57 SHC_119 rfl dX4_findRide_9 ?_
      refine s_icmpge_f (tgt := 39) X dX4_findRide_12 (by omega) (fun c17 => ?_) (fun c18 => ?_)
      · replace h := ite_neg h c17
        exact KX9 _ (iter_exit h hc6)
      · replace h := ite_pos h c18
        refine s_load0 X 1 rfl dX4_findRide_15 ?_
        refine s_iload X 0 rfl dX4_findRide_16 ?_
        refine s_iload_n X 2 rfl dX4_findRide_18 ?_
        refine s_iload_n X 3 rfl dX4_findRide_19 ?_
        refine s_iload_n X 4 rfl dX4_findRide_20 ?_
        refine s_iload X 5 rfl dX4_findRide_21 ?_
        obtain ⟨r_, hq20, h⟩ := bnd_some h
        refine s_callV (As := [VI run_2, VI ride_, VI stop_, VI by_, VI pause_]) X cw_X4_106 SHC_355 rfl dX4_findRide_23 (L_C_Rounds_offCall G run_2 ride_ stop_ by_ pause_ m r_ hq20) rfl ⟨Nat.le_of_ble_eq_true rfl, Nat.le_of_ble_eq_true rfl⟩ ⟨Nat.le_of_ble_eq_true rfl, Nat.le_of_ble_eq_true rfl⟩ (Nat.le_of_ble_eq_true rfl) noT (kkR ?_)
        refine s_const X (by unfold InR; omega) dX4_findRide_26 ?_
        refine s_icmpeq_f (tgt := 33) X dX4_findRide_27 (by omega) (fun c23 => ?_) (fun c24 => ?_)
        · replace h := ite_neg h c23
          obtain ⟨g25, h⟩ := grd_some h
          obtain ⟨run_3, e26, h⟩ := ltv_elim h
          refine s_iinc X 0 rfl g25 e26 rfl (by omega) dX4_findRide_33 ?_
          refine s_goto (tgt := 3) X dX4_findRide_36 (by omega) ?_
          exact ih7 _ (iter_next h hc6)
        · replace h := ite_pos h c24
          refine s_iload X 0 rfl dX4_findRide_30 ?_
          exact s_iret X (Nat.le_of_ble_eq_true rfl) (Nat.le_of_ble_eq_true rfl) (KR11 _ (iter_exit h hc6)) dX4_findRide_32
  exact LP8 _ _ hl13
set_option maxRecDepth 20000 in
set_option maxHeartbeats 4000000 in
theorem L_C_Rounds_onCall (G : Gl) (run_ : Int) (ride_ : Int) (off_ : Int) (m : Mem) (r : Int)  (h : C_Rounds_onCall run_ ride_ off_ m = some r) : Con SHC G yX4_onCall cX4_onCall 5 (some .int) rm_X4_onCall [VR 355, VI run_, VI ride_, VI off_] m (((.inl (some (VI r)), m) : Res × Mem)) := by
  refine con_of (own := "Lastbus$Rounds") (by decide) rfl (Nat.le_of_ble_eq_true rfl) (fun C X => ?_)
  obtain ⟨O, hO⟩ : ∃ O : Res × Mem, O = (((.inl (some (VI r)), m) : Res × Mem)) := ⟨_, rfl⟩
  rw [← hO]
  show J SHC G rm_X4_onCall (.inl O) C 0 0 0 [(0, VR 355), (1, VI run_), (2, VI ride_), (3, VI off_)] [] m
  unfold C_Rounds_onCall at h
  obtain ⟨g1, h⟩ := grd_some h
  refine s_iload_n X 3 rfl dX4_onCall_0 ?_
  refine s_const X (by unfold InR; omega) dX4_onCall_1 ?_
  refine s_isub X g1 dX4_onCall_2 ?_
  obtain ⟨call_, e2, h⟩ := ltv_elim h
  refine s_istore X e2 rfl (by omega) dX4_onCall_3 ?_
  obtain ⟨s10, hl12, h⟩ := br1_some h
  obtain ⟨fu30, hl13⟩ := loop_iter hl12
  have KR11 : ∀ q9 : Int, .inr q9 = s10 → O = ((.inl (some (VI q9)), m) : Res × Mem) := by
    intro q9 e9
    subst e9
    replace h := brm1_inr h
    exact (by cases h; exact hO)
  have KX9 : ∀ q9 : Int, .inl q9 = s10 → J SHC G rm_X4_onCall (.inl O) C 0 0 55 [(4, VI q9), (0, VR 355), (1, VI run_), (2, VI ride_), (3, VI off_)] [] m := by
    intro q9 e9
    subst e9
    replace h := brm1_inl h
    obtain ⟨call_4, e8⟩ : ∃ z, z = q9 := ⟨_, rfl⟩
    subst e8
    show J SHC G rm_X4_onCall (.inl O) C 0 0 55 [(4, VI call_4), (0, VR 355), (1, VI run_), (2, VI ride_), (3, VI off_)] [] m
    refine s_const X (by unfold InR; omega) dX4_onCall_55 ?_
    exact s_iret X (Nat.le_of_ble_eq_true rfl) (Nat.le_of_ble_eq_true rfl) (by cases h; exact hO) dX4_onCall_56
  have LP8 : ∀ (fu3 : Nat) (call_2 : Int), iter (fun s => C_Rounds_onCall_b1 run_ ride_ m s) fu3 call_2 = some s10 → J SHC G rm_X4_onCall (.inl O) C 0 0 5 [(4, VI call_2), (0, VR 355), (1, VI run_), (2, VI ride_), (3, VI off_)] [] m := by
    intro fu3
    induction fu3 with
    | zero => intro call_2 hn4; exact absurd hn4 (by simp [iter])
    | succ fu3 ih7 =>
      intro call_2 hn4
      obtain ⟨x5, h, hc6⟩ := iter_succ hn4
      replace h : C_Rounds_onCall_b1 run_ ride_ m call_2 = some x5 := h
      unfold C_Rounds_onCall_b1 at h
      refine s_iload X 0 rfl dX4_onCall_5 ?_
      refine s_ifle_f (tgt := 55) X dX4_onCall_7 (by omega) (fun c17 => ?_) (fun c18 => ?_)
      · replace h := ite_neg h c17
        exact KX9 _ (iter_exit h hc6)
      · replace h := ite_pos h c18
        obtain ⟨g19, h⟩ := grd_some h
        refine s_load0 X 1 rfl dX4_onCall_10 ?_
        refine s_getR (id := 356) X fk_X4_11 SHC_355 rfl dX4_onCall_11 ?_
        refine s_iload_n X 3 rfl dX4_onCall_14 ?_
        refine s_aaldI (id := (361 + 3 * ride_.toNat)) X (by omega) (Or.inr rfl) SHC_356 g19.1 g19.2.1 dX4_onCall_15 ?_
        refine s_load0 X 1 rfl dX4_onCall_16 ?_
        refine s_getR (id := 119) X fk_X4_34 SHC_355 rfl dX4_onCall_17 ?_
        refine s_getR (id := 123) X fk_X4_65 SHC_119 rfl dX4_onCall_20 ?_
        refine s_iload_n X 2 rfl dX4_onCall_23 ?_
        refine s_aaldI (id := (124 + run_.toNat)) X (by omega) (Or.inl rfl) SHC_123 g19.2.2.1 g19.2.2.2.1 dX4_onCall_24 ?_
        refine s_iload X 0 rfl dX4_onCall_25 ?_
        refine s_iald X (SHC_r124 g19.2.2.1 g19.2.2.2.1) g19.2.2.2.2.1 g19.2.2.2.2.2 dX4_onCall_27 ?_
        refine s_load0 X 1 rfl dX4_onCall_28 ?_
        refine s_getR (id := 119) X fk_X4_34 SHC_355 rfl dX4_onCall_29 ?_
        refine s_getR (id := 269) X fk_X4_76 SHC_119 rfl dX4_onCall_32 ?_
        refine s_iload_n X 2 rfl dX4_onCall_35 ?_
        refine s_aaldI (id := (270 + run_.toNat)) X (by omega) (Or.inl rfl) SHC_269 g19.2.2.1 g19.2.2.2.1 dX4_onCall_36 ?_
        refine s_iload X 0 rfl dX4_onCall_37 ?_
        refine s_iald X (SHC_r270 g19.2.2.1 g19.2.2.2.1) g19.2.2.2.2.1 g19.2.2.2.2.2 dX4_onCall_39 ?_
        obtain ⟨r_, hq20, h⟩ := bnd_some h
        refine s_callV (As := [VI (m (124 + run_.toNat) call_2.toNat), VI (m (270 + run_.toNat) call_2.toNat)]) X cw_X4_79 (shLab (labRow g19.1 g19.2.1)) rfl dX4_onCall_40 (L_C_Labels_canGetOn G (361 + 3 * ride_.toNat) (m (124 + run_.toNat) call_2.toNat) (m (270 + run_.toNat) call_2.toNat) m r_ (labRow g19.1 g19.2.1) hq20) rfl ⟨Nat.le_of_ble_eq_true rfl, Nat.le_of_ble_eq_true rfl⟩ ⟨Nat.le_of_ble_eq_true rfl, Nat.le_of_ble_eq_true rfl⟩ (Nat.le_of_ble_eq_true rfl) noT (kkR ?_)
        refine s_ifeq_f (tgt := 49) X dX4_onCall_43 (by omega) (fun c23 => ?_) (fun c24 => ?_)
        · replace h := ite_neg h c23
          obtain ⟨g25, h⟩ := grd_some h
          obtain ⟨call_3, e26, h⟩ := ltv_elim h
          refine s_iinc X 0 rfl g25 e26 rfl (by omega) dX4_onCall_49 ?_
          refine s_goto (tgt := 5) X dX4_onCall_52 (by omega) ?_
          exact ih7 _ (iter_next h hc6)
        · replace h := ite_pos h c24
          refine s_iload X 0 rfl dX4_onCall_46 ?_
          exact s_iret X (Nat.le_of_ble_eq_true rfl) (Nat.le_of_ble_eq_true rfl) (KR11 _ (iter_exit h hc6)) dX4_onCall_48
  exact LP8 _ _ hl13
set_option maxRecDepth 20000 in
set_option maxHeartbeats 4000000 in
theorem L_C_Rounds_keepChain (G : Gl) (to_ : Int) (m : Mem) (r : Mem)  (h : C_Rounds_keepChain to_ m = some r) : Con SHC G yX4_keepChain cX4_keepChain 7 none rm_X4_keepChain [VR 355, VI to_] m (((.inl none, r) : Res × Mem)) := by
  refine con_of (own := "Lastbus$Rounds") (by decide) rfl (Nat.le_of_ble_eq_true rfl) (fun C X => ?_)
  obtain ⟨O, hO⟩ : ∃ O : Res × Mem, O = (((.inl none, r) : Res × Mem)) := ⟨_, rfl⟩
  rw [← hO]
  show J SHC G rm_X4_keepChain (.inl O) C 0 0 0 [(0, VR 355), (1, VI to_)] [] m
  unfold C_Rounds_keepChain at h
  refine s_load0 X 0 rfl dX4_keepChain_0 ?_
  refine s_load0 X 0 rfl dX4_keepChain_1 ?_
  refine s_iload_n X 1 rfl dX4_keepChain_2 ?_
  obtain ⟨r_, hq2, h⟩ := bnd_some h
  refine s_callV (As := [VI to_]) X cw_X4_90 SHC_355 rfl dX4_keepChain_3 (L_C_Rounds_fewestRides G to_ m r_ hq2) rfl ⟨Nat.le_of_ble_eq_true rfl, Nat.le_of_ble_eq_true rfl⟩ ⟨Nat.le_of_ble_eq_true rfl, Nat.le_of_ble_eq_true rfl⟩ (Nat.le_of_ble_eq_true rfl) noT (kkR ?_)
  obtain ⟨m_, e5, h⟩ := ltv_elim h
  refine s_putI X e5 fp_X4_93 SHC_355 rfl trivial dX4_keepChain_6 ?_
  refine s_iload_n X 1 rfl dX4_keepChain_9 ?_
  obtain ⟨stop_, e7, h⟩ := ltv_elim h
  refine s_istore_n X e7 rfl (by omega) dX4_keepChain_10 ?_
  refine s_load0 X 1 rfl dX4_keepChain_11 ?_
  refine s_iload_n X 2 rfl dX4_keepChain_12 ?_
  obtain ⟨r_2, hq9, h⟩ := bnd_some h
  refine s_callV (As := [VI to_]) X cw_X4_87 SHC_355 rfl dX4_keepChain_13 (L_C_Rounds_least G to_ m_ r_2 hq9) rfl ⟨Nat.le_of_ble_eq_true rfl, Nat.le_of_ble_eq_true rfl⟩ ⟨Nat.le_of_ble_eq_true rfl, Nat.le_of_ble_eq_true rfl⟩ (Nat.le_of_ble_eq_true rfl) noT (kkR ?_)
  obtain ⟨by_, e12, h⟩ := ltv_elim h
  refine s_istore_n X e12 rfl (by omega) dX4_keepChain_16 ?_
  refine s_const X (by unfold InR; omega) dX4_keepChain_17 ?_
  obtain ⟨pause_, e14, h⟩ := ltv_elim h
  refine s_istore X e14 rfl (by omega) dX4_keepChain_18 ?_
  obtain ⟨g15, h⟩ := grd_some h
  refine s_load0 X 3 rfl dX4_keepChain_20 ?_
  refine s_getI X fk_X4_93 SHC_355 rfl dX4_keepChain_21 ?_
  refine s_const X (by unfold InR; omega) dX4_keepChain_24 ?_
  refine s_isub X g15 dX4_keepChain_25 ?_
  obtain ⟨ride_, e16, h⟩ := ltv_elim h
  refine s_istore X e16 rfl (by omega) dX4_keepChain_26 ?_
  obtain ⟨stop_4, by_4, pause_4, ride_4, m_7, hl26, h⟩ := bq5_some h
  obtain ⟨fu170, hl27⟩ := loop_iter hl26
  have KX23 : ∀ q9 : Int × Int × Int × Int × Mem, q9 = (stop_4, by_4, pause_4, ride_4, m_7) → J SHC G rm_X4_keepChain (.inl O) C 0 0 175 [(5, VI q9.2.2.2.1), (4, VI q9.2.2.1), (3, VI q9.2.1), (2, VI q9.1), (0, VR 355), (1, VI to_)] [] (q9.2.2.2.2) := by
    intro q9 e9
    subst e9
    show J SHC G rm_X4_keepChain (.inl O) C 0 0 175 [(5, VI ride_4), (4, VI pause_4), (3, VI by_4), (2, VI stop_4), (0, VR 355), (1, VI to_)] [] m_7
    exact s_vret X (Nat.le_of_ble_eq_true rfl) (Nat.le_of_ble_eq_true rfl) (by cases h; exact hO) dX4_keepChain_175
  have LP22 : ∀ (fu17 : Nat) (stop_2 : Int) (by_2 : Int) (pause_2 : Int) (ride_2 : Int) (m_2 : Mem), iter (fun s => C_Rounds_keepChain_b1 s.1 s.2.1 s.2.2.1 s.2.2.2.1 s.2.2.2.2) fu17 (stop_2, by_2, pause_2, ride_2, m_2) = some (stop_4, by_4, pause_4, ride_4, m_7) → J SHC G rm_X4_keepChain (.inl O) C 0 0 28 [(5, VI ride_2), (4, VI pause_2), (3, VI by_2), (2, VI stop_2), (0, VR 355), (1, VI to_)] [] m_2 := by
    intro fu17
    induction fu17 with
    | zero => intro stop_2 by_2 pause_2 ride_2 m_2 hn18; exact absurd hn18 (by simp [iter])
    | succ fu17 ih21 =>
      intro stop_2 by_2 pause_2 ride_2 m_2 hn18
      obtain ⟨x19, h, hc20⟩ := iter_succ hn18
      replace h : C_Rounds_keepChain_b1 stop_2 by_2 pause_2 ride_2 m_2 = some x19 := h
      unfold C_Rounds_keepChain_b1 at h
      refine s_iload X 0 rfl dX4_keepChain_28 ?_
      refine s_iflt_f (tgt := 175) X dX4_keepChain_30 (by omega) (fun c31 => ?_) (fun c32 => ?_)
      · replace h := ite_neg h c31
        exact KX23 _ (iter_exit h hc20)
      · replace h := ite_pos h c32
        refine s_load0 X 4 rfl dX4_keepChain_33 ?_
        refine s_iload X 0 rfl dX4_keepChain_34 ?_
        refine s_iload_n X 3 rfl dX4_keepChain_36 ?_
        refine s_iload_n X 2 rfl dX4_keepChain_37 ?_
        refine s_iload X 1 rfl dX4_keepChain_38 ?_
        obtain ⟨r_3, hq34, h⟩ := bnd_some h
        refine s_callV (As := [VI ride_2, VI stop_2, VI by_2, VI pause_2]) X cw_X4_96 SHC_355 rfl dX4_keepChain_40 (L_C_Rounds_findRide G ride_2 stop_2 by_2 pause_2 m_2 r_3 hq34) rfl ⟨Nat.le_of_ble_eq_true rfl, Nat.le_of_ble_eq_true rfl⟩ ⟨Nat.le_of_ble_eq_true rfl, Nat.le_of_ble_eq_true rfl⟩ (Nat.le_of_ble_eq_true rfl) noT (kkR ?_)
        obtain ⟨run_, e37, h⟩ := ltv_elim h
        refine s_istore X e37 rfl (by omega) dX4_keepChain_43 ?_
        obtain ⟨g38, h⟩ := grd_some h
        refine s_load0 X 5 rfl dX4_keepChain_45 ?_
        refine s_getR (id := 357) X fk_X4_17 SHC_355 rfl dX4_keepChain_46 ?_
        refine s_iload X 1 rfl dX4_keepChain_49 ?_
        refine s_load0 X 5 rfl dX4_keepChain_51 ?_
        refine s_getR (id := 119) X fk_X4_34 SHC_355 rfl dX4_keepChain_52 ?_
        refine s_getR (id := 120) X fk_X4_100 SHC_119 rfl dX4_keepChain_55 ?_
        refine s_iload X 0 rfl dX4_keepChain_58 ?_
        refine s_iald X SHC_120 g38.2.2.1 g38.2.2.2 dX4_keepChain_60 ?_
        obtain ⟨m_3, e39, h⟩ := ltv_elim h
        refine s_iast X e39 SHC_357 g38.1 g38.2.1 dX4_keepChain_61 ?_
        refine s_load0 X 5 rfl dX4_keepChain_62 ?_
        refine s_getR (id := 358) X fk_X4_21 SHC_355 rfl dX4_keepChain_63 ?_
        refine s_iload X 1 rfl dX4_keepChain_66 ?_
        refine s_load0 X 5 rfl dX4_keepChain_68 ?_
        refine s_getR (id := 119) X fk_X4_34 SHC_355 rfl dX4_keepChain_69 ?_
        refine s_getR (id := 121) X fk_X4_103 SHC_119 rfl dX4_keepChain_72 ?_
        refine s_iload X 0 rfl dX4_keepChain_75 ?_
        refine s_iald X SHC_121 g38.2.2.1 g38.2.2.2 dX4_keepChain_77 ?_
        obtain ⟨m_4, e41, h⟩ := ltv_elim h
        refine s_iast X e41 SHC_358 g38.1 g38.2.1 dX4_keepChain_78 ?_
        refine s_load0 X 5 rfl dX4_keepChain_79 ?_
        refine s_getR (id := 360) X fk_X4_27 SHC_355 rfl dX4_keepChain_80 ?_
        refine s_iload X 1 rfl dX4_keepChain_83 ?_
        refine s_load0 X 5 rfl dX4_keepChain_85 ?_
        refine s_iload X 0 rfl dX4_keepChain_86 ?_
        refine s_iload X 1 rfl dX4_keepChain_88 ?_
        refine s_iload_n X 4 rfl dX4_keepChain_90 ?_
        refine s_iload_n X 3 rfl dX4_keepChain_91 ?_
        refine s_iload X 2 rfl dX4_keepChain_92 ?_
        obtain ⟨r_4, hq43, h⟩ := bnd_some h
        refine s_callV (As := [VI run_, VI ride_2, VI stop_2, VI by_2, VI pause_2]) X cw_X4_106 SHC_355 rfl dX4_keepChain_94 (L_C_Rounds_offCall G run_ ride_2 stop_2 by_2 pause_2 m_4 r_4 hq43) rfl ⟨Nat.le_of_ble_eq_true rfl, Nat.le_of_ble_eq_true rfl⟩ ⟨Nat.le_of_ble_eq_true rfl, Nat.le_of_ble_eq_true rfl⟩ (Nat.le_of_ble_eq_true rfl) noT (kkR ?_)
        obtain ⟨m_5, e46, h⟩ := ltv_elim h
        refine s_iast X e46 SHC_360 g38.1 g38.2.1 dX4_keepChain_97 ?_
        refine s_load0 X 5 rfl dX4_keepChain_98 ?_
        refine s_getR (id := 359) X fk_X4_24 SHC_355 rfl dX4_keepChain_99 ?_
        refine s_iload X 1 rfl dX4_keepChain_102 ?_
        refine s_load0 X 5 rfl dX4_keepChain_104 ?_
        refine s_iload X 0 rfl dX4_keepChain_105 ?_
        refine s_iload X 1 rfl dX4_keepChain_107 ?_
        refine s_load0 X 5 rfl dX4_keepChain_109 ?_
        refine s_getR (id := 360) X fk_X4_27 SHC_355 rfl dX4_keepChain_110 ?_
        refine s_iload X 1 rfl dX4_keepChain_113 ?_
        refine s_iald X SHC_360 g38.1 g38.2.1 dX4_keepChain_115 ?_
        obtain ⟨r_5, hq48, h⟩ := bnd_some h
        refine s_callV (As := [VI run_, VI ride_2, VI (m_5 360 ride_2.toNat)]) X cw_X4_110 SHC_355 rfl dX4_keepChain_116 (L_C_Rounds_onCall G run_ ride_2 (m_5 360 ride_2.toNat) m_5 r_5 hq48) rfl ⟨Nat.le_of_ble_eq_true rfl, Nat.le_of_ble_eq_true rfl⟩ ⟨Nat.le_of_ble_eq_true rfl, Nat.le_of_ble_eq_true rfl⟩ (Nat.le_of_ble_eq_true rfl) noT (kkR ?_)
        obtain ⟨m_6, e51, h⟩ := ltv_elim h
        refine s_iast X e51 SHC_359 g38.1 g38.2.1 dX4_keepChain_119 ?_
        obtain ⟨g52, h⟩ := grd_some h
        refine s_load0 X 5 rfl dX4_keepChain_120 ?_
        refine s_getR (id := 119) X fk_X4_34 SHC_355 rfl dX4_keepChain_121 ?_
        refine s_getR (id := 123) X fk_X4_65 SHC_119 rfl dX4_keepChain_124 ?_
        refine s_iload X 0 rfl dX4_keepChain_127 ?_
        refine s_aaldI (id := (124 + run_.toNat)) X (by omega) (Or.inl rfl) SHC_123 g38.2.2.1 g38.2.2.2 dX4_keepChain_129 ?_
        refine s_load0 X 5 rfl dX4_keepChain_130 ?_
        refine s_getR (id := 359) X fk_X4_24 SHC_355 rfl dX4_keepChain_131 ?_
        refine s_iload X 1 rfl dX4_keepChain_134 ?_
        refine s_iald X SHC_359 g38.1 g38.2.1 dX4_keepChain_136 ?_
        refine s_iald X (SHC_r124 g38.2.2.1 g38.2.2.2) g52.1 g52.2 dX4_keepChain_137 ?_
        obtain ⟨stop_3, e53, h⟩ := ltv_elim h
        refine s_istore_n X e53 rfl (by omega) dX4_keepChain_138 ?_
        refine s_load0 X 5 rfl dX4_keepChain_139 ?_
        refine s_getR (id := 119) X fk_X4_34 SHC_355 rfl dX4_keepChain_140 ?_
        refine s_getR (id := 269) X fk_X4_76 SHC_119 rfl dX4_keepChain_143 ?_
        refine s_iload X 1 rfl dX4_keepChain_146 ?_
        refine s_aaldI (id := (270 + run_.toNat)) X (by omega) (Or.inl rfl) SHC_269 g38.2.2.1 g38.2.2.2 dX4_keepChain_148 ?_
        refine s_load0 X 5 rfl dX4_keepChain_149 ?_
        refine s_getR (id := 359) X fk_X4_24 SHC_355 rfl dX4_keepChain_150 ?_
        refine s_iload X 2 rfl dX4_keepChain_153 ?_
        refine s_iald X SHC_359 g38.1 g38.2.1 dX4_keepChain_155 ?_
        refine s_iald X (SHC_r270 g38.2.2.1 g38.2.2.2) g52.1 g52.2 dX4_keepChain_156 ?_
        obtain ⟨by_3, e55, h⟩ := ltv_elim h
        refine s_istore_n X e55 rfl (by omega) dX4_keepChain_157 ?_
        obtain ⟨g56, h⟩ := grd_some h
        refine s_load0 X 5 rfl dX4_keepChain_158 ?_
        refine s_getR (id := 1) X fk_X4_30 SHC_355 rfl dX4_keepChain_159 ?_
        refine s_getR (id := 2) X fk_X4_114 SHC_1 rfl dX4_keepChain_162 ?_
        refine s_iload_n X 1 rfl dX4_keepChain_165 ?_
        refine s_iald X SHC_2 g56.1 g56.2 dX4_keepChain_166 ?_
        obtain ⟨pause_3, e57, h⟩ := ltv_elim h
        refine s_istore X e57 rfl (by omega) dX4_keepChain_167 ?_
        obtain ⟨g58, h⟩ := grd_some h
        obtain ⟨ride_3, e59, h⟩ := ltv_elim h
        refine s_iinc X 4 rfl g58 e59 rfl (by omega) dX4_keepChain_169 ?_
        refine s_goto (tgt := 28) X dX4_keepChain_172 (by omega) ?_
        refine s_loc [0, 1, 2, 3, 5, 6] rfl ?_
        exact ih21 _ _ _ _ _ (iter_next h hc20)
  exact LP22 _ _ _ _ _ _ hl27
set_option maxRecDepth 20000 in
set_option maxHeartbeats 4000000 in
theorem L_C_chain (G : Gl) (from_ : Int) (to_ : Int) (day_ : Int) (minute_ : Int) (m : Mem) (r : ((Int ⊕ Nat) × Mem))  (h : C_chain from_ to_ day_ minute_ m = some r) : Con SHC G yX11_chain cX11_chain 5 (some .int) rm_X11_chain [VR 0, VI from_, VI to_, VI day_, VI minute_] m (oT wI r) := by
  refine con_of (own := "Lastbus") (by decide) rfl (Nat.le_of_ble_eq_true rfl) (fun C X => ?_)
  obtain ⟨O, hO⟩ : ∃ O : Res × Mem, O = (oT wI r) := ⟨_, rfl⟩
  rw [← hO]
  show J SHC G rm_X11_chain (.inl O) C 0 0 0 [(0, VR 0), (1, VI from_), (2, VI to_), (3, VI day_), (4, VI minute_)] [] m
  unfold C_chain at h
  refine s_load0 X 0 rfl dX11_chain_0 ?_
  refine s_iload_n X 1 rfl dX11_chain_1 ?_
  refine s_iload_n X 2 rfl dX11_chain_2 ?_
  refine s_iload_n X 3 rfl dX11_chain_3 ?_
  refine s_iload X 4 rfl dX11_chain_4 ?_
  obtain ⟨q3, hq2, h⟩ := bnd_some h
  refine s_callV (As := [VI from_, VI to_, VI day_, VI minute_]) X cw_X11_277 SHC_0 rfl dX11_chain_6 (L_C_needWay G from_ to_ day_ minute_ m q3 hq2) rfl ⟨Nat.le_of_ble_eq_true rfl, Nat.le_of_ble_eq_true rfl⟩ ⟨Nat.le_of_ble_eq_true rfl, Nat.le_of_ble_eq_true rfl⟩ (Nat.le_of_ble_eq_true rfl) (thr_up hO h) (kkT fun u_ m_ e9 => ?_)
  subst e9
  replace h := tbd_inl h
  refine s_load0 X 0 rfl dX11_chain_9 ?_
  refine s_getR (id := 119) X fk_X11_49 SHC_0 rfl dX11_chain_10 ?_
  refine s_iload_n X 3 rfl dX11_chain_13 ?_
  refine s_const X (by unfold InR; omega) dX11_chain_14 ?_
  refine s_const X (by unfold InR; omega) dX11_chain_15 ?_
  obtain ⟨m_2, hq6, h⟩ := bnd_some h
  refine s_callV (As := [VI day_, VI (-1), VI 0]) X cw_X11_280 SHC_119 rfl dX11_chain_16 (L_C_Net_lay G day_ (-1) 0 m_ m_2 hq6) rfl ⟨Nat.le_of_ble_eq_true rfl, Nat.le_of_ble_eq_true rfl⟩ ⟨Nat.le_of_ble_eq_true rfl, Nat.le_of_ble_eq_true rfl⟩ (Nat.le_of_ble_eq_true rfl) noT (kkU ?_)
  refine s_load0 X 0 rfl dX11_chain_19 ?_
  refine s_getR (id := 355) X fk_X11_65 SHC_0 rfl dX11_chain_20 ?_
  refine s_iload_n X 1 rfl dX11_chain_23 ?_
  refine s_iload X 4 rfl dX11_chain_24 ?_
  obtain ⟨m_3, hq10, h⟩ := bnd_some h
  refine s_callV (As := [VI from_, VI minute_]) X cw_X11_297 SHC_355 rfl dX11_chain_26 (L_C_Rounds_fill G from_ minute_ m_2 m_3 hq10) rfl ⟨Nat.le_of_ble_eq_true rfl, Nat.le_of_ble_eq_true rfl⟩ ⟨Nat.le_of_ble_eq_true rfl, Nat.le_of_ble_eq_true rfl⟩ (Nat.le_of_ble_eq_true rfl) noT (kkU ?_)
  refine s_load0 X 0 rfl dX11_chain_29 ?_
  refine s_getR (id := 355) X fk_X11_65 SHC_0 rfl dX11_chain_30 ?_
  refine s_iload_n X 2 rfl dX11_chain_33 ?_
  obtain ⟨r_, hq14, h⟩ := bnd_some h
  refine s_callV (As := [VI to_]) X cw_X11_300 SHC_355 rfl dX11_chain_34 (L_C_Rounds_least G to_ m_3 r_ hq14) rfl ⟨Nat.le_of_ble_eq_true rfl, Nat.le_of_ble_eq_true rfl⟩ ⟨Nat.le_of_ble_eq_true rfl, Nat.le_of_ble_eq_true rfl⟩ (Nat.le_of_ble_eq_true rfl) noT (kkR ?_)
  obtain ⟨q18, hq17, h⟩ := bnd_some h
  refine s_callS (As := [VI r_]) X cw_X11_128 dX11_chain_37 (L_C_needFound G r_ m_3 q18 hq17) rfl ⟨Nat.le_of_ble_eq_true rfl, Nat.le_of_ble_eq_true rfl⟩ ⟨Nat.le_of_ble_eq_true rfl, Nat.le_of_ble_eq_true rfl⟩ (Nat.le_of_ble_eq_true rfl) (thr_up hO h) (kkT fun u_2 m_4 e9 => ?_)
  subst e9
  replace h := tbd_inl h
  refine s_load0 X 0 rfl dX11_chain_40 ?_
  refine s_getR (id := 355) X fk_X11_65 SHC_0 rfl dX11_chain_41 ?_
  refine s_iload_n X 2 rfl dX11_chain_44 ?_
  obtain ⟨m_5, hq21, h⟩ := bnd_some h
  refine s_callV (As := [VI to_]) X cw_X11_308 SHC_355 rfl dX11_chain_45 (L_C_Rounds_keepChain G to_ m_4 m_5 hq21) rfl ⟨Nat.le_of_ble_eq_true rfl, Nat.le_of_ble_eq_true rfl⟩ ⟨Nat.le_of_ble_eq_true rfl, Nat.le_of_ble_eq_true rfl⟩ (Nat.le_of_ble_eq_true rfl) noT (kkU ?_)
  refine s_load0 X 0 rfl dX11_chain_48 ?_
  refine s_getR (id := 355) X fk_X11_65 SHC_0 rfl dX11_chain_49 ?_
  refine s_getI X fk_X11_311 SHC_355 rfl dX11_chain_52 ?_
  exact s_iret X (Nat.le_of_ble_eq_true rfl) (Nat.le_of_ble_eq_true rfl) (by cases h; exact hO) dX11_chain_55
set_option maxRecDepth 20000 in
set_option maxHeartbeats 4000000 in
theorem L_C_ride (G : Gl) (index_ : Int) (what_ : Int) (m : Mem) (r : ((Int ⊕ Nat) × Mem))  (h : C_ride index_ what_ m = some r) : Con SHC G yX11_ride cX11_ride 3 (some .int) rm_X11_ride [VR 0, VI index_, VI what_] m (oT wI r) := by
  refine con_of (own := "Lastbus") (by decide) rfl (Nat.le_of_ble_eq_true rfl) (fun C X => ?_)
  obtain ⟨O, hO⟩ : ∃ O : Res × Mem, O = (oT wI r) := ⟨_, rfl⟩
  rw [← hO]
  show J SHC G rm_X11_ride (.inl O) C 0 0 0 [(0, VR 0), (1, VI index_), (2, VI what_)] [] m
  unfold C_ride at h
  have kF3 : ¬ ((((¬ what_ = 116) ∧ (¬ what_ = 100)) ∧ (¬ what_ = 111)) ∧ (¬ what_ = 102)) → J SHC G rm_X11_ride (.inl O) C 0 0 35 [(0, VR 0), (1, VI index_), (2, VI what_)] [] m := by
    intro c31
    replace h := ite_neg h c31
    have kT7 : (index_ < 0) ∨ (m 355 4 ≤ index_) → J SHC G rm_X11_ride (.inl O) C 0 0 50 [(0, VR 0), (1, VI index_), (2, VI what_)] [] m := by
      intro c11
      replace h := ite_pos h c11
      exact s_throwNW X th_X11_168_316_172 (by cases h; exact hO) (Nat.le_of_ble_eq_true rfl) (Nat.le_of_ble_eq_true rfl) (Nat.le_of_ble_eq_true rfl) (Nat.le_of_ble_eq_true rfl) dX11_ride_50 dX11_ride_53 dX11_ride_54 dX11_ride_57 dX11_ride_60
    refine s_iload_n X 1 rfl dX11_ride_35 ?_
    refine s_iflt_t (tgt := 50) X dX11_ride_36 (by omega) (fun c9 => ?_) (fun c10 => ?_)
    · exact kT7 (Or.inl c9)
    · have a12 : ¬ (index_ < 0) := c10
      refine s_iload_n X 1 rfl dX11_ride_39 ?_
      refine s_load0 X 0 rfl dX11_ride_40 ?_
      refine s_getR (id := 355) X fk_X11_65 SHC_0 rfl dX11_ride_41 ?_
      refine s_getI X fk_X11_311 SHC_355 rfl dX11_ride_44 ?_
      refine s_icmplt_f (tgt := 61) X dX11_ride_47 (by omega) (fun c13 => ?_) (fun c14 => ?_)
      · replace h := ite_neg h (fun q => q.elim a12 c13)
        refine s_iload_n X 2 rfl dX11_ride_61 ?_
        refine s_bipush X (by omega) dX11_ride_62 ?_
        refine s_icmpne_f (tgt := 77) X dX11_ride_64 (by omega) (fun c18 => ?_) (fun c19 => ?_)
        · replace h := ite_neg h c18
          refine s_iload_n X 2 rfl dX11_ride_77 ?_
          refine s_bipush X (by omega) dX11_ride_78 ?_
          refine s_icmpne_f (tgt := 93) X dX11_ride_80 (by omega) (fun c23 => ?_) (fun c24 => ?_)
          · replace h := ite_neg h c23
            obtain ⟨g25, h⟩ := grd_some h
            have kM26 : J SHC G rm_X11_ride (.inl O) C 0 0 120 [(0, VR 0), (1, VI index_), (2, VI what_)] [VI (if what_ = 111 then m 359 index_.toNat else m 360 index_.toNat)] m := by
              exact s_iret X (Nat.le_of_ble_eq_true rfl) (Nat.le_of_ble_eq_true rfl) (by cases h; exact hO) dX11_ride_120
            refine s_iload_n X 2 rfl dX11_ride_93 ?_
            refine s_bipush X (by omega) dX11_ride_94 ?_
            refine s_icmpne_f (tgt := 111) X dX11_ride_96 (by omega) (fun c27 => ?_) (fun c28 => ?_)
            · refine s_load0 X 0 rfl dX11_ride_111 ?_
              refine s_getR (id := 355) X fk_X11_65 SHC_0 rfl dX11_ride_112 ?_
              refine s_getR (id := 360) X fk_X11_327 SHC_355 rfl dX11_ride_115 ?_
              refine s_iload_n X 1 rfl dX11_ride_118 ?_
              refine s_iald X SHC_360 (g25.1 c27) (g25.2.1 c27) dX11_ride_119 ?_
              exact s_eqt (if_neg c27) kM26
            · refine s_load0 X 0 rfl dX11_ride_99 ?_
              refine s_getR (id := 355) X fk_X11_65 SHC_0 rfl dX11_ride_100 ?_
              refine s_getR (id := 359) X fk_X11_324 SHC_355 rfl dX11_ride_103 ?_
              refine s_iload_n X 1 rfl dX11_ride_106 ?_
              refine s_iald X SHC_359 (g25.2.2.1 c28) (g25.2.2.2 c28) dX11_ride_107 ?_
              refine s_goto (tgt := 120) X dX11_ride_108 (by omega) ?_
              exact s_eqt (if_pos c28) kM26
          · replace h := ite_pos h c24
            obtain ⟨g29, h⟩ := grd_some h
            refine s_load0 X 0 rfl dX11_ride_83 ?_
            refine s_getR (id := 355) X fk_X11_65 SHC_0 rfl dX11_ride_84 ?_
            refine s_getR (id := 358) X fk_X11_321 SHC_355 rfl dX11_ride_87 ?_
            refine s_iload_n X 1 rfl dX11_ride_90 ?_
            refine s_iald X SHC_358 g29.1 g29.2 dX11_ride_91 ?_
            exact s_iret X (Nat.le_of_ble_eq_true rfl) (Nat.le_of_ble_eq_true rfl) (by cases h; exact hO) dX11_ride_92
        · replace h := ite_pos h c19
          obtain ⟨g30, h⟩ := grd_some h
          refine s_load0 X 0 rfl dX11_ride_67 ?_
          refine s_getR (id := 355) X fk_X11_65 SHC_0 rfl dX11_ride_68 ?_
          refine s_getR (id := 357) X fk_X11_318 SHC_355 rfl dX11_ride_71 ?_
          refine s_iload_n X 1 rfl dX11_ride_74 ?_
          refine s_iald X SHC_357 g30.1 g30.2 dX11_ride_75 ?_
          exact s_iret X (Nat.le_of_ble_eq_true rfl) (Nat.le_of_ble_eq_true rfl) (by cases h; exact hO) dX11_ride_76
      · exact kT7 (Or.inr c14)
  refine s_iload_n X 2 rfl dX11_ride_0 ?_
  refine s_bipush X (by omega) dX11_ride_1 ?_
  refine s_icmpeq_f (tgt := 35) X dX11_ride_3 (by omega) (fun c4 => ?_) (fun c5 => ?_)
  · exact kF3 (fun q => (fun q => (fun q => c4 q.1) q.1) q.1)
  · have a32 : ¬ what_ = 116 := c5
    refine s_iload_n X 2 rfl dX11_ride_6 ?_
    refine s_bipush X (by omega) dX11_ride_7 ?_
    refine s_icmpeq_f (tgt := 35) X dX11_ride_9 (by omega) (fun c33 => ?_) (fun c34 => ?_)
    · exact kF3 (fun q => (fun q => (fun q => c33 q.2) q.1) q.1)
    · have a35 : (¬ what_ = 116) ∧ (¬ what_ = 100) := ⟨a32, c34⟩
      refine s_iload_n X 2 rfl dX11_ride_12 ?_
      refine s_bipush X (by omega) dX11_ride_13 ?_
      refine s_icmpeq_f (tgt := 35) X dX11_ride_15 (by omega) (fun c36 => ?_) (fun c37 => ?_)
      · exact kF3 (fun q => (fun q => c36 q.2) q.1)
      · have a38 : ((¬ what_ = 116) ∧ (¬ what_ = 100)) ∧ (¬ what_ = 111) := ⟨a35, c37⟩
        refine s_iload_n X 2 rfl dX11_ride_18 ?_
        refine s_bipush X (by omega) dX11_ride_19 ?_
        refine s_icmpeq_f (tgt := 35) X dX11_ride_21 (by omega) (fun c39 => ?_) (fun c40 => ?_)
        · exact kF3 (fun q => c39 q.2)
        · replace h := ite_pos h ⟨a38, c40⟩
          exact s_throwW X th_X11_143_314_147 (by cases h; exact hO) (Nat.le_of_ble_eq_true rfl) (Nat.le_of_ble_eq_true rfl) (Nat.le_of_ble_eq_true rfl) (Nat.le_of_ble_eq_true rfl) dX11_ride_24 dX11_ride_27 dX11_ride_28 dX11_ride_31 dX11_ride_34
set_option maxRecDepth 20000 in
set_option maxHeartbeats 4000000 in
theorem L_C_Labels_atByRides (G : Gl) (x : Nat) (to_ : Int) (m : Mem) (r : Int) (hx : isLab x) (h : C_Labels_atByRides x to_ m = some r) : Con SHC G yX2_atByRides cX2_atByRides 4 (some .int) rm_X2_atByRides [VR x, VI to_] m (((.inl (some (VI r)), m) : Res × Mem)) := by
  refine con_of (own := "Lastbus$Labels") (by decide) rfl (Nat.le_of_ble_eq_true rfl) (fun C X => ?_)
  obtain ⟨O, hO⟩ : ∃ O : Res × Mem, O = (((.inl (some (VI r)), m) : Res × Mem)) := ⟨_, rfl⟩
  rw [← hO]
  show J SHC G rm_X2_atByRides (.inl O) C 0 0 0 [(0, VR x), (1, VI to_)] [] m
  unfold C_Labels_atByRides at h
  obtain ⟨g1, h⟩ := grd_some h
  refine s_load0 X 0 rfl dX2_atByRides_0 ?_
  refine s_getR (id := (x + 1)) X fk_X2_9 (shLab hx) rfl dX2_atByRides_1 ?_
  refine s_iload_n X 1 rfl dX2_atByRides_4 ?_
  refine s_iald X (shLab1 hx) g1.1 g1.2 dX2_atByRides_5 ?_
  obtain ⟨least_, e2, h⟩ := ltv_elim h
  refine s_istore_n X e2 rfl (by omega) dX2_atByRides_6 ?_
  refine s_const X (by unfold InR; omega) dX2_atByRides_7 ?_
  obtain ⟨stop_, e4, h⟩ := ltv_elim h
  refine s_istore_n X e4 rfl (by omega) dX2_atByRides_8 ?_
  obtain ⟨least_4, stop_4, hl14, h⟩ := bq2_some h
  obtain ⟨fu50, hl15⟩ := loop_iter hl14
  have KX11 : ∀ q9 : Int × Int, q9 = (least_4, stop_4) → J SHC G rm_X2_atByRides (.inl O) C 0 0 49 [(3, VI q9.2), (2, VI q9.1), (0, VR x), (1, VI to_)] [] m := by
    intro q9 e9
    subst e9
    show J SHC G rm_X2_atByRides (.inl O) C 0 0 49 [(3, VI stop_4), (2, VI least_4), (0, VR x), (1, VI to_)] [] m
    refine s_iload_n X 1 rfl dX2_atByRides_49 ?_
    exact s_iret X (Nat.le_of_ble_eq_true rfl) (Nat.le_of_ble_eq_true rfl) (by cases h; exact hO) dX2_atByRides_50
  have LP10 : ∀ (fu5 : Nat) (least_2 : Int) (stop_2 : Int), iter (fun s => C_Labels_atByRides_b1 x to_ m s.1 s.2) fu5 (least_2, stop_2) = some (least_4, stop_4) → J SHC G rm_X2_atByRides (.inl O) C 0 0 9 [(3, VI stop_2), (2, VI least_2), (0, VR x), (1, VI to_)] [] m := by
    intro fu5
    induction fu5 with
    | zero => intro least_2 stop_2 hn6; exact absurd hn6 (by simp [iter])
    | succ fu5 ih9 =>
      intro least_2 stop_2 hn6
      obtain ⟨x7, h, hc8⟩ := iter_succ hn6
      replace h : C_Labels_atByRides_b1 x to_ m least_2 stop_2 = some x7 := h
      unfold C_Labels_atByRides_b1 at h
      refine s_iload_n X 0 rfl dX2_atByRides_9 ?_
      refine s_load0 X 2 rfl dX2_atByRides_10 ?_
      refine s_getR (id := 1) X fk_X2_18 (shLab hx) rfl dX2_atByRides_11 ?_
      refine s_getI X fk_X2_22 SHC_1 rfl dX2_atByRides_14 ?_
      refine s_icmpge_f (tgt := 49) X dX2_atByRides_17 (by omega) (fun c19 => ?_) (fun c20 => ?_)
      · replace h := ite_neg h c19
        exact KX11 _ (iter_exit h hc8)
      · replace h := ite_pos h c20
        obtain ⟨g21, h⟩ := grd_some h
        refine s_iload_n X 1 rfl dX2_atByRides_20 ?_
        refine s_load0 X 2 rfl dX2_atByRides_21 ?_
        refine s_getR (id := (x + 1)) X fk_X2_9 (shLab hx) rfl dX2_atByRides_22 ?_
        refine s_iload_n X 0 rfl dX2_atByRides_25 ?_
        refine s_iald X (shLab1 hx) g21.1 g21.2.1 dX2_atByRides_26 ?_
        refine s_load0 X 2 rfl dX2_atByRides_27 ?_
        refine s_getR (id := 1) X fk_X2_18 (shLab hx) rfl dX2_atByRides_28 ?_
        refine s_getR (id := 16) X fk_X2_42 SHC_1 rfl dX2_atByRides_31 ?_
        refine s_iload_n X 0 rfl dX2_atByRides_34 ?_
        refine s_aaldI (id := (17 + stop_2.toNat)) X (by omega) (Or.inl rfl) SHC_16 g21.1 g21.2.1 dX2_atByRides_35 ?_
        refine s_iload_n X 3 rfl dX2_atByRides_36 ?_
        refine s_iald X (SHC_r17 g21.1 g21.2.1) g21.2.2.1 g21.2.2.2.1 dX2_atByRides_37 ?_
        refine s_iadd X g21.2.2.2.2 dX2_atByRides_38 ?_
        refine s_min X mm_X2_46 (Nat.le_of_ble_eq_true rfl) (Nat.le_of_ble_eq_true rfl) ⟨Nat.le_of_ble_eq_true rfl, Nat.le_of_ble_eq_true rfl⟩ dX2_atByRides_39 ?_
        obtain ⟨least_3, e22, h⟩ := ltv_elim h
        refine s_istore_n X e22 rfl (by omega) dX2_atByRides_42 ?_
        obtain ⟨g23, h⟩ := grd_some h
        obtain ⟨stop_3, e24, h⟩ := ltv_elim h
        refine s_iinc X 1 rfl g23 e24 rfl (by omega) dX2_atByRides_43 ?_
        refine s_goto (tgt := 9) X dX2_atByRides_46 (by omega) ?_
        exact ih9 _ _ (iter_next h hc8)
  exact LP10 _ _ _ hl15
set_option maxRecDepth 20000 in
set_option maxHeartbeats 4000000 in
theorem L_C_Search_collectPairs (G : Gl) (from_ : Int) (to_ : Int) (m : Mem) (r : Mem)  (h : C_Search_collectPairs from_ to_ m = some r) : Con SHC G yX6_collectPairs cX6_collectPairs 6 none rm_X6_collectPairs [VR 345, VI from_, VI to_] m (((.inl none, r) : Res × Mem)) := by
  refine con_of (own := "Lastbus$Search") (by decide) rfl (Nat.le_of_ble_eq_true rfl) (fun C X => ?_)
  obtain ⟨O, hO⟩ : ∃ O : Res × Mem, O = (((.inl none, r) : Res × Mem)) := ⟨_, rfl⟩
  rw [← hO]
  show J SHC G rm_X6_collectPairs (.inl O) C 0 0 0 [(0, VR 345), (1, VI from_), (2, VI to_)] [] m
  unfold C_Search_collectPairs at h
  refine s_load0 X 0 rfl dX6_collectPairs_0 ?_
  refine s_const X (by unfold InR; omega) dX6_collectPairs_1 ?_
  obtain ⟨m_, e2, h⟩ := ltv_elim h
  refine s_putI X e2 fp_X6_154 SHC_345 rfl trivial dX6_collectPairs_2 ?_
  refine s_const X (by unfold InR; omega) dX6_collectPairs_5 ?_
  obtain ⟨minute_, e4, h⟩ := ltv_elim h
  refine s_istore_n X e4 rfl (by omega) dX6_collectPairs_6 ?_
  refine s_const X (by unfold InR; omega) dX6_collectPairs_7 ?_
  obtain ⟨turn_, e6, h⟩ := ltv_elim h
  refine s_istore X e6 rfl (by omega) dX6_collectPairs_8 ?_
  obtain ⟨s14, hl16, h⟩ := br3_some h
  obtain ⟨fu70, hl17⟩ := loop_iter hl16
  have KR15 : ∀ q9 : Mem, .inr q9 = s14 → O = ((.inl none, q9) : Res × Mem) := by
    intro q9 e9
    subst e9
    replace h := brm3_inr h
    exact (by cases h; exact hO)
  have KX13 : ∀ q9 : Int × Int × Mem, .inl q9 = s14 → J SHC G rm_X6_collectPairs (.inl O) C 0 0 98 [(4, VI q9.2.1), (3, VI q9.1), (0, VR 345), (1, VI from_), (2, VI to_)] [] (q9.2.2) := by
    intro q9 e9
    subst e9
    obtain ⟨minute_4, turn_4, m_8⟩ := q9
    replace h := brm3_inl h
    show J SHC G rm_X6_collectPairs (.inl O) C 0 0 98 [(4, VI turn_4), (3, VI minute_4), (0, VR 345), (1, VI from_), (2, VI to_)] [] m_8
    exact s_vret X (Nat.le_of_ble_eq_true rfl) (Nat.le_of_ble_eq_true rfl) (by cases h; exact hO) dX6_collectPairs_98
  have LP12 : ∀ (fu7 : Nat) (minute_2 : Int) (turn_2 : Int) (m_2 : Mem), iter (fun s => C_Search_collectPairs_b1 from_ to_ s.1 s.2.1 s.2.2) fu7 (minute_2, turn_2, m_2) = some s14 → J SHC G rm_X6_collectPairs (.inl O) C 0 0 10 [(4, VI turn_2), (3, VI minute_2), (0, VR 345), (1, VI from_), (2, VI to_)] [] m_2 := by
    intro fu7
    induction fu7 with
    | zero => intro minute_2 turn_2 m_2 hn8; exact absurd hn8 (by simp [iter])
    | succ fu7 ih11 =>
      intro minute_2 turn_2 m_2 hn8
      obtain ⟨x9, h, hc10⟩ := iter_succ hn8
      replace h : C_Search_collectPairs_b1 from_ to_ minute_2 turn_2 m_2 = some x9 := h
      unfold C_Search_collectPairs_b1 at h
      refine s_iload X 0 rfl dX6_collectPairs_10 ?_
      refine s_sipush X (by omega) dX6_collectPairs_12 ?_
      refine s_icmpge_f (tgt := 98) X dX6_collectPairs_15 (by omega) (fun c21 => ?_) (fun c22 => ?_)
      · replace h := ite_neg h c21
        exact KX13 _ (iter_exit h hc10)
      · replace h := ite_pos h c22
        refine s_load0 X 2 rfl dX6_collectPairs_18 ?_
        refine s_iload_n X 3 rfl dX6_collectPairs_19 ?_
        refine s_iload_n X 1 rfl dX6_collectPairs_20 ?_
        obtain ⟨m_3, hq24, h⟩ := bnd_some h
        refine s_callV (As := [VI from_, VI minute_2]) X cw_X6_157 SHC_345 rfl dX6_collectPairs_21 (L_C_Search_scan G from_ minute_2 m_2 m_3 hq24) rfl ⟨Nat.le_of_ble_eq_true rfl, Nat.le_of_ble_eq_true rfl⟩ ⟨Nat.le_of_ble_eq_true rfl, Nat.le_of_ble_eq_true rfl⟩ (Nat.le_of_ble_eq_true rfl) noT (kkU ?_)
        refine s_load0 X 2 rfl dX6_collectPairs_24 ?_
        refine s_getR (id := 352) X fk_X6_44 SHC_345 rfl dX6_collectPairs_25 ?_
        refine s_iload_n X 4 rfl dX6_collectPairs_28 ?_
        obtain ⟨r_, hq28, h⟩ := bnd_some h
        refine s_callV (As := [VI to_]) X cw_X6_160 (shLab labS) rfl dX6_collectPairs_29 (L_C_Labels_atByRides G 352 to_ m_3 r_ labS hq28) rfl ⟨Nat.le_of_ble_eq_true rfl, Nat.le_of_ble_eq_true rfl⟩ ⟨Nat.le_of_ble_eq_true rfl, Nat.le_of_ble_eq_true rfl⟩ (Nat.le_of_ble_eq_true rfl) noT (kkR ?_)
        obtain ⟨by_, e31, h⟩ := ltv_elim h
        refine s_istore X e31 rfl (by omega) dX6_collectPairs_32 ?_
        refine s_iload X 0 rfl dX6_collectPairs_34 ?_
        refine s_ldc (z := 1000000) X (by unfold InR; omega) kc_X6_153 dX6_collectPairs_36 ?_
        refine s_icmplt_f (tgt := 42) X dX6_collectPairs_38 (by omega) (fun c35 => ?_) (fun c36 => ?_)
        · replace h := ite_neg h c35
          obtain ⟨g37, h⟩ := grd_some h
          refine s_load0 X 3 rfl dX6_collectPairs_42 ?_
          refine s_getR (id := 350) X fk_X6_25 SHC_345 rfl dX6_collectPairs_43 ?_
          refine s_load0 X 3 rfl dX6_collectPairs_46 ?_
          refine s_getI X fk_X6_154 SHC_345 rfl dX6_collectPairs_47 ?_
          refine s_load0 X 3 rfl dX6_collectPairs_50 ?_
          refine s_iload_n X 4 rfl dX6_collectPairs_51 ?_
          refine s_iload_n X 5 rfl dX6_collectPairs_52 ?_
          refine s_iload X 0 rfl dX6_collectPairs_53 ?_
          obtain ⟨r_2, m_4, hq38, h⟩ := bq2_some h
          refine s_callV (As := [VI from_, VI to_, VI by_]) X cw_X6_104 SHC_345 rfl dX6_collectPairs_55 (L_C_Search_lastLeaveByRides G from_ to_ by_ m_3 (r_2, m_4) hq38) rfl ⟨Nat.le_of_ble_eq_true rfl, Nat.le_of_ble_eq_true rfl⟩ ⟨Nat.le_of_ble_eq_true rfl, Nat.le_of_ble_eq_true rfl⟩ (Nat.le_of_ble_eq_true rfl) noT (kkR ?_)
          obtain ⟨m_5, e41, h⟩ := ltv_elim h
          refine s_iast X e41 SHC_350 g37.1 g37.2 dX6_collectPairs_58 ?_
          obtain ⟨g42, h⟩ := grd_some h
          refine s_load0 X 3 rfl dX6_collectPairs_59 ?_
          refine s_getR (id := 351) X fk_X6_28 SHC_345 rfl dX6_collectPairs_60 ?_
          refine s_load0 X 3 rfl dX6_collectPairs_63 ?_
          refine s_getI X fk_X6_154 SHC_345 rfl dX6_collectPairs_64 ?_
          refine s_iload X 0 rfl dX6_collectPairs_67 ?_
          obtain ⟨m_6, e43, h⟩ := ltv_elim h
          refine s_iast X e43 SHC_351 g42.1 g42.2 dX6_collectPairs_69 ?_
          obtain ⟨g44, h⟩ := grd_some h
          refine s_load0 X 3 rfl dX6_collectPairs_70 ?_
          refine s_getR (id := 350) X fk_X6_25 SHC_345 rfl dX6_collectPairs_71 ?_
          refine s_load0 X 3 rfl dX6_collectPairs_74 ?_
          refine s_getI X fk_X6_154 SHC_345 rfl dX6_collectPairs_75 ?_
          refine s_iald X SHC_350 g44.1 g44.2.1 dX6_collectPairs_78 ?_
          refine s_const X (by unfold InR; omega) dX6_collectPairs_79 ?_
          refine s_iadd X g44.2.2 dX6_collectPairs_80 ?_
          obtain ⟨minute_3, e45, h⟩ := ltv_elim h
          refine s_istore_n X e45 rfl (by omega) dX6_collectPairs_81 ?_
          obtain ⟨g46, h⟩ := grd_some h
          refine s_load0 X 3 rfl dX6_collectPairs_82 ?_
          refine s_dup X rfl dX6_collectPairs_83 ?_
          refine s_getI X fk_X6_154 SHC_345 rfl dX6_collectPairs_84 ?_
          refine s_const X (by unfold InR; omega) dX6_collectPairs_87 ?_
          refine s_iadd X g46 dX6_collectPairs_88 ?_
          obtain ⟨m_7, e47, h⟩ := ltv_elim h
          refine s_putI X e47 fp_X6_154 SHC_345 rfl trivial dX6_collectPairs_89 ?_
          obtain ⟨g48, h⟩ := grd_some h
          obtain ⟨turn_3, e49, h⟩ := ltv_elim h
          refine s_iinc X 2 rfl g48 e49 rfl (by omega) dX6_collectPairs_92 ?_
          refine s_goto (tgt := 10) X dX6_collectPairs_95 (by omega) ?_
          refine s_loc [0, 1, 3, 4, 5] rfl ?_
          exact ih11 _ _ _ (iter_next h hc10)
        · replace h := ite_pos h c36
          exact s_vret X (Nat.le_of_ble_eq_true rfl) (Nat.le_of_ble_eq_true rfl) (KR15 _ (iter_exit h hc10)) dX6_collectPairs_41
  exact LP12 _ _ _ _ hl17
set_option maxRecDepth 20000 in
set_option maxHeartbeats 4000000 in
theorem L_C_findPairs (G : Gl) (from_ : Int) (to_ : Int) (day_ : Int) (m : Mem) (r : ((Unit ⊕ Nat) × Mem))  (h : C_findPairs from_ to_ day_ m = some r) : Con SHC G yX11_findPairs cX11_findPairs 4 none rm_X11_findPairs [VR 0, VI from_, VI to_, VI day_] m (oT wU r) := by
  refine con_of (own := "Lastbus") (by decide) rfl (Nat.le_of_ble_eq_true rfl) (fun C X => ?_)
  obtain ⟨O, hO⟩ : ∃ O : Res × Mem, O = (oT wU r) := ⟨_, rfl⟩
  rw [← hO]
  show J SHC G rm_X11_findPairs (.inl O) C 0 0 0 [(0, VR 0), (1, VI from_), (2, VI to_), (3, VI day_)] [] m
  unfold C_findPairs at h
  refine s_load0 X 0 rfl dX11_findPairs_0 ?_
  refine s_iload_n X 1 rfl dX11_findPairs_1 ?_
  obtain ⟨q3, hq2, h⟩ := bnd_some h
  refine s_callV (As := [VI from_]) X cw_X11_107 SHC_0 rfl dX11_findPairs_2 (L_C_needStop G from_ m q3 hq2) rfl ⟨Nat.le_of_ble_eq_true rfl, Nat.le_of_ble_eq_true rfl⟩ ⟨Nat.le_of_ble_eq_true rfl, Nat.le_of_ble_eq_true rfl⟩ (Nat.le_of_ble_eq_true rfl) (thr_up hO h) (kkT fun u_ m_ e9 => ?_)
  subst e9
  replace h := tbd_inl h
  refine s_load0 X 0 rfl dX11_findPairs_5 ?_
  refine s_iload_n X 2 rfl dX11_findPairs_6 ?_
  obtain ⟨q7, hq6, h⟩ := bnd_some h
  refine s_callV (As := [VI to_]) X cw_X11_107 SHC_0 rfl dX11_findPairs_7 (L_C_needStop G to_ m_ q7 hq6) rfl ⟨Nat.le_of_ble_eq_true rfl, Nat.le_of_ble_eq_true rfl⟩ ⟨Nat.le_of_ble_eq_true rfl, Nat.le_of_ble_eq_true rfl⟩ (Nat.le_of_ble_eq_true rfl) (thr_up hO h) (kkT fun u_2 m_2 e9 => ?_)
  subst e9
  replace h := tbd_inl h
  refine s_iload_n X 1 rfl dX11_findPairs_10 ?_
  refine s_iload_n X 2 rfl dX11_findPairs_11 ?_
  obtain ⟨q11, hq10, h⟩ := bnd_some h
  refine s_callS (As := [VI from_, VI to_]) X cw_X11_115 dX11_findPairs_12 (L_C_needUnlike G from_ to_ m_2 q11 hq10) rfl ⟨Nat.le_of_ble_eq_true rfl, Nat.le_of_ble_eq_true rfl⟩ ⟨Nat.le_of_ble_eq_true rfl, Nat.le_of_ble_eq_true rfl⟩ (Nat.le_of_ble_eq_true rfl) (thr_up hO h) (kkT fun u_3 m_3 e9 => ?_)
  subst e9
  replace h := tbd_inl h
  refine s_iload_n X 3 rfl dX11_findPairs_15 ?_
  obtain ⟨q15, hq14, h⟩ := bnd_some h
  refine s_callS (As := [VI day_]) X cw_X11_140 dX11_findPairs_16 (L_C_needDay G day_ m_3 q15 hq14) rfl ⟨Nat.le_of_ble_eq_true rfl, Nat.le_of_ble_eq_true rfl⟩ ⟨Nat.le_of_ble_eq_true rfl, Nat.le_of_ble_eq_true rfl⟩ (Nat.le_of_ble_eq_true rfl) (thr_up hO h) (kkT fun u_4 m_4 e9 => ?_)
  subst e9
  replace h := tbd_inl h
  refine s_load0 X 0 rfl dX11_findPairs_19 ?_
  refine s_getR (id := 119) X fk_X11_49 SHC_0 rfl dX11_findPairs_20 ?_
  refine s_iload_n X 3 rfl dX11_findPairs_23 ?_
  refine s_const X (by unfold InR; omega) dX11_findPairs_24 ?_
  refine s_const X (by unfold InR; omega) dX11_findPairs_25 ?_
  obtain ⟨m_5, hq18, h⟩ := bnd_some h
  refine s_callV (As := [VI day_, VI (-1), VI 0]) X cw_X11_280 SHC_119 rfl dX11_findPairs_26 (L_C_Net_lay G day_ (-1) 0 m_4 m_5 hq18) rfl ⟨Nat.le_of_ble_eq_true rfl, Nat.le_of_ble_eq_true rfl⟩ ⟨Nat.le_of_ble_eq_true rfl, Nat.le_of_ble_eq_true rfl⟩ (Nat.le_of_ble_eq_true rfl) noT (kkU ?_)
  refine s_load0 X 0 rfl dX11_findPairs_29 ?_
  refine s_getR (id := 345) X fk_X11_58 SHC_0 rfl dX11_findPairs_30 ?_
  refine s_iload_n X 1 rfl dX11_findPairs_33 ?_
  refine s_iload_n X 2 rfl dX11_findPairs_34 ?_
  obtain ⟨m_6, hq22, h⟩ := bnd_some h
  refine s_callV (As := [VI from_, VI to_]) X cw_X11_352 SHC_345 rfl dX11_findPairs_35 (L_C_Search_collectPairs G from_ to_ m_5 m_6 hq22) rfl ⟨Nat.le_of_ble_eq_true rfl, Nat.le_of_ble_eq_true rfl⟩ ⟨Nat.le_of_ble_eq_true rfl, Nat.le_of_ble_eq_true rfl⟩ (Nat.le_of_ble_eq_true rfl) noT (kkU ?_)
  exact s_vret X (Nat.le_of_ble_eq_true rfl) (Nat.le_of_ble_eq_true rfl) (by cases h; exact hO) dX11_findPairs_38
set_option maxRecDepth 20000 in
set_option maxHeartbeats 4000000 in
theorem L_C_pairs (G : Gl) (from_ : Int) (to_ : Int) (day_ : Int) (m : Mem) (r : ((Int ⊕ Nat) × Mem))  (h : C_pairs from_ to_ day_ m = some r) : Con SHC G yX11_pairs cX11_pairs 4 (some .int) rm_X11_pairs [VR 0, VI from_, VI to_, VI day_] m (oT wI r) := by
  refine con_of (own := "Lastbus") (by decide) rfl (Nat.le_of_ble_eq_true rfl) (fun C X => ?_)
  obtain ⟨O, hO⟩ : ∃ O : Res × Mem, O = (oT wI r) := ⟨_, rfl⟩
  rw [← hO]
  show J SHC G rm_X11_pairs (.inl O) C 0 0 0 [(0, VR 0), (1, VI from_), (2, VI to_), (3, VI day_)] [] m
  unfold C_pairs at h
  refine s_load0 X 0 rfl dX11_pairs_0 ?_
  refine s_iload_n X 1 rfl dX11_pairs_1 ?_
  refine s_iload_n X 2 rfl dX11_pairs_2 ?_
  refine s_iload_n X 3 rfl dX11_pairs_3 ?_
  obtain ⟨q3, hq2, h⟩ := bnd_some h
  refine s_callV (As := [VI from_, VI to_, VI day_]) X cw_X11_338 SHC_0 rfl dX11_pairs_4 (L_C_findPairs G from_ to_ day_ m q3 hq2) rfl ⟨Nat.le_of_ble_eq_true rfl, Nat.le_of_ble_eq_true rfl⟩ ⟨Nat.le_of_ble_eq_true rfl, Nat.le_of_ble_eq_true rfl⟩ (Nat.le_of_ble_eq_true rfl) (thr_up hO h) (kkT fun u_ m_ e9 => ?_)
  subst e9
  replace h := tbd_inl h
  refine s_load0 X 0 rfl dX11_pairs_7 ?_
  refine s_getR (id := 345) X fk_X11_58 SHC_0 rfl dX11_pairs_8 ?_
  refine s_getI X fk_X11_341 SHC_345 rfl dX11_pairs_11 ?_
  exact s_iret X (Nat.le_of_ble_eq_true rfl) (Nat.le_of_ble_eq_true rfl) (by cases h; exact hO) dX11_pairs_14
set_option maxRecDepth 20000 in
set_option maxHeartbeats 4000000 in
theorem L_C_pair (G : Gl) (from_ : Int) (to_ : Int) (day_ : Int) (index_ : Int) (isArrival_ : Int) (m : Mem) (r : ((Int ⊕ Nat) × Mem))  (h : C_pair from_ to_ day_ index_ isArrival_ m = some r) : Con SHC G yX11_pair cX11_pair 6 (some .int) rm_X11_pair [VR 0, VI from_, VI to_, VI day_, VI index_, VI isArrival_] m (oT wI r) := by
  refine con_of (own := "Lastbus") (by decide) rfl (Nat.le_of_ble_eq_true rfl) (fun C X => ?_)
  obtain ⟨O, hO⟩ : ∃ O : Res × Mem, O = (oT wI r) := ⟨_, rfl⟩
  rw [← hO]
  show J SHC G rm_X11_pair (.inl O) C 0 0 0 [(0, VR 0), (1, VI from_), (2, VI to_), (3, VI day_), (4, VI index_), (5, VI isArrival_)] [] m
  unfold C_pair at h
  refine s_load0 X 0 rfl dX11_pair_0 ?_
  refine s_iload_n X 1 rfl dX11_pair_1 ?_
  refine s_iload_n X 2 rfl dX11_pair_2 ?_
  refine s_iload_n X 3 rfl dX11_pair_3 ?_
  obtain ⟨q3, hq2, h⟩ := bnd_some h
  refine s_callV (As := [VI from_, VI to_, VI day_]) X cw_X11_338 SHC_0 rfl dX11_pair_4 (L_C_findPairs G from_ to_ day_ m q3 hq2) rfl ⟨Nat.le_of_ble_eq_true rfl, Nat.le_of_ble_eq_true rfl⟩ ⟨Nat.le_of_ble_eq_true rfl, Nat.le_of_ble_eq_true rfl⟩ (Nat.le_of_ble_eq_true rfl) (thr_up hO h) (kkT fun u_ m_ e9 => ?_)
  subst e9
  replace h := tbd_inl h
  have kT6 : (index_ < 0) ∨ (m_ 345 7 ≤ index_) → J SHC G rm_X11_pair (.inl O) C 4 24 24 [(0, VR 0), (1, VI from_), (2, VI to_), (3, VI day_), (4, VI index_), (5, VI isArrival_)] [] m_ := by
    intro c10
    replace h := ite_pos h c10
    exact s_throwNW X th_X11_168_344_172 (by cases h; exact hO) (Nat.le_of_ble_eq_true rfl) (Nat.le_of_ble_eq_true rfl) (Nat.le_of_ble_eq_true rfl) (Nat.le_of_ble_eq_true rfl) dX11_pair_24 dX11_pair_27 dX11_pair_28 dX11_pair_31 dX11_pair_34
  refine s_iload X 4 rfl dX11_pair_7 ?_
  refine s_iflt_t (tgt := 24) X dX11_pair_9 (by omega) (fun c8 => ?_) (fun c9 => ?_)
  · exact kT6 (Or.inl c8)
  · have a11 : ¬ (index_ < 0) := c9
    refine s_iload X 4 rfl dX11_pair_12 ?_
    refine s_load0 X 0 rfl dX11_pair_14 ?_
    refine s_getR (id := 345) X fk_X11_58 SHC_0 rfl dX11_pair_15 ?_
    refine s_getI X fk_X11_341 SHC_345 rfl dX11_pair_18 ?_
    refine s_icmplt_f (tgt := 35) X dX11_pair_21 (by omega) (fun c12 => ?_) (fun c13 => ?_)
    · replace h := ite_neg h (fun q => q.elim a11 c12)
      obtain ⟨g14, h⟩ := grd_some h
      have kM15 : J SHC G rm_X11_pair (.inl O) C 4 24 63 [(0, VR 0), (1, VI from_), (2, VI to_), (3, VI day_), (4, VI index_), (5, VI isArrival_)] [VI (if ¬ isArrival_ = 0 then m_ 351 index_.toNat else m_ 350 index_.toNat)] m_ := by
        exact s_iret X (Nat.le_of_ble_eq_true rfl) (Nat.le_of_ble_eq_true rfl) (by cases h; exact hO) dX11_pair_63
      refine s_iload X 5 rfl dX11_pair_35 ?_
      refine s_ifeq_f (tgt := 53) X dX11_pair_37 (by omega) (fun c16 => ?_) (fun c17 => ?_)
      · refine s_load0 X 0 rfl dX11_pair_53 ?_
        refine s_getR (id := 345) X fk_X11_58 SHC_0 rfl dX11_pair_54 ?_
        refine s_getR (id := 350) X fk_X11_349 SHC_345 rfl dX11_pair_57 ?_
        refine s_iload X 4 rfl dX11_pair_60 ?_
        refine s_iald X SHC_350 (g14.1 c16) (g14.2.1 c16) dX11_pair_62 ?_
        exact s_eqt (if_neg c16) kM15
      · refine s_load0 X 0 rfl dX11_pair_40 ?_
        refine s_getR (id := 345) X fk_X11_58 SHC_0 rfl dX11_pair_41 ?_
        refine s_getR (id := 351) X fk_X11_346 SHC_345 rfl dX11_pair_44 ?_
        refine s_iload X 4 rfl dX11_pair_47 ?_
        refine s_iald X SHC_351 (g14.2.2.1 c17) (g14.2.2.2 c17) dX11_pair_49 ?_
        refine s_goto (tgt := 63) X dX11_pair_50 (by omega) ?_
        exact s_eqt (if_pos c17) kM15
    · exact kT6 (Or.inr c13)
set_option maxRecDepth 20000 in
set_option maxHeartbeats 4000000 in
theorem L_C_Search_pairArrivalFrom (G : Gl) (minute_ : Int) (m : Mem) (r : Int)  (h : C_Search_pairArrivalFrom minute_ m = some r) : Con SHC G yX6_pairArrivalFrom cX6_pairArrivalFrom 6 (some .int) rm_X6_pairArrivalFrom [VR 345, VI minute_] m (((.inl (some (VI r)), m) : Res × Mem)) := by
  refine con_of (own := "Lastbus$Search") (by decide) rfl (Nat.le_of_ble_eq_true rfl) (fun C X => ?_)
  obtain ⟨O, hO⟩ : ∃ O : Res × Mem, O = (((.inl (some (VI r)), m) : Res × Mem)) := ⟨_, rfl⟩
  rw [← hO]
  show J SHC G rm_X6_pairArrivalFrom (.inl O) C 0 0 0 [(0, VR 345), (1, VI minute_)] [] m
  unfold C_Search_pairArrivalFrom at h
  refine s_const X (by unfold InR; omega) dX6_pairArrivalFrom_0 ?_
  obtain ⟨low_, e2, h⟩ := ltv_elim h
  refine s_istore_n X e2 rfl (by omega) dX6_pairArrivalFrom_1 ?_
  refine s_load0 X 1 rfl dX6_pairArrivalFrom_2 ?_
  refine s_getI X fk_X6_154 SHC_345 rfl dX6_pairArrivalFrom_3 ?_
  obtain ⟨high_, e4, h⟩ := ltv_elim h
  refine s_istore_n X e4 rfl (by omega) dX6_pairArrivalFrom_6 ?_
  refine s_const X (by unfold InR; omega) dX6_pairArrivalFrom_7 ?_
  obtain ⟨turn_, e6, h⟩ := ltv_elim h
  refine s_istore X e6 rfl (by omega) dX6_pairArrivalFrom_8 ?_
  obtain ⟨low_4, high_4, turn_5, hl16, h⟩ := bq3_some h
  obtain ⟨fu70, hl17⟩ := loop_iter hl16
  have KX13 : ∀ q9 : Int × Int × Int, q9 = (low_4, high_4, turn_5) → J SHC G rm_X6_pairArrivalFrom (.inl O) C 0 0 58 [(4, VI q9.2.2), (3, VI q9.2.1), (2, VI q9.1), (0, VR 345), (1, VI minute_)] [] m := by
    intro q9 e9
    subst e9
    show J SHC G rm_X6_pairArrivalFrom (.inl O) C 0 0 58 [(4, VI turn_5), (3, VI high_4), (2, VI low_4), (0, VR 345), (1, VI minute_)] [] m
    obtain ⟨g42, h⟩ := grd_some h
    have kM43 : J SHC G rm_X6_pairArrivalFrom (.inl O) C 0 0 77 [(4, VI turn_5), (3, VI high_4), (2, VI low_4), (0, VR 345), (1, VI minute_)] [VI (if low_4 < m 345 7 then m 351 low_4.toNat else 1000000)] m := by
      exact s_iret X (Nat.le_of_ble_eq_true rfl) (Nat.le_of_ble_eq_true rfl) (by cases h; exact hO) dX6_pairArrivalFrom_77
    refine s_iload_n X 2 rfl dX6_pairArrivalFrom_58 ?_
    refine s_load0 X 3 rfl dX6_pairArrivalFrom_59 ?_
    refine s_getI X fk_X6_154 SHC_345 rfl dX6_pairArrivalFrom_60 ?_
    refine s_icmpge_f (tgt := 75) X dX6_pairArrivalFrom_63 (by omega) (fun c44 => ?_) (fun c45 => ?_)
    · refine s_ldc (z := 1000000) X (by unfold InR; omega) kc_X6_153 dX6_pairArrivalFrom_75 ?_
      exact s_eqt (if_neg c44) kM43
    · refine s_load0 X 3 rfl dX6_pairArrivalFrom_66 ?_
      refine s_getR (id := 351) X fk_X6_28 SHC_345 rfl dX6_pairArrivalFrom_67 ?_
      refine s_iload_n X 2 rfl dX6_pairArrivalFrom_70 ?_
      refine s_iald X SHC_351 (g42.1 c45) (g42.2 c45) dX6_pairArrivalFrom_71 ?_
      refine s_goto (tgt := 77) X dX6_pairArrivalFrom_72 (by omega) ?_
      exact s_eqt (if_pos c45) kM43
  have LP12 : ∀ (fu7 : Nat) (low_2 : Int) (high_2 : Int) (turn_2 : Int), iter (fun s => C_Search_pairArrivalFrom_b1 minute_ m s.1 s.2.1 s.2.2) fu7 (low_2, high_2, turn_2) = some (low_4, high_4, turn_5) → J SHC G rm_X6_pairArrivalFrom (.inl O) C 0 0 10 [(4, VI turn_2), (3, VI high_2), (2, VI low_2), (0, VR 345), (1, VI minute_)] [] m := by
    intro fu7
    induction fu7 with
    | zero => intro low_2 high_2 turn_2 hn8; exact absurd hn8 (by simp [iter])
    | succ fu7 ih11 =>
      intro low_2 high_2 turn_2 hn8
      obtain ⟨x9, h, hc10⟩ := iter_succ hn8
      replace h : C_Search_pairArrivalFrom_b1 minute_ m low_2 high_2 turn_2 = some x9 := h
      unfold C_Search_pairArrivalFrom_b1 at h
      have kF20 : ¬ ((turn_2 < 576) ∧ (low_2 < high_2)) → J SHC G rm_X6_pairArrivalFrom (.inl O) C 0 0 58 [(4, VI turn_2), (3, VI high_2), (2, VI low_2), (0, VR 345), (1, VI minute_)] [] m := by
        intro c23
        replace h := ite_neg h c23
        exact KX13 _ (iter_exit h hc10)
      refine s_iload X 0 rfl dX6_pairArrivalFrom_10 ?_
      refine s_sipush X (by omega) dX6_pairArrivalFrom_12 ?_
      refine s_icmpge_f (tgt := 58) X dX6_pairArrivalFrom_15 (by omega) (fun c21 => ?_) (fun c22 => ?_)
      · exact kF20 (fun q => c21 q.1)
      · have a24 : turn_2 < 576 := c22
        refine s_iload_n X 2 rfl dX6_pairArrivalFrom_18 ?_
        refine s_iload_n X 1 rfl dX6_pairArrivalFrom_19 ?_
        refine s_icmpge_f (tgt := 58) X dX6_pairArrivalFrom_20 (by omega) (fun c25 => ?_) (fun c26 => ?_)
        · exact kF20 (fun q => c25 q.2)
        · replace h := ite_pos h ⟨a24, c26⟩
          obtain ⟨g27, h⟩ := grd_some h
          refine s_iload_n X 2 rfl dX6_pairArrivalFrom_23 ?_
          refine s_iload_n X 1 rfl dX6_pairArrivalFrom_24 ?_
          refine s_iadd X g27 dX6_pairArrivalFrom_25 ?_
          refine s_const X (by unfold InR; omega) dX6_pairArrivalFrom_26 ?_
          refine s_idiv X (by omega) dX6_pairArrivalFrom_27 ?_
          obtain ⟨middle_, e28, h⟩ := ltv_elim h
          refine s_istore X e28 rfl (by omega) dX6_pairArrivalFrom_28 ?_
          obtain ⟨g29, h⟩ := grd_some h
          refine s_load0 X 4 rfl dX6_pairArrivalFrom_30 ?_
          refine s_getR (id := 350) X fk_X6_25 SHC_345 rfl dX6_pairArrivalFrom_31 ?_
          refine s_iload X 0 rfl dX6_pairArrivalFrom_34 ?_
          refine s_iald X SHC_350 g29.1 g29.2 dX6_pairArrivalFrom_36 ?_
          refine s_iload_n X 5 rfl dX6_pairArrivalFrom_37 ?_
          refine s_icmpge_f (tgt := 49) X dX6_pairArrivalFrom_38 (by omega) (fun c32 => ?_) (fun c33 => ?_)
          · replace h := ite_neg h c32
            refine s_iload X 0 rfl dX6_pairArrivalFrom_49 ?_
            obtain ⟨high_3, e35, h⟩ := ltv_elim h
            refine s_istore_n X e35 rfl (by omega) dX6_pairArrivalFrom_51 ?_
            obtain ⟨g36, h⟩ := grd_some h
            obtain ⟨turn_3, e37, h⟩ := ltv_elim h
            refine s_iinc X 2 rfl g36 e37 rfl (by omega) dX6_pairArrivalFrom_52 ?_
            refine s_goto (tgt := 10) X dX6_pairArrivalFrom_55 (by omega) ?_
            refine s_loc [0, 1, 3, 4, 5] rfl ?_
            exact ih11 _ _ _ (iter_next h hc10)
          · replace h := ite_pos h c33
            obtain ⟨g38, h⟩ := grd_some h
            refine s_iload X 0 rfl dX6_pairArrivalFrom_41 ?_
            refine s_const X (by unfold InR; omega) dX6_pairArrivalFrom_43 ?_
            refine s_iadd X g38 dX6_pairArrivalFrom_44 ?_
            obtain ⟨low_3, e39, h⟩ := ltv_elim h
            refine s_istore_n X e39 rfl (by omega) dX6_pairArrivalFrom_45 ?_
            refine s_goto (tgt := 52) X dX6_pairArrivalFrom_46 (by omega) ?_
            obtain ⟨g40, h⟩ := grd_some h
            obtain ⟨turn_4, e41, h⟩ := ltv_elim h
            refine s_iinc X 2 rfl g40 e41 rfl (by omega) dX6_pairArrivalFrom_52 ?_
            refine s_goto (tgt := 10) X dX6_pairArrivalFrom_55 (by omega) ?_
            refine s_loc [0, 3, 1, 4, 5] rfl ?_
            exact ih11 _ _ _ (iter_next h hc10)
  exact LP12 _ _ _ _ hl17
