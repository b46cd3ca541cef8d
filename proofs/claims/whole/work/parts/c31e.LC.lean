/-! ===== printed by a program out of the Java source and the decode rows: 31e.LC ===== -/
set_option maxRecDepth 20000 in
set_option maxHeartbeats 4000000 in
theorem L_C_Labels_atByRides (G : Gl) (x : Nat) (to_ : Int) (m : Mem) (r : Int) (hx : isLab x) (h : C_Labels_atByRides x to_ m = some r) : Con SHC G yX2_atByRides cX2_atByRides 4 (some .int) rm_X2_atByRides [VR x, VI to_] m (((.inl (some (VI r)), m) : Res × Mem)) := by
  refine con_of (own := "Lastbus$Labels") (by decide) rfl (Nat.le_of_ble_eq_true rfl) (fun C X => ?_)
  obtain ⟨O, hO⟩ : ∃ O : Res × Mem, O = (((.inl (some (VI r)), m) : Res × Mem)) := ⟨_, rfl⟩
  rw [← hO]
  show J SHC G rm_X2_atByRides (.inl O) C 0 0 0 [(0, VR x), (1, VI to_)] [] m
  unfold C_Labels_atByRides at h
  obtain ⟨g1, h⟩ := grd_some h
  refine s_load0 X 0 rfl dX2_atByRides_0 ?_
  refine s_getR (id := (x + 1)) X fk_X2_9 (shLab hx) rfl dX2_atByRides_1 ?_
  refine s_iload_n X 1 rfl dX2_atByRides_4 ?_
  refine s_iald X (shLab1 hx) g1.1 g1.2 dX2_atByRides_5 ?_
  obtain ⟨least_, e2, h⟩ := ltv_elim h
  refine s_istore_n X e2 rfl (by omega) dX2_atByRides_6 ?_
  refine s_const X (by unfold InR; omega) dX2_atByRides_7 ?_
  obtain ⟨stop_, e4, h⟩ := ltv_elim h
  refine s_istore_n X e4 rfl (by omega) dX2_atByRides_8 ?_
  obtain ⟨least_4, stop_4, hl14, h⟩ := bq2_some h
  obtain ⟨fu50, hl15⟩ := loop_iter hl14
  have KX11 : ∀ q9 : Int × Int, q9 = (least_4, stop_4) → J SHC G rm_X2_atByRides (.inl O) C 0 0 49 [(3, VI q9.2), (2, VI q9.1), (0, VR x), (1, VI to_)] [] m := by
    intro q9 e9
    subst e9
    show J SHC G rm_X2_atByRides (.inl O) C 0 0 49 [(3, VI stop_4), (2, VI least_4), (0, VR x), (1, VI to_)] [] m
    refine s_iload_n X 1 rfl dX2_atByRides_49 ?_
    exact s_iret X (Nat.le_of_ble_eq_true rfl) (Nat.le_of_ble_eq_true rfl) (by cases h; exact hO) dX2_atByRides_50
  have LP10 : ∀ (fu5 : Nat) (least_2 : Int) (stop_2 : Int), iter (fun s => C_Labels_atByRides_b1 x to_ m s.1 s.2) fu5 (least_2, stop_2) = some (least_4, stop_4) → J SHC G rm_X2_atByRides (.inl O) C 0 0 9 [(3, VI stop_2), (2, VI least_2), (0, VR x), (1, VI to_)] [] m := by
    intro fu5
    induction fu5 with
    | zero => intro least_2 stop_2 hn6; exact absurd hn6 (by simp [iter])
    | succ fu5 ih9 =>
      intro least_2 stop_2 hn6
      obtain ⟨x7, h, hc8⟩ := iter_succ hn6
      replace h : C_Labels_atByRides_b1 x to_ m least_2 stop_2 = some x7 := h
      unfold C_Labels_atByRides_b1 at h
      refine s_iload_n X 0 rfl dX2_atByRides_9 ?_
      refine s_load0 X 2 rfl dX2_atByRides_10 ?_
      refine s_getR (id := 1) X fk_X2_18 (shLab hx) rfl dX2_atByRides_11 ?_
      refine s_getI X fk_X2_22 SHC_1 rfl dX2_atByRides_14 ?_
      refine s_icmpge_f (tgt := 49) X dX2_atByRides_17 (by omega) (fun c19 => ?_) (fun c20 => ?_)
      · replace h := ite_neg h c19
        exact KX11 _ (iter_exit h hc8)
      · replace h := ite_pos h c20
        obtain ⟨g21, h⟩ := grd_some h
        refine s_iload_n X 1 rfl dX2_atByRides_20 ?_
        refine s_load0 X 2 rfl dX2_atByRides_21 ?_
        refine s_getR (id := (x + 1)) X fk_X2_9 (shLab hx) rfl dX2_atByRides_22 ?_
        refine s_iload_n X 0 rfl dX2_atByRides_25 ?_
        refine s_iald X (shLab1 hx) g21.1 g21.2.1 dX2_atByRides_26 ?_
        refine s_load0 X 2 rfl dX2_atByRides_27 ?_
        refine s_getR (id := 1) X fk_X2_18 (shLab hx) rfl dX2_atByRides_28 ?_
        refine s_getR (id := 16) X fk_X2_42 SHC_1 rfl dX2_atByRides_31 ?_
        refine s_iload_n X 0 rfl dX2_atByRides_34 ?_
        refine s_aaldI (id := (17 + stop_2.toNat)) X (by omega) (Or.inl rfl) SHC_16 g21.1 g21.2.1 dX2_atByRides_35 ?_
        refine s_iload_n X 3 rfl dX2_atByRides_36 ?_
        refine s_iald X (SHC_r17 g21.1 g21.2.1) g21.2.2.1 g21.2.2.2.1 dX2_atByRides_37 ?_
        refine s_iadd X g21.2.2.2.2 dX2_atByRides_38 ?_
        refine s_min X mm_X2_46 (Nat.le_of_ble_eq_true rfl) (Nat.le_of_ble_eq_true rfl) ⟨Nat.le_of_ble_eq_true rfl, Nat.le_of_ble_eq_true rfl⟩ dX2_atByRides_39 ?_
        obtain ⟨least_3, e22, h⟩ := ltv_elim h
        refine s_istore_n X e22 rfl (by omega) dX2_atByRides_42 ?_
        obtain ⟨g23, h⟩ := grd_some h
        obtain ⟨stop_3, e24, h⟩ := ltv_elim h
        refine s_iinc X 1 rfl g23 e24 rfl (by omega) dX2_atByRides_43 ?_
        refine s_goto (tgt := 9) X dX2_atByRides_46 (by omega) ?_
        exact ih9 _ _ (iter_next h hc8)
  exact LP10 _ _ _ hl15
set_option maxRecDepth 20000 in
set_option maxHeartbeats 4000000 in
theorem L_C_Search_collectPairs (G : Gl) (from_ : Int) (to_ : Int) (m : Mem) (r : Mem)  (h : C_Search_collectPairs from_ to_ m = some r) : Con SHC G yX6_collectPairs cX6_collectPairs 6 none rm_X6_collectPairs [VR 345, VI from_, VI to_] m (((.inl none, r) : Res × Mem)) := by
  refine con_of (own := "Lastbus$Search") (by decide) rfl (Nat.le_of_ble_eq_true rfl) (fun C X => ?_)
  obtain ⟨O, hO⟩ : ∃ O : Res × Mem, O = (((.inl none, r) : Res × Mem)) := ⟨_, rfl⟩
  rw [← hO]
  show J SHC G rm_X6_collectPairs (.inl O) C 0 0 0 [(0, VR 345), (1, VI from_), (2, VI to_)] [] m
  unfold C_Search_collectPairs at h
  refine s_load0 X 0 rfl dX6_collectPairs_0 ?_
  refine s_const X (by unfold InR; omega) dX6_collectPairs_1 ?_
  obtain ⟨m_, e2, h⟩ := ltv_elim h
  refine s_putI X e2 fp_X6_154 SHC_345 rfl trivial dX6_collectPairs_2 ?_
  refine s_const X (by unfold InR; omega) dX6_collectPairs_5 ?_
  obtain ⟨minute_, e4, h⟩ := ltv_elim h
  refine s_istore_n X e4 rfl (by omega) dX6_collectPairs_6 ?_
  refine s_const X (by unfold InR; omega) dX6_collectPairs_7 ?_
  obtain ⟨turn_, e6, h⟩ := ltv_elim h
  refine s_istore X e6 rfl (by omega) dX6_collectPairs_8 ?_
  obtain ⟨s14, hl16, h⟩ := br3_some h
  obtain ⟨fu70, hl17⟩ := loop_iter hl16
  have KR15 : ∀ q9 : Mem, .inr q9 = s14 → O = ((.inl none, q9) : Res × Mem) := by
    intro q9 e9
    subst e9
    replace h := brm3_inr h
    exact (by cases h; exact hO)
  have KX13 : ∀ q9 : Int × Int × Mem, .inl q9 = s14 → J SHC G rm_X6_collectPairs (.inl O) C 0 0 98 [(4, VI q9.2.1), (3, VI q9.1), (0, VR 345), (1, VI from_), (2, VI to_)] [] (q9.2.2) := by
    intro q9 e9
    subst e9
    obtain ⟨minute_4, turn_4, m_8⟩ := q9
    replace h := brm3_inl h
    show J SHC G rm_X6_collectPairs (.inl O) C 0 0 98 [(4, VI turn_4), (3, VI minute_4), (0, VR 345), (1, VI from_), (2, VI to_)] [] m_8
    exact s_vret X (Nat.le_of_ble_eq_true rfl) (Nat.le_of_ble_eq_true rfl) (by cases h; exact hO) dX6_collectPairs_98
  have LP12 : ∀ (fu7 : Nat) (minute_2 : Int) (turn_2 : Int) (m_2 : Mem), iter (fun s => C_Search_collectPairs_b1 from_ to_ s.1 s.2.1 s.2.2) fu7 (minute_2, turn_2, m_2) = some s14 → J SHC G rm_X6_collectPairs (.inl O) C 0 0 10 [(4, VI turn_2), (3, VI minute_2), (0, VR 345), (1, VI from_), (2, VI to_)] [] m_2 := by
    intro fu7
    induction fu7 with
    | zero => intro minute_2 turn_2 m_2 hn8; exact absurd hn8 (by simp [iter])
    | succ fu7 ih11 =>
      intro minute_2 turn_2 m_2 hn8
      obtain ⟨x9, h, hc10⟩ := iter_succ hn8
      replace h : C_Search_collectPairs_b1 from_ to_ minute_2 turn_2 m_2 = some x9 := h
      unfold C_Search_collectPairs_b1 at h
      refine s_iload X 0 rfl dX6_collectPairs_10 ?_
      refine s_sipush X (by omega) dX6_collectPairs_12 ?_
      refine s_icmpge_f (tgt := 98) X dX6_collectPairs_15 (by omega) (fun c21 => ?_) (fun c22 => ?_)
      · replace h := ite_neg h c21
        exact KX13 _ (iter_exit h hc10)
      · replace h := ite_pos h c22
        refine s_load0 X 2 rfl dX6_collectPairs_18 ?_
        refine s_iload_n X 3 rfl dX6_collectPairs_19 ?_
        refine s_iload_n X 1 rfl dX6_collectPairs_20 ?_
        obtain ⟨m_3, hq24, h⟩ := bnd_some h
        refine s_callV (As := [VI from_, VI minute_2]) X cw_X6_157 SHC_345 rfl dX6_collectPairs_21 (L_C_Search_scan G from_ minute_2 m_2 m_3 hq24) rfl ⟨Nat.le_of_ble_eq_true rfl, Nat.le_of_ble_eq_true rfl⟩ ⟨Nat.le_of_ble_eq_true rfl, Nat.le_of_ble_eq_true rfl⟩ (Nat.le_of_ble_eq_true rfl) noT (kkU ?_)
        refine s_load0 X 2 rfl dX6_collectPairs_24 ?_
        refine s_getR (id := 352) X fk_X6_44 SHC_345 rfl dX6_collectPairs_25 ?_
        refine s_iload_n X 4 rfl dX6_collectPairs_28 ?_
        obtain ⟨r_, hq28, h⟩ := bnd_some h
        refine s_callV (As := [VI to_]) X cw_X6_160 (shLab labS) rfl dX6_collectPairs_29 (L_C_Labels_atByRides G 352 to_ m_3 r_ labS hq28) rfl ⟨Nat.le_of_ble_eq_true rfl, Nat.le_of_ble_eq_true rfl⟩ ⟨Nat.le_of_ble_eq_true rfl, Nat.le_of_ble_eq_true rfl⟩ (Nat.le_of_ble_eq_true rfl) noT (kkR ?_)
        obtain ⟨by_, e31, h⟩ := ltv_elim h
        refine s_istore X e31 rfl (by omega) dX6_collectPairs_32 ?_
        refine s_iload X 0 rfl dX6_collectPairs_34 ?_
        refine s_ldc (z := 1000000) X (by unfold InR; omega) kc_X6_153 dX6_collectPairs_36 ?_
        refine s_icmplt_f (tgt := 42) X dX6_collectPairs_38 (by omega) (fun c35 => ?_) (fun c36 => ?_)
        · replace h := ite_neg h c35
          obtain ⟨g37, h⟩ := grd_some h
          refine s_load0 X 3 rfl dX6_collectPairs_42 ?_
          refine s_getR (id := 350) X fk_X6_25 SHC_345 rfl dX6_collectPairs_43 ?_
          refine s_load0 X 3 rfl dX6_collectPairs_46 ?_
          refine s_getI X fk_X6_154 SHC_345 rfl dX6_collectPairs_47 ?_
          refine s_load0 X 3 rfl dX6_collectPairs_50 ?_
          refine s_iload_n X 4 rfl dX6_collectPairs_51 ?_
          refine s_iload_n X 5 rfl dX6_collectPairs_52 ?_
          refine s_iload X 0 rfl dX6_collectPairs_53 ?_
          obtain ⟨r_2, m_4, hq38, h⟩ := bq2_some h
          refine s_callV (As := [VI from_, VI to_, VI by_]) X cw_X6_104 SHC_345 rfl dX6_collectPairs_55 (L_C_Search_lastLeaveByRides G from_ to_ by_ m_3 (r_2, m_4) hq38) rfl ⟨Nat.le_of_ble_eq_true rfl, Nat.le_of_ble_eq_true rfl⟩ ⟨Nat.le_of_ble_eq_true rfl, Nat.le_of_ble_eq_true rfl⟩ (Nat.le_of_ble_eq_true rfl) noT (kkR ?_)
          obtain ⟨m_5, e41, h⟩ := ltv_elim h
          refine s_iast X e41 SHC_350 g37.1 g37.2 dX6_collectPairs_58 ?_
          obtain ⟨g42, h⟩ := grd_some h
          refine s_load0 X 3 rfl dX6_collectPairs_59 ?_
          refine s_getR (id := 351) X fk_X6_28 SHC_345 rfl dX6_collectPairs_60 ?_
          refine s_load0 X 3 rfl dX6_collectPairs_63 ?_
          refine s_getI X fk_X6_154 SHC_345 rfl dX6_collectPairs_64 ?_
          refine s_iload X 0 rfl dX6_collectPairs_67 ?_
          obtain ⟨m_6, e43, h⟩ := ltv_elim h
          refine s_iast X e43 SHC_351 g42.1 g42.2 dX6_collectPairs_69 ?_
          obtain ⟨g44, h⟩ := grd_some h
          refine s_load0 X 3 rfl dX6_collectPairs_70 ?_
          refine s_getR (id := 350) X fk_X6_25 SHC_345 rfl dX6_collectPairs_71 ?_
          refine s_load0 X 3 rfl dX6_collectPairs_74 ?_
          refine s_getI X fk_X6_154 SHC_345 rfl dX6_collectPairs_75 ?_
          refine s_iald X SHC_350 g44.1 g44.2.1 dX6_collectPairs_78 ?_
          refine s_const X (by unfold InR; omega) dX6_collectPairs_79 ?_
          refine s_iadd X g44.2.2 dX6_collectPairs_80 ?_
          obtain ⟨minute_3, e45, h⟩ := ltv_elim h
          refine s_istore_n X e45 rfl (by omega) dX6_collectPairs_81 ?_
          obtain ⟨g46, h⟩ := grd_some h
          refine s_load0 X 3 rfl dX6_collectPairs_82 ?_
          refine s_dup X rfl dX6_collectPairs_83 ?_
          refine s_getI X fk_X6_154 SHC_345 rfl dX6_collectPairs_84 ?_
          refine s_const X (by unfold InR; omega) dX6_collectPairs_87 ?_
          refine s_iadd X g46 dX6_collectPairs_88 ?_
          obtain ⟨m_7, e47, h⟩ := ltv_elim h
          refine s_putI X e47 fp_X6_154 SHC_345 rfl trivial dX6_collectPairs_89 ?_
          obtain ⟨g48, h⟩ := grd_some h
          obtain ⟨turn_3, e49, h⟩ := ltv_elim h
          refine s_iinc X 2 rfl g48 e49 rfl (by omega) dX6_collectPairs_92 ?_
          refine s_goto (tgt := 10) X dX6_collectPairs_95 (by omega) ?_
          refine s_loc [0, 1, 3, 4, 5] rfl ?_
          exact ih11 _ _ _ (iter_next h hc10)
        · replace h := ite_pos h c36
          exact s_vret X (Nat.le_of_ble_eq_true rfl) (Nat.le_of_ble_eq_true rfl) (KR15 _ (iter_exit h hc10)) dX6_collectPairs_41
  exact LP12 _ _ _ _ hl17
set_option maxRecDepth 20000 in
set_option maxHeartbeats 4000000 in
theorem L_C_findPairs (G : Gl) (from_ : Int) (to_ : Int) (day_ : Int) (m : Mem) (r : ((Unit ⊕ Nat) × Mem))  (h : C_findPairs from_ to_ day_ m = some r) : Con SHC G yX11_findPairs cX11_findPairs 4 none rm_X11_findPairs [VR 0, VI from_, VI to_, VI day_] m (oT wU r) := by
  refine con_of (own := "Lastbus") (by decide) rfl (Nat.le_of_ble_eq_true rfl) (fun C X => ?_)
  obtain ⟨O, hO⟩ : ∃ O : Res × Mem, O = (oT wU r) := ⟨_, rfl⟩
  rw [← hO]
  show J SHC G rm_X11_findPairs (.inl O) C 0 0 0 [(0, VR 0), (1, VI from_), (2, VI to_), (3, VI day_)] [] m
  unfold C_findPairs at h
  refine s_load0 X 0 rfl dX11_findPairs_0 ?_
  refine s_iload_n X 1 rfl dX11_findPairs_1 ?_
  obtain ⟨q3, hq2, h⟩ := bnd_some h
  refine s_callV (As := [VI from_]) X cw_X11_107 SHC_0 rfl dX11_findPairs_2 (L_C_needStop G from_ m q3 hq2) rfl ⟨Nat.le_of_ble_eq_true rfl, Nat.le_of_ble_eq_true rfl⟩ ⟨Nat.le_of_ble_eq_true rfl, Nat.le_of_ble_eq_true rfl⟩ (Nat.le_of_ble_eq_true rfl) (thr_up hO h) (kkT fun u_ m_ e9 => ?_)
  subst e9
  replace h := tbd_inl h
  refine s_load0 X 0 rfl dX11_findPairs_5 ?_
  refine s_iload_n X 2 rfl dX11_findPairs_6 ?_
  obtain ⟨q7, hq6, h⟩ := bnd_some h
  refine s_callV (As := [VI to_]) X cw_X11_107 SHC_0 rfl dX11_findPairs_7 (L_C_needStop G to_ m_ q7 hq6) rfl ⟨Nat.le_of_ble_eq_true rfl, Nat.le_of_ble_eq_true rfl⟩ ⟨Nat.le_of_ble_eq_true rfl, Nat.le_of_ble_eq_true rfl⟩ (Nat.le_of_ble_eq_true rfl) (thr_up hO h) (kkT fun u_2 m_2 e9 => ?_)
  subst e9
  replace h := tbd_inl h
  refine s_iload_n X 1 rfl dX11_findPairs_10 ?_
  refine s_iload_n X 2 rfl dX11_findPairs_11 ?_
  obtain ⟨q11, hq10, h⟩ := bnd_some h
  refine s_callS (As := [VI from_, VI to_]) X cw_X11_115 dX11_findPairs_12 (L_C_needUnlike G from_ to_ m_2 q11 hq10) rfl ⟨Nat.le_of_ble_eq_true rfl, Nat.le_of_ble_eq_true rfl⟩ ⟨Nat.le_of_ble_eq_true rfl, Nat.le_of_ble_eq_true rfl⟩ (Nat.le_of_ble_eq_true rfl) (thr_up hO h) (kkT fun u_3 m_3 e9 => ?_)
  subst e9
  replace h := tbd_inl h
  refine s_iload_n X 3 rfl dX11_findPairs_15 ?_
  obtain ⟨q15, hq14, h⟩ := bnd_some h
  refine s_callS (As := [VI day_]) X cw_X11_140 dX11_findPairs_16 (L_C_needDay G day_ m_3 q15 hq14) rfl ⟨Nat.le_of_ble_eq_true rfl, Nat.le_of_ble_eq_true rfl⟩ ⟨Nat.le_of_ble_eq_true rfl, Nat.le_of_ble_eq_true rfl⟩ (Nat.le_of_ble_eq_true rfl) (thr_up hO h) (kkT fun u_4 m_4 e9 => ?_)
  subst e9
  replace h := tbd_inl h
  refine s_load0 X 0 rfl dX11_findPairs_19 ?_
  refine s_getR (id := 119) X fk_X11_49 SHC_0 rfl dX11_findPairs_20 ?_
  refine s_iload_n X 3 rfl dX11_findPairs_23 ?_
  refine s_const X (by unfold InR; omega) dX11_findPairs_24 ?_
  refine s_const X (by unfold InR; omega) dX11_findPairs_25 ?_
  obtain ⟨m_5, hq18, h⟩ := bnd_some h
  refine s_callV (As := [VI day_, VI (-1), VI 0]) X cw_X11_280 SHC_119 rfl dX11_findPairs_26 (L_C_Net_lay G day_ (-1) 0 m_4 m_5 hq18) rfl ⟨Nat.le_of_ble_eq_true rfl, Nat.le_of_ble_eq_true rfl⟩ ⟨Nat.le_of_ble_eq_true rfl, Nat.le_of_ble_eq_true rfl⟩ (Nat.le_of_ble_eq_true rfl) noT (kkU ?_)
  refine s_load0 X 0 rfl dX11_findPairs_29 ?_
  refine s_getR (id := 345) X fk_X11_58 SHC_0 rfl dX11_findPairs_30 ?_
  refine s_iload_n X 1 rfl dX11_findPairs_33 ?_
  refine s_iload_n X 2 rfl dX11_findPairs_34 ?_
  obtain ⟨m_6, hq22, h⟩ := bnd_some h
  refine s_callV (As := [VI from_, VI to_]) X cw_X11_352 SHC_345 rfl dX11_findPairs_35 (L_C_Search_collectPairs G from_ to_ m_5 m_6 hq22) rfl ⟨Nat.le_of_ble_eq_true rfl, Nat.le_of_ble_eq_true rfl⟩ ⟨Nat.le_of_ble_eq_true rfl, Nat.le_of_ble_eq_true rfl⟩ (Nat.le_of_ble_eq_true rfl) noT (kkU ?_)
  exact s_vret X (Nat.le_of_ble_eq_true rfl) (Nat.le_of_ble_eq_true rfl) (by cases h; exact hO) dX11_findPairs_38
set_option maxRecDepth 20000 in
set_option maxHeartbeats 4000000 in
theorem L_C_pairs (G : Gl) (from_ : Int) (to_ : Int) (day_ : Int) (m : Mem) (r : ((Int ⊕ Nat) × Mem))  (h : C_pairs from_ to_ day_ m = some r) : Con SHC G yX11_pairs cX11_pairs 4 (some .int) rm_X11_pairs [VR 0, VI from_, VI to_, VI day_] m (oT wI r) := by
  refine con_of (own := "Lastbus") (by decide) rfl (Nat.le_of_ble_eq_true rfl) (fun C X => ?_)
  obtain ⟨O, hO⟩ : ∃ O : Res × Mem, O = (oT wI r) := ⟨_, rfl⟩
  rw [← hO]
  show J SHC G rm_X11_pairs (.inl O) C 0 0 0 [(0, VR 0), (1, VI from_), (2, VI to_), (3, VI day_)] [] m
  unfold C_pairs at h
  refine s_load0 X 0 rfl dX11_pairs_0 ?_
  refine s_iload_n X 1 rfl dX11_pairs_1 ?_
  refine s_iload_n X 2 rfl dX11_pairs_2 ?_
  refine s_iload_n X 3 rfl dX11_pairs_3 ?_
  obtain ⟨q3, hq2, h⟩ := bnd_some h
  refine s_callV (As := [VI from_, VI to_, VI day_]) X cw_X11_338 SHC_0 rfl dX11_pairs_4 (L_C_findPairs G from_ to_ day_ m q3 hq2) rfl ⟨Nat.le_of_ble_eq_true rfl, Nat.le_of_ble_eq_true rfl⟩ ⟨Nat.le_of_ble_eq_true rfl, Nat.le_of_ble_eq_true rfl⟩ (Nat.le_of_ble_eq_true rfl) (thr_up hO h) (kkT fun u_ m_ e9 => ?_)
  subst e9
  replace h := tbd_inl h
  refine s_load0 X 0 rfl dX11_pairs_7 ?_
  refine s_getR (id := 345) X fk_X11_58 SHC_0 rfl dX11_pairs_8 ?_
  refine s_getI X fk_X11_341 SHC_345 rfl dX11_pairs_11 ?_
  exact s_iret X (Nat.le_of_ble_eq_true rfl) (Nat.le_of_ble_eq_true rfl) (by cases h; exact hO) dX11_pairs_14
set_option maxRecDepth 20000 in
set_option maxHeartbeats 4000000 in
theorem L_C_pair (G : Gl) (from_ : Int) (to_ : Int) (day_ : Int) (index_ : Int) (isArrival_ : Int) (m : Mem) (r : ((Int ⊕ Nat) × Mem))  (h : C_pair from_ to_ day_ index_ isArrival_ m = some r) : Con SHC G yX11_pair cX11_pair 6 (some .int) rm_X11_pair [VR 0, VI from_, VI to_, VI day_, VI index_, VI isArrival_] m (oT wI r) := by
  refine con_of (own := "Lastbus") (by decide) rfl (Nat.le_of_ble_eq_true rfl) (fun C X => ?_)
  obtain ⟨O, hO⟩ : ∃ O : Res × Mem, O = (oT wI r) := ⟨_, rfl⟩
  rw [← hO]
  show J SHC G rm_X11_pair (.inl O) C 0 0 0 [(0, VR 0), (1, VI from_), (2, VI to_), (3, VI day_), (4, VI index_), (5, VI isArrival_)] [] m
  unfold C_pair at h
  refine s_load0 X 0 rfl dX11_pair_0 ?_
  refine s_iload_n X 1 rfl dX11_pair_1 ?_
  refine s_iload_n X 2 rfl dX11_pair_2 ?_
  refine s_iload_n X 3 rfl dX11_pair_3 ?_
  obtain ⟨q3, hq2, h⟩ := bnd_some h
  refine s_callV (As := [VI from_, VI to_, VI day_]) X cw_X11_338 SHC_0 rfl dX11_pair_4 (L_C_findPairs G from_ to_ day_ m q3 hq2) rfl ⟨Nat.le_of_ble_eq_true rfl, Nat.le_of_ble_eq_true rfl⟩ ⟨Nat.le_of_ble_eq_true rfl, Nat.le_of_ble_eq_true rfl⟩ (Nat.le_of_ble_eq_true rfl) (thr_up hO h) (kkT fun u_ m_ e9 => ?_)
  subst e9
  replace h := tbd_inl h
  have kT6 : (index_ < 0) ∨ (m_ 345 7 ≤ index_) → J SHC G rm_X11_pair (.inl O) C 4 24 24 [(0, VR 0), (1, VI from_), (2, VI to_), (3, VI day_), (4, VI index_), (5, VI isArrival_)] [] m_ := by
    intro c10
    replace h := ite_pos h c10
    exact s_throwNW X th_X11_168_344_172 (by cases h; exact hO) (Nat.le_of_ble_eq_true rfl) (Nat.le_of_ble_eq_true rfl) (Nat.le_of_ble_eq_true rfl) (Nat.le_of_ble_eq_true rfl) dX11_pair_24 dX11_pair_27 dX11_pair_28 dX11_pair_31 dX11_pair_34
  refine s_iload X 4 rfl dX11_pair_7 ?_
  refine s_iflt_t (tgt := 24) X dX11_pair_9 (by omega) (fun c8 => ?_) (fun c9 => ?_)
  · exact kT6 (Or.inl c8)
  · have a11 : ¬ (index_ < 0) := c9
    refine s_iload X 4 rfl dX11_pair_12 ?_
    refine s_load0 X 0 rfl dX11_pair_14 ?_
    refine s_getR (id := 345) X fk_X11_58 SHC_0 rfl dX11_pair_15 ?_
    refine s_getI X fk_X11_341 SHC_345 rfl dX11_pair_18 ?_
    refine s_icmplt_f (tgt := 35) X dX11_pair_21 (by omega) (fun c12 => ?_) (fun c13 => ?_)
    · replace h := ite_neg h (fun q => q.elim a11 c12)
      obtain ⟨g14, h⟩ := grd_some h
      have kM15 : J SHC G rm_X11_pair (.inl O) C 4 24 63 [(0, VR 0), (1, VI from_), (2, VI to_), (3, VI day_), (4, VI index_), (5, VI isArrival_)] [VI (if ¬ isArrival_ = 0 then m_ 351 index_.toNat else m_ 350 index_.toNat)] m_ := by
        exact s_iret X (Nat.le_of_ble_eq_true rfl) (Nat.le_of_ble_eq_true rfl) (by cases h; exact hO) dX11_pair_63
      refine s_iload X 5 rfl dX11_pair_35 ?_
      refine s_ifeq_f (tgt := 53) X dX11_pair_37 (by omega) (fun c16 => ?_) (fun c17 => ?_)
      · refine s_load0 X 0 rfl dX11_pair_53 ?_
        refine s_getR (id := 345) X fk_X11_58 SHC_0 rfl dX11_pair_54 ?_
        refine s_getR (id := 350) X fk_X11_349 SHC_345 rfl dX11_pair_57 ?_
        refine s_iload X 4 rfl dX11_pair_60 ?_
        refine s_iald X SHC_350 (g14.1 c16) (g14.2.1 c16) dX11_pair_62 ?_
        exact s_eqt (if_neg c16) kM15
      · refine s_load0 X 0 rfl dX11_pair_40 ?_
        refine s_getR (id := 345) X fk_X11_58 SHC_0 rfl dX11_pair_41 ?_
        refine s_getR (id := 351) X fk_X11_346 SHC_345 rfl dX11_pair_44 ?_
        refine s_iload X 4 rfl dX11_pair_47 ?_
        refine s_iald X SHC_351 (g14.2.2.1 c17) (g14.2.2.2 c17) dX11_pair_49 ?_
        refine s_goto (tgt := 63) X dX11_pair_50 (by omega) ?_
        exact s_eqt (if_pos c17) kM15
    · exact kT6 (Or.inr c13)
set_option maxRecDepth 20000 in
set_option maxHeartbeats 4000000 in
theorem L_C_Search_pairArrivalFrom (G : Gl) (minute_ : Int) (m : Mem) (r : Int)  (h : C_Search_pairArrivalFrom minute_ m = some r) : Con SHC G yX6_pairArrivalFrom cX6_pairArrivalFrom 6 (some .int) rm_X6_pairArrivalFrom [VR 345, VI minute_] m (((.inl (some (VI r)), m) : Res × Mem)) := by
  refine con_of (own := "Lastbus$Search") (by decide) rfl (Nat.le_of_ble_eq_true rfl) (fun C X => ?_)
  obtain ⟨O, hO⟩ : ∃ O : Res × Mem, O = (((.inl (some (VI r)), m) : Res × Mem)) := ⟨_, rfl⟩
  rw [← hO]
  show J SHC G rm_X6_pairArrivalFrom (.inl O) C 0 0 0 [(0, VR 345), (1, VI minute_)] [] m
  unfold C_Search_pairArrivalFrom at h
  refine s_const X (by unfold InR; omega) dX6_pairArrivalFrom_0 ?_
  obtain ⟨low_, e2, h⟩ := ltv_elim h
  refine s_istore_n X e2 rfl (by omega) dX6_pairArrivalFrom_1 ?_
  refine s_load0 X 1 rfl dX6_pairArrivalFrom_2 ?_
  refine s_getI X fk_X6_154 SHC_345 rfl dX6_pairArrivalFrom_3 ?_
  obtain ⟨high_, e4, h⟩ := ltv_elim h
  refine s_istore_n X e4 rfl (by omega) dX6_pairArrivalFrom_6 ?_
  refine s_const X (by unfold InR; omega) dX6_pairArrivalFrom_7 ?_
  obtain ⟨turn_, e6, h⟩ := ltv_elim h
  refine s_istore X e6 rfl (by omega) dX6_pairArrivalFrom_8 ?_
  obtain ⟨low_4, high_4, turn_5, hl16, h⟩ := bq3_some h
  obtain ⟨fu70, hl17⟩ := loop_iter hl16
  have KX13 : ∀ q9 : Int × Int × Int, q9 = (low_4, high_4, turn_5) → J SHC G rm_X6_pairArrivalFrom (.inl O) C 0 0 58 [(4, VI q9.2.2), (3, VI q9.2.1), (2, VI q9.1), (0, VR 345), (1, VI minute_)] [] m := by
    intro q9 e9
    subst e9
    show J SHC G rm_X6_pairArrivalFrom (.inl O) C 0 0 58 [(4, VI turn_5), (3, VI high_4), (2, VI low_4), (0, VR 345), (1, VI minute_)] [] m
    obtain ⟨g42, h⟩ := grd_some h
    have kM43 : J SHC G rm_X6_pairArrivalFrom (.inl O) C 0 0 77 [(4, VI turn_5), (3, VI high_4), (2, VI low_4), (0, VR 345), (1, VI minute_)] [VI (if low_4 < m 345 7 then m 351 low_4.toNat else 1000000)] m := by
      exact s_iret X (Nat.le_of_ble_eq_true rfl) (Nat.le_of_ble_eq_true rfl) (by cases h; exact hO) dX6_pairArrivalFrom_77
    refine s_iload_n X 2 rfl dX6_pairArrivalFrom_58 ?_
    refine s_load0 X 3 rfl dX6_pairArrivalFrom_59 ?_
    refine s_getI X fk_X6_154 SHC_345 rfl dX6_pairArrivalFrom_60 ?_
    refine s_icmpge_f (tgt := 75) X dX6_pairArrivalFrom_63 (by omega) (fun c44 => ?_) (fun c45 => ?_)
    · refine s_ldc (z := 1000000) X (by unfold InR; omega) kc_X6_153 dX6_pairArrivalFrom_75 ?_
      exact s_eqt (if_neg c44) kM43
    · refine s_load0 X 3 rfl dX6_pairArrivalFrom_66 ?_
      refine s_getR (id := 351) X fk_X6_28 SHC_345 rfl dX6_pairArrivalFrom_67 ?_
      refine s_iload_n X 2 rfl dX6_pairArrivalFrom_70 ?_
      refine s_iald X SHC_351 (g42.1 c45) (g42.2 c45) dX6_pairArrivalFrom_71 ?_
      refine s_goto (tgt := 77) X dX6_pairArrivalFrom_72 (by omega) ?_
      exact s_eqt (if_pos c45) kM43
  have LP12 : ∀ (fu7 : Nat) (low_2 : Int) (high_2 : Int) (turn_2 : Int), iter (fun s => C_Search_pairArrivalFrom_b1 minute_ m s.1 s.2.1 s.2.2) fu7 (low_2, high_2, turn_2) = some (low_4, high_4, turn_5) → J SHC G rm_X6_pairArrivalFrom (.inl O) C 0 0 10 [(4, VI turn_2), (3, VI high_2), (2, VI low_2), (0, VR 345), (1, VI minute_)] [] m := by
    intro fu7
    induction fu7 with
    | zero => intro low_2 high_2 turn_2 hn8; exact absurd hn8 (by simp [iter])
    | succ fu7 ih11 =>
      intro low_2 high_2 turn_2 hn8
      obtain ⟨x9, h, hc10⟩ := iter_succ hn8
      replace h : C_Search_pairArrivalFrom_b1 minute_ m low_2 high_2 turn_2 = some x9 := h
      unfold C_Search_pairArrivalFrom_b1 at h
      have kF20 : ¬ ((turn_2 < 576) ∧ (low_2 < high_2)) → J SHC G rm_X6_pairArrivalFrom (.inl O) C 0 0 58 [(4, VI turn_2), (3, VI high_2), (2, VI low_2), (0, VR 345), (1, VI minute_)] [] m := by
        intro c23
        replace h := ite_neg h c23
        exact KX13 _ (iter_exit h hc10)
      refine s_iload X 0 rfl dX6_pairArrivalFrom_10 ?_
      refine s_sipush X (by omega) dX6_pairArrivalFrom_12 ?_
      refine s_icmpge_f (tgt := 58) X dX6_pairArrivalFrom_15 (by omega) (fun c21 => ?_) (fun c22 => ?_)
      · exact kF20 (fun q => c21 q.1)
      · have a24 : turn_2 < 576 := c22
        refine s_iload_n X 2 rfl dX6_pairArrivalFrom_18 ?_
        refine s_iload_n X 1 rfl dX6_pairArrivalFrom_19 ?_
        refine s_icmpge_f (tgt := 58) X dX6_pairArrivalFrom_20 (by omega) (fun c25 => ?_) (fun c26 => ?_)
        · exact kF20 (fun q => c25 q.2)
        · replace h := ite_pos h ⟨a24, c26⟩
          obtain ⟨g27, h⟩ := grd_some h
          refine s_iload_n X 2 rfl dX6_pairArrivalFrom_23 ?_
          refine s_iload_n X 1 rfl dX6_pairArrivalFrom_24 ?_
          refine s_iadd X g27 dX6_pairArrivalFrom_25 ?_
          refine s_const X (by unfold InR; omega) dX6_pairArrivalFrom_26 ?_
          refine s_idiv X (by omega) dX6_pairArrivalFrom_27 ?_
          obtain ⟨middle_, e28, h⟩ := ltv_elim h
          refine s_istore X e28 rfl (by omega) dX6_pairArrivalFrom_28 ?_
          obtain ⟨g29, h⟩ := grd_some h
          refine s_load0 X 4 rfl dX6_pairArrivalFrom_30 ?_
          refine s_getR (id := 350) X fk_X6_25 SHC_345 rfl dX6_pairArrivalFrom_31 ?_
          refine s_iload X 0 rfl dX6_pairArrivalFrom_34 ?_
          refine s_iald X SHC_350 g29.1 g29.2 dX6_pairArrivalFrom_36 ?_
          refine s_iload_n X 5 rfl dX6_pairArrivalFrom_37 ?_
          refine s_icmpge_f (tgt := 49) X dX6_pairArrivalFrom_38 (by omega) (fun c32 => ?_) (fun c33 => ?_)
          · replace h := ite_neg h c32
            refine s_iload X 0 rfl dX6_pairArrivalFrom_49 ?_
            obtain ⟨high_3, e35, h⟩ := ltv_elim h
            refine s_istore_n X e35 rfl (by omega) dX6_pairArrivalFrom_51 ?_
            obtain ⟨g36, h⟩ := grd_some h
            obtain ⟨turn_3, e37, h⟩ := ltv_elim h
            refine s_iinc X 2 rfl g36 e37 rfl (by omega) dX6_pairArrivalFrom_52 ?_
            refine s_goto (tgt := 10) X dX6_pairArrivalFrom_55 (by omega) ?_
            refine s_loc [0, 1, 3, 4, 5] rfl ?_
            exact ih11 _ _ _ (iter_next h hc10)
          · replace h := ite_pos h c33
            obtain ⟨g38, h⟩ := grd_some h
            refine s_iload X 0 rfl dX6_pairArrivalFrom_41 ?_
            refine s_const X (by unfold InR; omega) dX6_pairArrivalFrom_43 ?_
            refine s_iadd X g38 dX6_pairArrivalFrom_44 ?_
            obtain ⟨low_3, e39, h⟩ := ltv_elim h
            refine s_istore_n X e39 rfl (by omega) dX6_pairArrivalFrom_45 ?_
            refine s_goto (tgt := 52) X dX6_pairArrivalFrom_46 (by omega) ?_
            obtain ⟨g40, h⟩ := grd_some h
            obtain ⟨turn_4, e41, h⟩ := ltv_elim h
            refine s_iinc X 2 rfl g40 e41 rfl (by omega) dX6_pairArrivalFrom_52 ?_
            refine s_goto (tgt := 10) X dX6_pairArrivalFrom_55 (by omega) ?_
            refine s_loc [0, 3, 1, 4, 5] rfl ?_
            exact ih11 _ _ _ (iter_next h hc10)
  exact LP12 _ _ _ _ hl17
set_option maxRecDepth 20000 in
set_option maxHeartbeats 4000000 in
theorem L_C_byPairs (G : Gl) (from_ : Int) (to_ : Int) (day_ : Int) (minute_ : Int) (m : Mem) (r : ((Int ⊕ Nat) × Mem))  (h : C_byPairs from_ to_ day_ minute_ m = some r) : Con SHC G yX11_byPairs cX11_byPairs 6 (some .int) rm_X11_byPairs [VR 0, VI from_, VI to_, VI day_, VI minute_] m (oT wI r) := by
  refine con_of (own := "Lastbus") (by decide) rfl (Nat.le_of_ble_eq_true rfl) (fun C X => ?_)
  obtain ⟨O, hO⟩ : ∃ O : Res × Mem, O = (oT wI r) := ⟨_, rfl⟩
  rw [← hO]
  show J SHC G rm_X11_byPairs (.inl O) C 0 0 0 [(0, VR 0), (1, VI from_), (2, VI to_), (3, VI day_), (4, VI minute_)] [] m
  unfold C_byPairs at h
  refine s_load0 X 0 rfl dX11_byPairs_0 ?_
  refine s_iload_n X 1 rfl dX11_byPairs_1 ?_
  refine s_iload_n X 2 rfl dX11_byPairs_2 ?_
  refine s_iload_n X 3 rfl dX11_byPairs_3 ?_
  refine s_iload X 4 rfl dX11_byPairs_4 ?_
  obtain ⟨q3, hq2, h⟩ := bnd_some h
  refine s_callV (As := [VI from_, VI to_, VI day_, VI minute_]) X cw_X11_277 SHC_0 rfl dX11_byPairs_6 (L_C_needWay G from_ to_ day_ minute_ m q3 hq2) rfl ⟨Nat.le_of_ble_eq_true rfl, Nat.le_of_ble_eq_true rfl⟩ ⟨Nat.le_of_ble_eq_true rfl, Nat.le_of_ble_eq_true rfl⟩ (Nat.le_of_ble_eq_true rfl) (thr_up hO h) (kkT fun u_ m_ e9 => ?_)
  subst e9
  replace h := tbd_inl h
  refine s_iload_n X 1 rfl dX11_byPairs_9 ?_
  refine s_iload_n X 2 rfl dX11_byPairs_10 ?_
  refine s_icmpne_f (tgt := 17) X dX11_byPairs_11 (by omega) (fun c8 => ?_) (fun c9 => ?_)
  · replace h := ite_neg h c8
    refine s_load0 X 0 rfl dX11_byPairs_17 ?_
    refine s_getR (id := 119) X fk_X11_49 SHC_0 rfl dX11_byPairs_18 ?_
    refine s_iload_n X 3 rfl dX11_byPairs_21 ?_
    refine s_const X (by unfold InR; omega) dX11_byPairs_22 ?_
    refine s_const X (by unfold InR; omega) dX11_byPairs_23 ?_
    obtain ⟨m_2, hq11, h⟩ := bnd_some h
    refine s_callV (As := [VI day_, VI (-1), VI 0]) X cw_X11_280 SHC_119 rfl dX11_byPairs_24 (L_C_Net_lay G day_ (-1) 0 m_ m_2 hq11) rfl ⟨Nat.le_of_ble_eq_true rfl, Nat.le_of_ble_eq_true rfl⟩ ⟨Nat.le_of_ble_eq_true rfl, Nat.le_of_ble_eq_true rfl⟩ (Nat.le_of_ble_eq_true rfl) noT (kkU ?_)
    refine s_load0 X 0 rfl dX11_byPairs_27 ?_
    refine s_getR (id := 345) X fk_X11_58 SHC_0 rfl dX11_byPairs_28 ?_
    refine s_iload_n X 1 rfl dX11_byPairs_31 ?_
    refine s_iload_n X 2 rfl dX11_byPairs_32 ?_
    obtain ⟨m_3, hq15, h⟩ := bnd_some h
    refine s_callV (As := [VI from_, VI to_]) X cw_X11_352 SHC_345 rfl dX11_byPairs_33 (L_C_Search_collectPairs G from_ to_ m_2 m_3 hq15) rfl ⟨Nat.le_of_ble_eq_true rfl, Nat.le_of_ble_eq_true rfl⟩ ⟨Nat.le_of_ble_eq_true rfl, Nat.le_of_ble_eq_true rfl⟩ (Nat.le_of_ble_eq_true rfl) noT (kkU ?_)
    refine s_load0 X 0 rfl dX11_byPairs_36 ?_
    refine s_getR (id := 345) X fk_X11_58 SHC_0 rfl dX11_byPairs_37 ?_
    refine s_iload X 4 rfl dX11_byPairs_40 ?_
    obtain ⟨r_, hq19, h⟩ := bnd_some h
    refine s_callV (As := [VI minute_]) X cw_X11_355 SHC_345 rfl dX11_byPairs_42 (L_C_Search_pairArrivalFrom G minute_ m_3 r_ hq19) rfl ⟨Nat.le_of_ble_eq_true rfl, Nat.le_of_ble_eq_true rfl⟩ ⟨Nat.le_of_ble_eq_true rfl, Nat.le_of_ble_eq_true rfl⟩ (Nat.le_of_ble_eq_true rfl) noT (kkR ?_)
    obtain ⟨g21, h⟩ := grd_some h
    refine s_iload X 4 rfl dX11_byPairs_45 ?_
    refine s_load0 X 0 rfl dX11_byPairs_47 ?_
    refine s_getR (id := 1) X fk_X11_12 SHC_0 rfl dX11_byPairs_48 ?_
    refine s_getR (id := 16) X fk_X11_125 SHC_1 rfl dX11_byPairs_51 ?_
    refine s_iload_n X 1 rfl dX11_byPairs_54 ?_
    refine s_aaldI (id := (17 + from_.toNat)) X (by omega) (Or.inl rfl) SHC_16 g21.1 g21.2.1 dX11_byPairs_55 ?_
    refine s_iload_n X 2 rfl dX11_byPairs_56 ?_
    refine s_iald X (SHC_r17 g21.1 g21.2.1) g21.2.2.1 g21.2.2.2.1 dX11_byPairs_57 ?_
    refine s_iadd X g21.2.2.2.2 dX11_byPairs_58 ?_
    refine s_min X mm_X11_358 (Nat.le_of_ble_eq_true rfl) (Nat.le_of_ble_eq_true rfl) ⟨Nat.le_of_ble_eq_true rfl, Nat.le_of_ble_eq_true rfl⟩ dX11_byPairs_59 ?_
    obtain ⟨found_, e22, h⟩ := ltv_elim h
    refine s_istore X e22 rfl (by omega) dX11_byPairs_62 ?_
    refine s_iload X 0 rfl dX11_byPairs_64 ?_
    obtain ⟨q25, hq24, h⟩ := bnd_some h
    refine s_callS (As := [VI found_]) X cw_X11_128 dX11_byPairs_66 (L_C_needFound G found_ m_3 q25 hq24) rfl ⟨Nat.le_of_ble_eq_true rfl, Nat.le_of_ble_eq_true rfl⟩ ⟨Nat.le_of_ble_eq_true rfl, Nat.le_of_ble_eq_true rfl⟩ (Nat.le_of_ble_eq_true rfl) (thr_up hO h) (kkT fun u_2 m_4 e9 => ?_)
    subst e9
    replace h := tbd_inl h
    refine s_iload X 0 rfl dX11_byPairs_69 ?_
    exact s_iret X (Nat.le_of_ble_eq_true rfl) (Nat.le_of_ble_eq_true rfl) (by cases h; exact hO) dX11_byPairs_71
  · replace h := ite_pos h c9
    refine s_iload X 4 rfl dX11_byPairs_14 ?_
    exact s_iret X (Nat.le_of_ble_eq_true rfl) (Nat.le_of_ble_eq_true rfl) (by cases h; exact hO) dX11_byPairs_16
set_option maxRecDepth 20000 in
set_option maxHeartbeats 4000000 in
theorem L_C_Rounds_isChoice (G : Gl) (round_ : Int) (to_ : Int) (m : Mem) (r : Int)  (h : C_Rounds_isChoice round_ to_ m = some r) : Con SHC G yX4_isChoice cX4_isChoice 4 (some .boolean) rm_X4_isChoice [VR 355, VI round_, VI to_] m (((.inl (some (VI r)), m) : Res × Mem)) := by
  refine con_of (own := "Lastbus$Rounds") (by decide) rfl (Nat.le_of_ble_eq_true rfl) (fun C X => ?_)
  obtain ⟨O, hO⟩ : ∃ O : Res × Mem, O = (((.inl (some (VI r)), m) : Res × Mem)) := ⟨_, rfl⟩
  rw [← hO]
  show J SHC G rm_X4_isChoice (.inl O) C 0 0 0 [(0, VR 355), (1, VI round_), (2, VI to_)] [] m
  unfold C_Rounds_isChoice at h
  obtain ⟨kj_, hk2, h⟩ := ltv_elim h
  have K3 : ∀ (v_ : Int), kj_ v_ = some r → J SHC G rm_X4_isChoice (.inl O) C 0 0 21 [(0, VR 355), (1, VI round_), (2, VI to_)] [VI v_] m := by
    intro v_ h
    subst hk2
    dsimp only at h
    obtain ⟨fewer_, e14, h⟩ := ltv_elim h
    refine s_istore_n X e14 rfl (by omega) dX4_isChoice_21 ?_
    obtain ⟨g15, h⟩ := grd_some h
    refine s_load0 X 1 rfl dX4_isChoice_22 ?_
    refine s_getR (id := 356) X fk_X4_11 SHC_355 rfl dX4_isChoice_23 ?_
    refine s_iload_n X 2 rfl dX4_isChoice_26 ?_
    refine s_aaldI (id := (361 + 3 * round_.toNat)) X (by omega) (Or.inr rfl) SHC_356 g15.1 g15.2 dX4_isChoice_27 ?_
    refine s_iload_n X 3 rfl dX4_isChoice_28 ?_
    obtain ⟨r_2, hq16, h⟩ := bnd_some h
    refine s_callV (As := [VI to_]) X cw_X4_82 (shLab (labRow g15.1 g15.2)) rfl dX4_isChoice_29 (L_C_Labels_at G (361 + 3 * round_.toNat) to_ m r_2 (labRow g15.1 g15.2) hq16) rfl ⟨Nat.le_of_ble_eq_true rfl, Nat.le_of_ble_eq_true rfl⟩ ⟨Nat.le_of_ble_eq_true rfl, Nat.le_of_ble_eq_true rfl⟩ (Nat.le_of_ble_eq_true rfl) noT (kkR ?_)
    refine s_iload_n X 0 rfl dX4_isChoice_32 ?_
    refine s_icmpge_f (tgt := 40) X dX4_isChoice_33 (by omega) (fun c19 => ?_) (fun c20 => ?_)
    · replace h := ite_neg h c19
      refine s_const X (by unfold InR; omega) dX4_isChoice_40 ?_
      exact s_zret X (Or.inl rfl) (Nat.le_of_ble_eq_true rfl) (Nat.le_of_ble_eq_true rfl) (by cases h; exact hO) dX4_isChoice_41
    · replace h := ite_pos h c20
      refine s_const X (by unfold InR; omega) dX4_isChoice_36 ?_
      refine s_goto (tgt := 41) X dX4_isChoice_37 (by omega) ?_
      exact s_zret X (Or.inr rfl) (Nat.le_of_ble_eq_true rfl) (Nat.le_of_ble_eq_true rfl) (by cases h; exact hO) dX4_isChoice_41
  refine s_iload_n X 1 rfl dX4_isChoice_0 ?_
  refine s_ifne_f (tgt := 9) X dX4_isChoice_1 (by omega) (fun c6 => ?_) (fun c7 => ?_)
  · replace h := ite_neg h c6
    obtain ⟨g8, h⟩ := grd_some h
    refine s_load0 X 0 rfl dX4_isChoice_9 ?_
    refine s_getR (id := 356) X fk_X4_11 SHC_355 rfl dX4_isChoice_10 ?_
    refine s_iload_n X 1 rfl dX4_isChoice_13 ?_
    refine s_const X (by unfold InR; omega) dX4_isChoice_14 ?_
    refine s_isub X g8.1 dX4_isChoice_15 ?_
    refine s_aaldI (id := (361 + 3 * (round_ - 1).toNat)) X (by omega) (Or.inr rfl) SHC_356 g8.2.1 g8.2.2 dX4_isChoice_16 ?_
    refine s_iload_n X 2 rfl dX4_isChoice_17 ?_
    obtain ⟨r_, hq9, h⟩ := bnd_some h
    refine s_callV (As := [VI to_]) X cw_X4_82 (shLab (labRow g8.2.1 g8.2.2)) rfl dX4_isChoice_18 (L_C_Labels_at G (361 + 3 * (round_ - 1).toNat) to_ m r_ (labRow g8.2.1 g8.2.2) hq9) rfl ⟨Nat.le_of_ble_eq_true rfl, Nat.le_of_ble_eq_true rfl⟩ ⟨Nat.le_of_ble_eq_true rfl, Nat.le_of_ble_eq_true rfl⟩ (Nat.le_of_ble_eq_true rfl) noT (kkR ?_)
    exact s_kn rfl rfl (K3 _ h)
  · replace h := ite_pos h c7
    refine s_ldc (z := 1000000) X (by unfold InR; omega) kc_X4_86 dX4_isChoice_4 ?_
    refine s_goto (tgt := 21) X dX4_isChoice_6 (by omega) ?_
    exact s_kn rfl rfl (K3 _ h)
set_option maxRecDepth 20000 in
set_option maxHeartbeats 4000000 in
theorem L_C_choices (G : Gl) (from_ : Int) (to_ : Int) (day_ : Int) (minute_ : Int) (m : Mem) (r : ((Int ⊕ Nat) × Mem))  (h : C_choices from_ to_ day_ minute_ m = some r) : Con SHC G yX11_choices cX11_choices 7 (some .int) rm_X11_choices [VR 0, VI from_, VI to_, VI day_, VI minute_] m (oT wI r) := by
  refine con_of (own := "Lastbus") (by decide) rfl (Nat.le_of_ble_eq_true rfl) (fun C X => ?_)
  obtain ⟨O, hO⟩ : ∃ O : Res × Mem, O = (oT wI r) := ⟨_, rfl⟩
  rw [← hO]
  show J SHC G rm_X11_choices (.inl O) C 0 0 0 [(0, VR 0), (1, VI from_), (2, VI to_), (3, VI day_), (4, VI minute_)] [] m
  unfold C_choices at h
  refine s_load0 X 0 rfl dX11_choices_0 ?_
  refine s_iload_n X 1 rfl dX11_choices_1 ?_
  refine s_iload_n X 2 rfl dX11_choices_2 ?_
  refine s_iload_n X 3 rfl dX11_choices_3 ?_
  refine s_iload X 4 rfl dX11_choices_4 ?_
  obtain ⟨q3, hq2, h⟩ := bnd_some h
  refine s_callV (As := [VI from_, VI to_, VI day_, VI minute_]) X cw_X11_277 SHC_0 rfl dX11_choices_6 (L_C_needWay G from_ to_ day_ minute_ m q3 hq2) rfl ⟨Nat.le_of_ble_eq_true rfl, Nat.le_of_ble_eq_true rfl⟩ ⟨Nat.le_of_ble_eq_true rfl, Nat.le_of_ble_eq_true rfl⟩ (Nat.le_of_ble_eq_true rfl) (thr_up hO h) (kkT fun u_ m_ e9 => ?_)
  subst e9
  replace h := tbd_inl h
  refine s_load0 X 0 rfl dX11_choices_9 ?_
  refine s_getR (id := 119) X fk_X11_49 SHC_0 rfl dX11_choices_10 ?_
  refine s_iload_n X 3 rfl dX11_choices_13 ?_
  refine s_const X (by unfold InR; omega) dX11_choices_14 ?_
  refine s_const X (by unfold InR; omega) dX11_choices_15 ?_
  obtain ⟨m_2, hq6, h⟩ := bnd_some h
  refine s_callV (As := [VI day_, VI (-1), VI 0]) X cw_X11_280 SHC_119 rfl dX11_choices_16 (L_C_Net_lay G day_ (-1) 0 m_ m_2 hq6) rfl ⟨Nat.le_of_ble_eq_true rfl, Nat.le_of_ble_eq_true rfl⟩ ⟨Nat.le_of_ble_eq_true rfl, Nat.le_of_ble_eq_true rfl⟩ (Nat.le_of_ble_eq_true rfl) noT (kkU ?_)
  refine s_load0 X 0 rfl dX11_choices_19 ?_
  refine s_getR (id := 355) X fk_X11_65 SHC_0 rfl dX11_choices_20 ?_
  refine s_iload_n X 1 rfl dX11_choices_23 ?_
  refine s_iload X 4 rfl dX11_choices_24 ?_
  obtain ⟨m_3, hq10, h⟩ := bnd_some h
  refine s_callV (As := [VI from_, VI minute_]) X cw_X11_297 SHC_355 rfl dX11_choices_26 (L_C_Rounds_fill G from_ minute_ m_2 m_3 hq10) rfl ⟨Nat.le_of_ble_eq_true rfl, Nat.le_of_ble_eq_true rfl⟩ ⟨Nat.le_of_ble_eq_true rfl, Nat.le_of_ble_eq_true rfl⟩ (Nat.le_of_ble_eq_true rfl) noT (kkU ?_)
  refine s_const X (by unfold InR; omega) dX11_choices_29 ?_
  obtain ⟨count_, e14, h⟩ := ltv_elim h
  refine s_istore X e14 rfl (by omega) dX11_choices_30 ?_
  refine s_const X (by unfold InR; omega) dX11_choices_32 ?_
  obtain ⟨round_, e16, h⟩ := ltv_elim h
  refine s_istore X e16 rfl (by omega) dX11_choices_33 ?_
  obtain ⟨count_4, round_5, hl26, h⟩ := bq2_some h
  obtain ⟨fu170, hl27⟩ := loop_iter hl26
  have KX23 : ∀ q9 : Int × Int, q9 = (count_4, round_5) → J SHC G rm_X11_choices (.inl O) C 4 24 69 [(6, VI q9.2), (5, VI q9.1), (0, VR 0), (1, VI from_), (2, VI to_), (3, VI day_), (4, VI minute_)] [] m_3 := by
    intro q9 e9
    subst e9
    show J SHC G rm_X11_choices (.inl O) C 4 24 69 [(6, VI round_5), (5, VI count_4), (0, VR 0), (1, VI from_), (2, VI to_), (3, VI day_), (4, VI minute_)] [] m_3
    refine s_iload X 1 rfl dX11_choices_69 ?_
    exact s_iret X (Nat.le_of_ble_eq_true rfl) (Nat.le_of_ble_eq_true rfl) (by cases h; exact hO) dX11_choices_71
  have LP22 : ∀ (fu17 : Nat) (count_2 : Int) (round_2 : Int), iter (fun s => C_choices_b1 to_ m_3 s.1 s.2) fu17 (count_2, round_2) = some (count_4, round_5) → J SHC G rm_X11_choices (.inl O) C 4 24 35 [(6, VI round_2), (5, VI count_2), (0, VR 0), (1, VI from_), (2, VI to_), (3, VI day_), (4, VI minute_)] [] m_3 := by
    intro fu17
    induction fu17 with
    | zero => intro count_2 round_2 hn18; exact absurd hn18 (by simp [iter])
    | succ fu17 ih21 =>
      intro count_2 round_2 hn18
      obtain ⟨x19, h, hc20⟩ := iter_succ hn18
      replace h : C_choices_b1 to_ m_3 count_2 round_2 = some x19 := h
      unfold C_choices_b1 at h
      refine s_iload X 0 rfl dX11_choices_35 ?_
      refine s_load0 X 2 rfl dX11_choices_37 ?_
      refine s_getR (id := 355) X fk_X11_65 SHC_0 rfl dX11_choices_38 ?_
      refine s_getI X fk_X11_363 SHC_355 rfl dX11_choices_41 ?_
      refine s_icmpgt_f (tgt := 69) X dX11_choices_44 (by omega) (fun c31 => ?_) (fun c32 => ?_)
      · replace h := ite_neg h c31
        exact KX23 _ (iter_exit h hc20)
      · replace h := ite_pos h c32
        refine s_load0 X 2 rfl dX11_choices_47 ?_
        refine s_getR (id := 355) X fk_X11_65 SHC_0 rfl dX11_choices_48 ?_
        refine s_iload X 0 rfl dX11_choices_51 ?_
        refine s_iload_n X 4 rfl dX11_choices_53 ?_
        obtain ⟨r_, hq34, h⟩ := bnd_some h
        refine s_callV (As := [VI round_2, VI to_]) X cw_X11_366 SHC_355 rfl dX11_choices_54 (L_C_Rounds_isChoice G round_2 to_ m_3 r_ hq34) rfl ⟨Nat.le_of_ble_eq_true rfl, Nat.le_of_ble_eq_true rfl⟩ ⟨Nat.le_of_ble_eq_true rfl, Nat.le_of_ble_eq_true rfl⟩ (Nat.le_of_ble_eq_true rfl) noT (kkR ?_)
        refine s_ifeq_f (tgt := 63) X dX11_choices_57 (by omega) (fun c37 => ?_) (fun c38 => ?_)
        · replace h := ite_neg h c37
          obtain ⟨g39, h⟩ := grd_some h
          obtain ⟨round_3, e40, h⟩ := ltv_elim h
          refine s_iinc X 0 rfl g39 e40 rfl (by omega) dX11_choices_63 ?_
          refine s_goto (tgt := 35) X dX11_choices_66 (by omega) ?_
          exact ih21 _ _ (iter_next h hc20)
        · replace h := ite_pos h c38
          obtain ⟨g41, h⟩ := grd_some h
          obtain ⟨count_3, e42, h⟩ := ltv_elim h
          refine s_iinc X 1 rfl g41 e42 rfl (by omega) dX11_choices_60 ?_
          obtain ⟨g43, h⟩ := grd_some h
          obtain ⟨round_4, e44, h⟩ := ltv_elim h
          refine s_iinc X 1 rfl g43 e44 rfl (by omega) dX11_choices_63 ?_
          refine s_goto (tgt := 35) X dX11_choices_66 (by omega) ?_
          exact ih21 _ _ (iter_next h hc20)
  exact LP22 _ _ _ hl27
set_option maxRecDepth 20000 in
set_option maxHeartbeats 4000000 in
theorem L_C_choice (G : Gl) (from_ : Int) (to_ : Int) (day_ : Int) (minute_ : Int) (index_ : Int) (m : Mem) (r : ((Int ⊕ Nat) × Mem))  (h : C_choice from_ to_ day_ minute_ index_ m = some r) : Con SHC G yX11_choice cX11_choice 8 (some .int) rm_X11_choice [VR 0, VI from_, VI to_, VI day_, VI minute_, VI index_] m (oT wI r) := by
  refine con_of (own := "Lastbus") (by decide) rfl (Nat.le_of_ble_eq_true rfl) (fun C X => ?_)
  obtain ⟨O, hO⟩ : ∃ O : Res × Mem, O = (oT wI r) := ⟨_, rfl⟩
  rw [← hO]
  show J SHC G rm_X11_choice (.inl O) C 0 0 0 [(0, VR 0), (1, VI from_), (2, VI to_), (3, VI day_), (4, VI minute_), (5, VI index_)] [] m
  unfold C_choice at h
  refine s_load0 X 0 rfl dX11_choice_0 ?_
  refine s_iload_n X 1 rfl dX11_choice_1 ?_
  refine s_iload_n X 2 rfl dX11_choice_2 ?_
  refine s_iload_n X 3 rfl dX11_choice_3 ?_
  refine s_iload X 4 rfl dX11_choice_4 ?_
  obtain ⟨q3, hq2, h⟩ := bnd_some h
  refine s_callV (As := [VI from_, VI to_, VI day_, VI minute_]) X cw_X11_277 SHC_0 rfl dX11_choice_6 (L_C_needWay G from_ to_ day_ minute_ m q3 hq2) rfl ⟨Nat.le_of_ble_eq_true rfl, Nat.le_of_ble_eq_true rfl⟩ ⟨Nat.le_of_ble_eq_true rfl, Nat.le_of_ble_eq_true rfl⟩ (Nat.le_of_ble_eq_true rfl) (thr_up hO h) (kkT fun u_ m_ e9 => ?_)
  subst e9
  replace h := tbd_inl h
  refine s_load0 X 0 rfl dX11_choice_9 ?_
  refine s_getR (id := 119) X fk_X11_49 SHC_0 rfl dX11_choice_10 ?_
  refine s_iload_n X 3 rfl dX11_choice_13 ?_
  refine s_const X (by unfold InR; omega) dX11_choice_14 ?_
  refine s_const X (by unfold InR; omega) dX11_choice_15 ?_
  obtain ⟨m_2, hq6, h⟩ := bnd_some h
  refine s_callV (As := [VI day_, VI (-1), VI 0]) X cw_X11_280 SHC_119 rfl dX11_choice_16 (L_C_Net_lay G day_ (-1) 0 m_ m_2 hq6) rfl ⟨Nat.le_of_ble_eq_true rfl, Nat.le_of_ble_eq_true rfl⟩ ⟨Nat.le_of_ble_eq_true rfl, Nat.le_of_ble_eq_true rfl⟩ (Nat.le_of_ble_eq_true rfl) noT (kkU ?_)
  refine s_load0 X 0 rfl dX11_choice_19 ?_
  refine s_getR (id := 355) X fk_X11_65 SHC_0 rfl dX11_choice_20 ?_
  refine s_iload_n X 1 rfl dX11_choice_23 ?_
  refine s_iload X 4 rfl dX11_choice_24 ?_
  obtain ⟨m_3, hq10, h⟩ := bnd_some h
  refine s_callV (As := [VI from_, VI minute_]) X cw_X11_297 SHC_355 rfl dX11_choice_26 (L_C_Rounds_fill G from_ minute_ m_2 m_3 hq10) rfl ⟨Nat.le_of_ble_eq_true rfl, Nat.le_of_ble_eq_true rfl⟩ ⟨Nat.le_of_ble_eq_true rfl, Nat.le_of_ble_eq_true rfl⟩ (Nat.le_of_ble_eq_true rfl) noT (kkU ?_)
  refine s_iload X 5 rfl dX11_choice_29 ?_
  obtain ⟨left_, e14, h⟩ := ltv_elim h
  refine s_istore X e14 rfl (by omega) dX11_choice_31 ?_
  refine s_const X (by unfold InR; omega) dX11_choice_33 ?_
  obtain ⟨round_, e16, h⟩ := ltv_elim h
  refine s_istore X e16 rfl (by omega) dX11_choice_34 ?_
  obtain ⟨s24, hl26, h⟩ := br2_some h
  obtain ⟨fu170, hl27⟩ := loop_iter hl26
  have KR25 : ∀ q9 : ((Int ⊕ Nat) × Mem), .inr q9 = s24 → O = oT wI q9 := by
    intro q9 e9
    subst e9
    replace h := brm2_inr h
    exact (by cases h; exact hO)
  have KX23 : ∀ q9 : Int × Int, .inl q9 = s24 → J SHC G rm_X11_choice (.inl O) C 4 24 102 [(7, VI q9.2), (6, VI q9.1), (0, VR 0), (1, VI from_), (2, VI to_), (3, VI day_), (4, VI minute_), (5, VI index_)] [] m_3 := by
    intro q9 e9
    subst e9
    obtain ⟨left_4, round_5⟩ := q9
    replace h := brm2_inl h
    show J SHC G rm_X11_choice (.inl O) C 4 24 102 [(7, VI round_5), (6, VI left_4), (0, VR 0), (1, VI from_), (2, VI to_), (3, VI day_), (4, VI minute_), (5, VI index_)] [] m_3
    exact s_throwNW X th_X11_168_373_172 (by cases h; exact hO) (Nat.le_of_ble_eq_true rfl) (Nat.le_of_ble_eq_true rfl) (Nat.le_of_ble_eq_true rfl) (Nat.le_of_ble_eq_true rfl) dX11_choice_102 dX11_choice_105 dX11_choice_106 dX11_choice_109 dX11_choice_112
  have LP22 : ∀ (fu17 : Nat) (left_2 : Int) (round_2 : Int), iter (fun s => C_choice_b1 to_ m_3 s.1 s.2) fu17 (left_2, round_2) = some s24 → J SHC G rm_X11_choice (.inl O) C 4 24 36 [(7, VI round_2), (6, VI left_2), (0, VR 0), (1, VI from_), (2, VI to_), (3, VI day_), (4, VI minute_), (5, VI index_)] [] m_3 := by
    intro fu17
    induction fu17 with
    | zero => intro left_2 round_2 hn18; exact absurd hn18 (by simp [iter])
    | succ fu17 ih21 =>
      intro left_2 round_2 hn18
      obtain ⟨x19, h, hc20⟩ := iter_succ hn18
      replace h : C_choice_b1 to_ m_3 left_2 round_2 = some x19 := h
      unfold C_choice_b1 at h
      have kF30 : ¬ ((round_2 ≤ m_3 355 3) ∧ (0 ≤ left_2)) → J SHC G rm_X11_choice (.inl O) C 4 24 102 [(7, VI round_2), (6, VI left_2), (0, VR 0), (1, VI from_), (2, VI to_), (3, VI day_), (4, VI minute_), (5, VI index_)] [] m_3 := by
        intro c33
        replace h := ite_neg h c33
        exact KX23 _ (iter_exit h hc20)
      refine s_iload X 0 rfl dX11_choice_36 ?_
      refine s_load0 X 2 rfl dX11_choice_38 ?_
      refine s_getR (id := 355) X fk_X11_65 SHC_0 rfl dX11_choice_39 ?_
      refine s_getI X fk_X11_363 SHC_355 rfl dX11_choice_42 ?_
      refine s_icmpgt_f (tgt := 102) X dX11_choice_45 (by omega) (fun c31 => ?_) (fun c32 => ?_)
      · exact kF30 (fun q => c31 q.1)
      · have a34 : round_2 ≤ m_3 355 3 := c32
        refine s_iload X 1 rfl dX11_choice_48 ?_
        refine s_iflt_f (tgt := 102) X dX11_choice_50 (by omega) (fun c35 => ?_) (fun c36 => ?_)
        · exact kF30 (fun q => c35 q.2)
        · replace h := ite_pos h ⟨a34, c36⟩
          refine s_load0 X 2 rfl dX11_choice_53 ?_
          refine s_getR (id := 355) X fk_X11_65 SHC_0 rfl dX11_choice_54 ?_
          refine s_iload X 0 rfl dX11_choice_57 ?_
          refine s_iload_n X 4 rfl dX11_choice_59 ?_
          obtain ⟨r_, hq38, h⟩ := bnd_some h
          refine s_callV (As := [VI round_2, VI to_]) X cw_X11_366 SHC_355 rfl dX11_choice_60 (L_C_Rounds_isChoice G round_2 to_ m_3 r_ hq38) rfl ⟨Nat.le_of_ble_eq_true rfl, Nat.le_of_ble_eq_true rfl⟩ ⟨Nat.le_of_ble_eq_true rfl, Nat.le_of_ble_eq_true rfl⟩ (Nat.le_of_ble_eq_true rfl) noT (kkR ?_)
          refine s_ifeq_f (tgt := 96) X dX11_choice_63 (by omega) (fun c41 => ?_) (fun c42 => ?_)
          · replace h := ite_neg h c41
            obtain ⟨g43, h⟩ := grd_some h
            obtain ⟨round_3, e44, h⟩ := ltv_elim h
            refine s_iinc X 0 rfl g43 e44 rfl (by omega) dX11_choice_96 ?_
            refine s_goto (tgt := 36) X dX11_choice_99 (by omega) ?_
            exact ih21 _ _ (iter_next h hc20)
          · replace h := ite_pos h c42
            refine s_iload X 1 rfl dX11_choice_66 ?_
            refine s_ifne_f (tgt := 93) X dX11_choice_68 (by omega) (fun c48 => ?_) (fun c49 => ?_)
            · replace h := ite_neg h c48
              obtain ⟨g50, h⟩ := grd_some h
              obtain ⟨left_3, e51, h⟩ := ltv_elim h
              refine s_iinc X 1 rfl g50 e51 rfl (by omega) dX11_choice_93 ?_
              obtain ⟨g52, h⟩ := grd_some h
              obtain ⟨round_4, e53, h⟩ := ltv_elim h
              refine s_iinc X 1 rfl g52 e53 rfl (by omega) dX11_choice_96 ?_
              refine s_goto (tgt := 36) X dX11_choice_99 (by omega) ?_
              exact ih21 _ _ (iter_next h hc20)
            · replace h := ite_pos h c49
              obtain ⟨g54, h⟩ := grd_some h
              refine s_sipush X (by omega) dX11_choice_71 ?_
              refine s_iload X 0 rfl dX11_choice_74 ?_
              refine s_imul X g54.1 dX11_choice_76 ?_
              refine s_load0 X 2 rfl dX11_choice_77 ?_
              refine s_getR (id := 355) X fk_X11_65 SHC_0 rfl dX11_choice_78 ?_
              refine s_getR (id := 356) X fk_X11_369 SHC_355 rfl dX11_choice_81 ?_
              refine s_iload X 0 rfl dX11_choice_84 ?_
              refine s_aaldI (id := (361 + 3 * round_2.toNat)) X (by omega) (Or.inr rfl) SHC_356 g54.2.1 g54.2.2 dX11_choice_86 ?_
              refine s_iload_n X 4 rfl dX11_choice_87 ?_
              obtain ⟨r_2, hq55, h⟩ := bnd_some h
              refine s_callV (As := [VI to_]) X cw_X11_290 (shLab (labRow g54.2.1 g54.2.2)) rfl dX11_choice_88 (L_C_Labels_at G (361 + 3 * round_2.toNat) to_ m_3 r_2 (labRow g54.2.1 g54.2.2) hq55) rfl ⟨Nat.le_of_ble_eq_true rfl, Nat.le_of_ble_eq_true rfl⟩ ⟨Nat.le_of_ble_eq_true rfl, Nat.le_of_ble_eq_true rfl⟩ (Nat.le_of_ble_eq_true rfl) noT (kkR ?_)
              obtain ⟨g57, h⟩ := grd_some h
              refine s_iadd X g57 dX11_choice_91 ?_
              exact s_iret X (Nat.le_of_ble_eq_true rfl) (Nat.le_of_ble_eq_true rfl) (KR25 _ (iter_exit h hc20)) dX11_choice_92
  exact LP22 _ _ _ hl27
set_option maxRecDepth 20000 in
set_option maxHeartbeats 4000000 in
theorem L_C_needChange (G : Gl) (trip_ : Int) (call_ : Int) (other_ : Int) (otherCall_ : Int) (m : Mem) (r : ((Unit ⊕ Nat) × Mem))  (h : C_needChange trip_ call_ other_ otherCall_ m = some r) : Con SHC G yX11_needChange cX11_needChange 5 none rm_X11_needChange [VR 0, VI trip_, VI call_, VI other_, VI otherCall_] m (oT wU r) := by
  refine con_of (own := "Lastbus") (by decide) rfl (Nat.le_of_ble_eq_true rfl) (fun C X => ?_)
  obtain ⟨O, hO⟩ : ∃ O : Res × Mem, O = (oT wU r) := ⟨_, rfl⟩
  rw [← hO]
  show J SHC G rm_X11_needChange (.inl O) C 0 0 0 [(0, VR 0), (1, VI trip_), (2, VI call_), (3, VI other_), (4, VI otherCall_)] [] m
  unfold C_needChange at h
  refine s_iload_n X 1 rfl dX11_needChange_0 ?_
  refine s_iload_n X 3 rfl dX11_needChange_1 ?_
  obtain ⟨q3, hq2, h⟩ := bnd_some h
  refine s_callS (As := [VI trip_, VI other_]) X cw_X11_115 dX11_needChange_2 (L_C_needUnlike G trip_ other_ m q3 hq2) rfl ⟨Nat.le_of_ble_eq_true rfl, Nat.le_of_ble_eq_true rfl⟩ ⟨Nat.le_of_ble_eq_true rfl, Nat.le_of_ble_eq_true rfl⟩ (Nat.le_of_ble_eq_true rfl) (thr_up hO h) (kkT fun u_ m_ e9 => ?_)
  subst e9
  replace h := tbd_inl h
  obtain ⟨g5, h⟩ := grd_some h
  have kT6 : (call_ = 0) ∨ (otherCall_ = m_ 33 other_.toNat - 1) → J SHC G rm_X11_needChange (.inl O) C 1 6 25 [(0, VR 0), (1, VI trip_), (2, VI call_), (3, VI other_), (4, VI otherCall_)] [] m_ := by
    intro c10
    replace h := ite_pos h c10
    exact s_throwW X th_X11_143_468_147 (by cases h; exact hO) (Nat.le_of_ble_eq_true rfl) (Nat.le_of_ble_eq_true rfl) (Nat.le_of_ble_eq_true rfl) (Nat.le_of_ble_eq_true rfl) dX11_needChange_25 dX11_needChange_28 dX11_needChange_29 dX11_needChange_32 dX11_needChange_35
  refine s_iload_n X 2 rfl dX11_needChange_5 ?_
  refine s_ifeq_t (tgt := 25) X dX11_needChange_6 (by omega) (fun c8 => ?_) (fun c9 => ?_)
  · exact kT6 (Or.inl c8)
  · have a11 : ¬ (call_ = 0) := c9
    refine s_iload X 4 rfl dX11_needChange_9 ?_
    refine s_load0 X 0 rfl dX11_needChange_11 ?_
    refine s_getR (id := 31) X fk_X11_26 SHC_0 rfl dX11_needChange_12 ?_
    refine s_getR (id := 33) X fk_X11_183 SHC_31 rfl dX11_needChange_15 ?_
    refine s_iload_n X 3 rfl dX11_needChange_18 ?_
    refine s_iald X SHC_33 (g5.1 a11) (g5.2.1 a11) dX11_needChange_19 ?_
    refine s_const X (by unfold InR; omega) dX11_needChange_20 ?_
    refine s_isub X (g5.2.2 a11) dX11_needChange_21 ?_
    refine s_icmpne_f (tgt := 36) X dX11_needChange_22 (by omega) (fun c12 => ?_) (fun c13 => ?_)
    · replace h := ite_neg h (fun q => q.elim a11 c12)
      exact s_vret X (Nat.le_of_ble_eq_true rfl) (Nat.le_of_ble_eq_true rfl) (by cases h; exact hO) dX11_needChange_36
    · exact kT6 (Or.inr c13)
set_option maxRecDepth 20000 in
set_option maxHeartbeats 4000000 in
theorem L_C_minutesBetween (G : Gl) (stop_ : Int) (other_ : Int) (m : Mem) (r : (Int × Mem))  (h : C_minutesBetween stop_ other_ m = some r) : Con SHC G yX11_minutesBetween cX11_minutesBetween 3 (some .int) rm_X11_minutesBetween [VR 0, VI stop_, VI other_] m (((.inl (some (VI r.1)), r.2) : Res × Mem)) := by
  refine con_of (own := "Lastbus") (by decide) rfl (Nat.le_of_ble_eq_true rfl) (fun C X => ?_)
  obtain ⟨O, hO⟩ : ∃ O : Res × Mem, O = (((.inl (some (VI r.1)), r.2) : Res × Mem)) := ⟨_, rfl⟩
  rw [← hO]
  show J SHC G rm_X11_minutesBetween (.inl O) C 0 0 0 [(0, VR 0), (1, VI stop_), (2, VI other_)] [] m
  unfold C_minutesBetween at h
  refine s_iload_n X 1 rfl dX11_minutesBetween_0 ?_
  refine s_iload_n X 2 rfl dX11_minutesBetween_1 ?_
  refine s_icmpne_f (tgt := 15) X dX11_minutesBetween_2 (by omega) (fun c4 => ?_) (fun c5 => ?_)
  · replace h := ite_neg h c4
    refine s_load0 X 0 rfl dX11_minutesBetween_15 ?_
    refine s_getR (id := 1) X fk_X11_12 SHC_0 rfl dX11_minutesBetween_16 ?_
    refine s_const X (by unfold InR; omega) dX11_minutesBetween_19 ?_
    obtain ⟨m_, hq7, h⟩ := bnd_some h
    refine s_callV (As := [VI (-1)]) X cw_X11_122 SHC_1 rfl dX11_minutesBetween_20 (L_C_Stops_link G (-1) m m_ hq7) rfl ⟨Nat.le_of_ble_eq_true rfl, Nat.le_of_ble_eq_true rfl⟩ ⟨Nat.le_of_ble_eq_true rfl, Nat.le_of_ble_eq_true rfl⟩ (Nat.le_of_ble_eq_true rfl) noT (kkU ?_)
    obtain ⟨g10, h⟩ := grd_some h
    refine s_load0 X 0 rfl dX11_minutesBetween_23 ?_
    refine s_getR (id := 1) X fk_X11_12 SHC_0 rfl dX11_minutesBetween_24 ?_
    refine s_getR (id := 16) X fk_X11_125 SHC_1 rfl dX11_minutesBetween_27 ?_
    refine s_iload_n X 1 rfl dX11_minutesBetween_30 ?_
    refine s_aaldI (id := (17 + stop_.toNat)) X (by omega) (Or.inl rfl) SHC_16 g10.1 g10.2.1 dX11_minutesBetween_31 ?_
    refine s_iload_n X 2 rfl dX11_minutesBetween_32 ?_
    refine s_iald X (SHC_r17 g10.1 g10.2.1) g10.2.2.1 g10.2.2.2 dX11_minutesBetween_33 ?_
    exact s_iret X (Nat.le_of_ble_eq_true rfl) (Nat.le_of_ble_eq_true rfl) (by cases h; exact hO) dX11_minutesBetween_34
  · replace h := ite_pos h c5
    obtain ⟨g11, h⟩ := grd_some h
    refine s_load0 X 0 rfl dX11_minutesBetween_5 ?_
    refine s_getR (id := 1) X fk_X11_12 SHC_0 rfl dX11_minutesBetween_6 ?_
    refine s_getR (id := 2) X fk_X11_111 SHC_1 rfl dX11_minutesBetween_9 ?_
    refine s_iload_n X 1 rfl dX11_minutesBetween_12 ?_
    refine s_iald X SHC_2 g11.1 g11.2 dX11_minutesBetween_13 ?_
    exact s_iret X (Nat.le_of_ble_eq_true rfl) (Nat.le_of_ble_eq_true rfl) (by cases h; exact hO) dX11_minutesBetween_14
set_option maxRecDepth 20000 in
set_option maxHeartbeats 4000000 in
theorem L_C_holds (G : Gl) (day_ : Int) (trip_ : Int) (call_ : Int) (other_ : Int) (otherCall_ : Int) (m : Mem) (r : ((Int ⊕ Nat) × Mem))  (h : C_holds day_ trip_ call_ other_ otherCall_ m = some r) : Con SHC G yX11_holds cX11_holds 9 (some .boolean) rm_X11_holds [VR 0, VI day_, VI trip_, VI call_, VI other_, VI otherCall_] m (oT wI r) := by
  refine con_of (own := "Lastbus") (by decide) rfl (Nat.le_of_ble_eq_true rfl) (fun C X => ?_)
  obtain ⟨O, hO⟩ : ∃ O : Res × Mem, O = (oT wI r) := ⟨_, rfl⟩
  rw [← hO]
  show J SHC G rm_X11_holds (.inl O) C 0 0 0 [(0, VR 0), (1, VI day_), (2, VI trip_), (3, VI call_), (4, VI other_), (5, VI otherCall_)] [] m
  unfold C_holds at h
  refine s_load0 X 0 rfl dX11_holds_0 ?_
  refine s_iload_n X 2 rfl dX11_holds_1 ?_
  refine s_iload_n X 3 rfl dX11_holds_2 ?_
  obtain ⟨q3, hq2, h⟩ := bnd_some h
  refine s_callV (As := [VI trip_, VI call_]) X cw_X11_204 SHC_0 rfl dX11_holds_3 (L_C_needCall G trip_ call_ m q3 hq2) rfl ⟨Nat.le_of_ble_eq_true rfl, Nat.le_of_ble_eq_true rfl⟩ ⟨Nat.le_of_ble_eq_true rfl, Nat.le_of_ble_eq_true rfl⟩ (Nat.le_of_ble_eq_true rfl) (thr_up hO h) (kkT fun u_ m_ e9 => ?_)
  subst e9
  replace h := tbd_inl h
  refine s_load0 X 0 rfl dX11_holds_6 ?_
  refine s_iload X 4 rfl dX11_holds_7 ?_
  refine s_iload X 5 rfl dX11_holds_9 ?_
  obtain ⟨q7, hq6, h⟩ := bnd_some h
  refine s_callV (As := [VI other_, VI otherCall_]) X cw_X11_204 SHC_0 rfl dX11_holds_11 (L_C_needCall G other_ otherCall_ m_ q7 hq6) rfl ⟨Nat.le_of_ble_eq_true rfl, Nat.le_of_ble_eq_true rfl⟩ ⟨Nat.le_of_ble_eq_true rfl, Nat.le_of_ble_eq_true rfl⟩ (Nat.le_of_ble_eq_true rfl) (thr_up hO h) (kkT fun u_2 m_2 e9 => ?_)
  subst e9
  replace h := tbd_inl h
  refine s_iload_n X 1 rfl dX11_holds_14 ?_
  obtain ⟨q11, hq10, h⟩ := bnd_some h
  refine s_callS (As := [VI day_]) X cw_X11_140 dX11_holds_15 (L_C_needDay G day_ m_2 q11 hq10) rfl ⟨Nat.le_of_ble_eq_true rfl, Nat.le_of_ble_eq_true rfl⟩ ⟨Nat.le_of_ble_eq_true rfl, Nat.le_of_ble_eq_true rfl⟩ (Nat.le_of_ble_eq_true rfl) (thr_up hO h) (kkT fun u_3 m_3 e9 => ?_)
  subst e9
  replace h := tbd_inl h
  refine s_load0 X 0 rfl dX11_holds_18 ?_
  refine s_iload_n X 2 rfl dX11_holds_19 ?_
  refine s_iload_n X 3 rfl dX11_holds_20 ?_
  refine s_iload X 4 rfl dX11_holds_21 ?_
  refine s_iload X 5 rfl dX11_holds_23 ?_
  obtain ⟨q15, hq14, h⟩ := bnd_some h
  refine s_callV (As := [VI trip_, VI call_, VI other_, VI otherCall_]) X cw_X11_375 SHC_0 rfl dX11_holds_25 (L_C_needChange G trip_ call_ other_ otherCall_ m_3 q15 hq14) rfl ⟨Nat.le_of_ble_eq_true rfl, Nat.le_of_ble_eq_true rfl⟩ ⟨Nat.le_of_ble_eq_true rfl, Nat.le_of_ble_eq_true rfl⟩ (Nat.le_of_ble_eq_true rfl) (thr_up hO h) (kkT fun u_4 m_4 e9 => ?_)
  subst e9
  replace h := tbd_inl h
  refine s_load0 X 0 rfl dX11_holds_28 ?_
  refine s_iload_n X 2 rfl dX11_holds_29 ?_
  refine s_iload_n X 1 rfl dX11_holds_30 ?_
  obtain ⟨q19, hq18, h⟩ := bnd_some h
  refine s_callV (As := [VI trip_, VI day_]) X cw_X11_330 SHC_0 rfl dX11_holds_31 (L_C_needRun G trip_ day_ m_4 q19 hq18) rfl ⟨Nat.le_of_ble_eq_true rfl, Nat.le_of_ble_eq_true rfl⟩ ⟨Nat.le_of_ble_eq_true rfl, Nat.le_of_ble_eq_true rfl⟩ (Nat.le_of_ble_eq_true rfl) (thr_up hO h) (kkT fun u_5 m_5 e9 => ?_)
  subst e9
  replace h := tbd_inl h
  refine s_load0 X 0 rfl dX11_holds_34 ?_
  refine s_iload X 4 rfl dX11_holds_35 ?_
  refine s_iload_n X 1 rfl dX11_holds_37 ?_
  obtain ⟨q23, hq22, h⟩ := bnd_some h
  refine s_callV (As := [VI other_, VI day_]) X cw_X11_330 SHC_0 rfl dX11_holds_38 (L_C_needRun G other_ day_ m_5 q23 hq22) rfl ⟨Nat.le_of_ble_eq_true rfl, Nat.le_of_ble_eq_true rfl⟩ ⟨Nat.le_of_ble_eq_true rfl, Nat.le_of_ble_eq_true rfl⟩ (Nat.le_of_ble_eq_true rfl) (thr_up hO h) (kkT fun u_6 m_6 e9 => ?_)
  subst e9
  replace h := tbd_inl h
  obtain ⟨g25, h⟩ := grd_some h
  refine s_load0 X 0 rfl dX11_holds_41 ?_
  refine s_load0 X 0 rfl dX11_holds_42 ?_
  refine s_getR (id := 31) X fk_X11_26 SHC_0 rfl dX11_holds_43 ?_
  refine s_getR (id := 34) X fk_X11_195 SHC_31 rfl dX11_holds_46 ?_
  refine s_iload_n X 2 rfl dX11_holds_49 ?_
  refine s_aaldI (id := (35 + trip_.toNat)) X (by omega) (Or.inl rfl) SHC_34 g25.1 g25.2.1 dX11_holds_50 ?_
  refine s_iload_n X 3 rfl dX11_holds_51 ?_
  refine s_iald X (SHC_r35 g25.1 g25.2.1) g25.2.2.1 g25.2.2.2.1 dX11_holds_52 ?_
  refine s_load0 X 0 rfl dX11_holds_53 ?_
  refine s_getR (id := 31) X fk_X11_26 SHC_0 rfl dX11_holds_54 ?_
  refine s_getR (id := 34) X fk_X11_195 SHC_31 rfl dX11_holds_57 ?_
  refine s_iload X 4 rfl dX11_holds_60 ?_
  refine s_aaldI (id := (35 + other_.toNat)) X (by omega) (Or.inl rfl) SHC_34 g25.2.2.2.2.1 g25.2.2.2.2.2.1 dX11_holds_62 ?_
  refine s_iload X 5 rfl dX11_holds_63 ?_
  refine s_iald X (SHC_r35 g25.2.2.2.2.1 g25.2.2.2.2.2.1) g25.2.2.2.2.2.2.1 g25.2.2.2.2.2.2.2 dX11_holds_65 ?_
  obtain ⟨r_, m_7, hq26, h⟩ := bq2_some h
  refine s_callV (As := [VI (m_6 (35 + trip_.toNat) call_.toNat), VI (m_6 (35 + other_.toNat) otherCall_.toNat)]) X cw_X11_378 SHC_0 rfl dX11_holds_66 (L_C_minutesBetween G (m_6 (35 + trip_.toNat) call_.toNat) (m_6 (35 + other_.toNat) otherCall_.toNat) m_6 (r_, m_7) hq26) rfl ⟨Nat.le_of_ble_eq_true rfl, Nat.le_of_ble_eq_true rfl⟩ ⟨Nat.le_of_ble_eq_true rfl, Nat.le_of_ble_eq_true rfl⟩ (Nat.le_of_ble_eq_true rfl) noT (kkR ?_)
  obtain ⟨between_, e29, h⟩ := ltv_elim h
  refine s_istore X e29 rfl (by omega) dX11_holds_69 ?_
  refine s_iload X 0 rfl dX11_holds_71 ?_
  obtain ⟨q32, hq31, h⟩ := bnd_some h
  refine s_callS (As := [VI between_]) X cw_X11_128 dX11_holds_73 (L_C_needFound G between_ m_7 q32 hq31) rfl ⟨Nat.le_of_ble_eq_true rfl, Nat.le_of_ble_eq_true rfl⟩ ⟨Nat.le_of_ble_eq_true rfl, Nat.le_of_ble_eq_true rfl⟩ (Nat.le_of_ble_eq_true rfl) (thr_up hO h) (kkT fun u_7 m_8 e9 => ?_)
  subst e9
  replace h := tbd_inl h
  refine s_load0 X 1 rfl dX11_holds_76 ?_
  refine s_getR (id := 31) X fk_X11_26 SHC_0 rfl dX11_holds_77 ?_
  refine s_getR (id := 59) X fk_X11_207 SHC_31 rfl dX11_holds_80 ?_
  refine s_iload_n X 3 rfl dX11_holds_83 ?_
  refine s_aaldI (id := (60 + trip_.toNat)) X (by omega) (Or.inl rfl) SHC_59 g25.1 g25.2.1 dX11_holds_84 ?_
  refine s_iload_n X 4 rfl dX11_holds_85 ?_
  refine s_iald X (SHC_r60 g25.1 g25.2.1) g25.2.2.1 g25.2.2.2.1 dX11_holds_86 ?_
  refine s_load0 X 1 rfl dX11_holds_87 ?_
  refine s_getR (id := 109) X fk_X11_33 SHC_0 rfl dX11_holds_88 ?_
  refine s_load0 X 1 rfl dX11_holds_91 ?_
  refine s_getR (id := 109) X fk_X11_33 SHC_0 rfl dX11_holds_92 ?_
  refine s_iload_n X 2 rfl dX11_holds_95 ?_
  refine s_iload_n X 3 rfl dX11_holds_96 ?_
  obtain ⟨r_2, hq35, h⟩ := bnd_some h
  refine s_callV (As := [VI day_, VI trip_]) X cw_X11_259 SHC_109 rfl dX11_holds_97 (L_C_Delays_find G day_ trip_ m_8 r_2 hq35) rfl ⟨Nat.le_of_ble_eq_true rfl, Nat.le_of_ble_eq_true rfl⟩ ⟨Nat.le_of_ble_eq_true rfl, Nat.le_of_ble_eq_true rfl⟩ (Nat.le_of_ble_eq_true rfl) noT (kkR ?_)
  obtain ⟨g37, h⟩ := grd_some h
  refine s_iload_n X 4 rfl dX11_holds_100 ?_
  refine s_const X (by unfold InR; omega) dX11_holds_101 ?_
  refine s_isub X g37 dX11_holds_102 ?_
  obtain ⟨r_3, hq38, h⟩ := bnd_some h
  refine s_callV (As := [VI r_2, VI (call_ - 1)]) X cw_X11_274 SHC_109 rfl dX11_holds_103 (L_C_Delays_at G r_2 (call_ - 1) m_8 r_3 hq38) rfl ⟨Nat.le_of_ble_eq_true rfl, Nat.le_of_ble_eq_true rfl⟩ ⟨Nat.le_of_ble_eq_true rfl, Nat.le_of_ble_eq_true rfl⟩ (Nat.le_of_ble_eq_true rfl) noT (kkR ?_)
  obtain ⟨g40, h⟩ := grd_some h
  refine s_iadd X g40 dX11_holds_106 ?_
  obtain ⟨arrival_, e41, h⟩ := ltv_elim h
  refine s_istore X e41 rfl (by omega) dX11_holds_107 ?_
  refine s_load0 X 2 rfl dX11_holds_109 ?_
  refine s_getR (id := 31) X fk_X11_26 SHC_0 rfl dX11_holds_110 ?_
  refine s_getR (id := 84) X fk_X11_186 SHC_31 rfl dX11_holds_113 ?_
  refine s_iload X 6 rfl dX11_holds_116 ?_
  refine s_aaldI (id := (85 + other_.toNat)) X (by omega) (Or.inl rfl) SHC_84 g25.2.2.2.2.1 g25.2.2.2.2.2.1 dX11_holds_118 ?_
  refine s_iload X 7 rfl dX11_holds_119 ?_
  refine s_iald X (SHC_r85 g25.2.2.2.2.1 g25.2.2.2.2.2.1) g25.2.2.2.2.2.2.1 g25.2.2.2.2.2.2.2 dX11_holds_121 ?_
  refine s_load0 X 2 rfl dX11_holds_122 ?_
  refine s_getR (id := 109) X fk_X11_33 SHC_0 rfl dX11_holds_123 ?_
  refine s_load0 X 2 rfl dX11_holds_126 ?_
  refine s_getR (id := 109) X fk_X11_33 SHC_0 rfl dX11_holds_127 ?_
  refine s_iload_n X 3 rfl dX11_holds_130 ?_
  refine s_iload X 6 rfl dX11_holds_131 ?_
  obtain ⟨r_4, hq43, h⟩ := bnd_some h
  refine s_callV (As := [VI day_, VI other_]) X cw_X11_259 SHC_109 rfl dX11_holds_133 (L_C_Delays_find G day_ other_ m_8 r_4 hq43) rfl ⟨Nat.le_of_ble_eq_true rfl, Nat.le_of_ble_eq_true rfl⟩ ⟨Nat.le_of_ble_eq_true rfl, Nat.le_of_ble_eq_true rfl⟩ (Nat.le_of_ble_eq_true rfl) noT (kkR ?_)
  refine s_iload X 7 rfl dX11_holds_136 ?_
  obtain ⟨r_5, hq46, h⟩ := bnd_some h
  refine s_callV (As := [VI r_4, VI otherCall_]) X cw_X11_274 SHC_109 rfl dX11_holds_138 (L_C_Delays_at G r_4 otherCall_ m_8 r_5 hq46) rfl ⟨Nat.le_of_ble_eq_true rfl, Nat.le_of_ble_eq_true rfl⟩ ⟨Nat.le_of_ble_eq_true rfl, Nat.le_of_ble_eq_true rfl⟩ (Nat.le_of_ble_eq_true rfl) noT (kkR ?_)
  obtain ⟨g48, h⟩ := grd_some h
  refine s_iadd X g48 dX11_holds_141 ?_
  obtain ⟨departure_, e49, h⟩ := ltv_elim h
  refine s_istore X e49 rfl (by omega) dX11_holds_142 ?_
  obtain ⟨g50, h⟩ := grd_some h
  have kM51 : J SHC G rm_X11_holds (.inl O) C 10 60 159 [(8, VI departure_), (7, VI arrival_), (6, VI between_), (0, VR 0), (1, VI day_), (2, VI trip_), (3, VI call_), (4, VI other_), (5, VI otherCall_)] [VI (if arrival_ + between_ ≤ departure_ then 1 else 0)] m_8 := by
    exact s_zret X okT_ite (Nat.le_of_ble_eq_true rfl) (Nat.le_of_ble_eq_true rfl) (by cases h; exact hO) dX11_holds_159
  refine s_iload X 1 rfl dX11_holds_144 ?_
  refine s_iload X 2 rfl dX11_holds_146 ?_
  refine s_iadd X g50 dX11_holds_148 ?_
  refine s_iload X 0 rfl dX11_holds_149 ?_
  refine s_icmpgt_f (tgt := 158) X dX11_holds_151 (by omega) (fun c52 => ?_) (fun c53 => ?_)
  · refine s_const X (by unfold InR; omega) dX11_holds_158 ?_
    exact s_eqt (if_neg c52) kM51
  · refine s_const X (by unfold InR; omega) dX11_holds_154 ?_
    refine s_goto (tgt := 159) X dX11_holds_155 (by omega) ?_
    exact s_eqt (if_pos c53) kM51
set_option maxRecDepth 20000 in
set_option maxHeartbeats 4000000 in
theorem L_C_Wishes_add (G : Gl) (byTrip_ : Int) (offCall_ : Int) (toTrip_ : Int) (onCall_ : Int) (people_ : Int) (m : Mem) (r : (Int × Mem))  (h : C_Wishes_add byTrip_ offCall_ toTrip_ onCall_ people_ m = some r) : Con SHC G yX10_add cX10_add 6 (some .int) rm_X10_add [VR 400, VI byTrip_, VI offCall_, VI toTrip_, VI onCall_, VI people_] m (((.inl (some (VI r.1)), r.2) : Res × Mem)) := by
  refine con_of (own := "Lastbus$Wishes") (by decide) rfl (Nat.le_of_ble_eq_true rfl) (fun C X => ?_)
  obtain ⟨O, hO⟩ : ∃ O : Res × Mem, O = (((.inl (some (VI r.1)), r.2) : Res × Mem)) := ⟨_, rfl⟩
  rw [← hO]
  show J SHC G rm_X10_add (.inl O) C 0 0 0 [(0, VR 400), (1, VI byTrip_), (2, VI offCall_), (3, VI toTrip_), (4, VI onCall_), (5, VI people_)] [] m
  unfold C_Wishes_add at h
  obtain ⟨g1, h⟩ := grd_some h
  refine s_load0 X 0 rfl dX10_add_0 ?_
  refine s_getR (id := 401) X fk_X10_9 SHC_400 rfl dX10_add_1 ?_
  refine s_load0 X 0 rfl dX10_add_4 ?_
  refine s_getI X fk_X10_48 SHC_400 rfl dX10_add_5 ?_
  refine s_iload_n X 1 rfl dX10_add_8 ?_
  obtain ⟨m_, e2, h⟩ := ltv_elim h
  refine s_iast X e2 SHC_401 g1.1 g1.2 dX10_add_9 ?_
  obtain ⟨g3, h⟩ := grd_some h
  refine s_load0 X 0 rfl dX10_add_10 ?_
  refine s_getR (id := 402) X fk_X10_15 SHC_400 rfl dX10_add_11 ?_
  refine s_load0 X 0 rfl dX10_add_14 ?_
  refine s_getI X fk_X10_48 SHC_400 rfl dX10_add_15 ?_
  refine s_iload_n X 2 rfl dX10_add_18 ?_
  obtain ⟨m_2, e4, h⟩ := ltv_elim h
  refine s_iast X e4 SHC_402 g3.1 g3.2 dX10_add_19 ?_
  obtain ⟨g5, h⟩ := grd_some h
  refine s_load0 X 0 rfl dX10_add_20 ?_
  refine s_getR (id := 403) X fk_X10_18 SHC_400 rfl dX10_add_21 ?_
  refine s_load0 X 0 rfl dX10_add_24 ?_
  refine s_getI X fk_X10_48 SHC_400 rfl dX10_add_25 ?_
  refine s_iload_n X 3 rfl dX10_add_28 ?_
  obtain ⟨m_3, e6, h⟩ := ltv_elim h
  refine s_iast X e6 SHC_403 g5.1 g5.2 dX10_add_29 ?_
  obtain ⟨g7, h⟩ := grd_some h
  refine s_load0 X 0 rfl dX10_add_30 ?_
  refine s_getR (id := 404) X fk_X10_21 SHC_400 rfl dX10_add_31 ?_
  refine s_load0 X 0 rfl dX10_add_34 ?_
  refine s_getI X fk_X10_48 SHC_400 rfl dX10_add_35 ?_
  refine s_iload X 4 rfl dX10_add_38 ?_
  obtain ⟨m_4, e8, h⟩ := ltv_elim h
  refine s_iast X e8 SHC_404 g7.1 g7.2 dX10_add_40 ?_
  obtain ⟨g9, h⟩ := grd_some h
  refine s_load0 X 0 rfl dX10_add_41 ?_
  refine s_getR (id := 405) X fk_X10_24 SHC_400 rfl dX10_add_42 ?_
  refine s_load0 X 0 rfl dX10_add_45 ?_
  refine s_getI X fk_X10_48 SHC_400 rfl dX10_add_46 ?_
  refine s_iload X 5 rfl dX10_add_49 ?_
  obtain ⟨m_5, e10, h⟩ := ltv_elim h
  refine s_iast X e10 SHC_405 g9.1 g9.2 dX10_add_51 ?_
  obtain ⟨g11, h⟩ := grd_some h
  refine s_load0 X 0 rfl dX10_add_52 ?_
  refine s_dup X rfl dX10_add_53 ?_
  refine s_getI X fk_X10_48 SHC_400 rfl dX10_add_54 ?_
  refine s_const X (by unfold InR; omega) dX10_add_57 ?_
  refine s_iadd X g11 dX10_add_58 ?_
  obtain ⟨m_6, e12, h⟩ := ltv_elim h
  refine s_putI X e12 fp_X10_48 SHC_400 rfl trivial dX10_add_59 ?_
  obtain ⟨g13, h⟩ := grd_some h
  refine s_load0 X 0 rfl dX10_add_62 ?_
  refine s_getI X fk_X10_48 SHC_400 rfl dX10_add_63 ?_
  refine s_const X (by unfold InR; omega) dX10_add_66 ?_
  refine s_isub X g13 dX10_add_67 ?_
  exact s_iret X (Nat.le_of_ble_eq_true rfl) (Nat.le_of_ble_eq_true rfl) (by cases h; exact hO) dX10_add_68
set_option maxRecDepth 20000 in
set_option maxHeartbeats 4000000 in
theorem L_C_wish (G : Gl) (trip_ : Int) (call_ : Int) (other_ : Int) (otherCall_ : Int) (travellers_ : Int) (m : Mem) (r : ((Int ⊕ Nat) × Mem))  (h : C_wish trip_ call_ other_ otherCall_ travellers_ m = some r) : Con SHC G yX11_wish cX11_wish 6 (some .int) rm_X11_wish [VR 0, VI trip_, VI call_, VI other_, VI otherCall_, VI travellers_] m (oT wI r) := by
  refine con_of (own := "Lastbus") (by decide) rfl (Nat.le_of_ble_eq_true rfl) (fun C X => ?_)
  obtain ⟨O, hO⟩ : ∃ O : Res × Mem, O = (oT wI r) := ⟨_, rfl⟩
  rw [← hO]
  show J SHC G rm_X11_wish (.inl O) C 0 0 0 [(0, VR 0), (1, VI trip_), (2, VI call_), (3, VI other_), (4, VI otherCall_), (5, VI travellers_)] [] m
  unfold C_wish at h
  refine s_load0 X 0 rfl dX11_wish_0 ?_
  refine s_iload_n X 1 rfl dX11_wish_1 ?_
  refine s_iload_n X 2 rfl dX11_wish_2 ?_
  obtain ⟨q3, hq2, h⟩ := bnd_some h
  refine s_callV (As := [VI trip_, VI call_]) X cw_X11_204 SHC_0 rfl dX11_wish_3 (L_C_needCall G trip_ call_ m q3 hq2) rfl ⟨Nat.le_of_ble_eq_true rfl, Nat.le_of_ble_eq_true rfl⟩ ⟨Nat.le_of_ble_eq_true rfl, Nat.le_of_ble_eq_true rfl⟩ (Nat.le_of_ble_eq_true rfl) (thr_up hO h) (kkT fun u_ m_ e9 => ?_)
  subst e9
  replace h := tbd_inl h
  refine s_load0 X 0 rfl dX11_wish_6 ?_
  refine s_iload_n X 3 rfl dX11_wish_7 ?_
  refine s_iload X 4 rfl dX11_wish_8 ?_
  obtain ⟨q7, hq6, h⟩ := bnd_some h
  refine s_callV (As := [VI other_, VI otherCall_]) X cw_X11_204 SHC_0 rfl dX11_wish_10 (L_C_needCall G other_ otherCall_ m_ q7 hq6) rfl ⟨Nat.le_of_ble_eq_true rfl, Nat.le_of_ble_eq_true rfl⟩ ⟨Nat.le_of_ble_eq_true rfl, Nat.le_of_ble_eq_true rfl⟩ (Nat.le_of_ble_eq_true rfl) (thr_up hO h) (kkT fun u_2 m_2 e9 => ?_)
  subst e9
  replace h := tbd_inl h
  refine s_load0 X 0 rfl dX11_wish_13 ?_
  refine s_iload_n X 1 rfl dX11_wish_14 ?_
  refine s_iload_n X 2 rfl dX11_wish_15 ?_
  refine s_iload_n X 3 rfl dX11_wish_16 ?_
  refine s_iload X 4 rfl dX11_wish_17 ?_
  obtain ⟨q11, hq10, h⟩ := bnd_some h
  refine s_callV (As := [VI trip_, VI call_, VI other_, VI otherCall_]) X cw_X11_375 SHC_0 rfl dX11_wish_19 (L_C_needChange G trip_ call_ other_ otherCall_ m_2 q11 hq10) rfl ⟨Nat.le_of_ble_eq_true rfl, Nat.le_of_ble_eq_true rfl⟩ ⟨Nat.le_of_ble_eq_true rfl, Nat.le_of_ble_eq_true rfl⟩ (Nat.le_of_ble_eq_true rfl) (thr_up hO h) (kkT fun u_3 m_3 e9 => ?_)
  subst e9
  replace h := tbd_inl h
  refine s_iload X 5 rfl dX11_wish_22 ?_
  refine s_const X (by unfold InR; omega) dX11_wish_24 ?_
  refine s_bipush X (by omega) dX11_wish_25 ?_
  obtain ⟨q15, hq14, h⟩ := bnd_some h
  refine s_callS (As := [VI travellers_, VI 1, VI 99]) X cw_X11_88 dX11_wish_27 (L_C_needNumber G travellers_ 1 99 m_3 q15 hq14) rfl ⟨Nat.le_of_ble_eq_true rfl, Nat.le_of_ble_eq_true rfl⟩ ⟨Nat.le_of_ble_eq_true rfl, Nat.le_of_ble_eq_true rfl⟩ (Nat.le_of_ble_eq_true rfl) (thr_up hO h) (kkT fun u_4 m_4 e9 => ?_)
  subst e9
  replace h := tbd_inl h
  obtain ⟨g17, h⟩ := grd_some h
  refine s_load0 X 0 rfl dX11_wish_30 ?_
  refine s_getR (id := 31) X fk_X11_26 SHC_0 rfl dX11_wish_31 ?_
  refine s_getR (id := 34) X fk_X11_195 SHC_31 rfl dX11_wish_34 ?_
  refine s_iload_n X 1 rfl dX11_wish_37 ?_
  refine s_aaldI (id := (35 + trip_.toNat)) X (by omega) (Or.inl rfl) SHC_34 g17.1 g17.2.1 dX11_wish_38 ?_
  refine s_iload_n X 2 rfl dX11_wish_39 ?_
  refine s_iald X (SHC_r35 g17.1 g17.2.1) g17.2.2.1 g17.2.2.2.1 dX11_wish_40 ?_
  refine s_load0 X 0 rfl dX11_wish_41 ?_
  refine s_getR (id := 31) X fk_X11_26 SHC_0 rfl dX11_wish_42 ?_
  refine s_getR (id := 34) X fk_X11_195 SHC_31 rfl dX11_wish_45 ?_
  refine s_iload_n X 3 rfl dX11_wish_48 ?_
  refine s_aaldI (id := (35 + other_.toNat)) X (by omega) (Or.inl rfl) SHC_34 g17.2.2.2.2.1 g17.2.2.2.2.2.1 dX11_wish_49 ?_
  refine s_iload X 4 rfl dX11_wish_50 ?_
  refine s_iald X (SHC_r35 g17.2.2.2.2.1 g17.2.2.2.2.2.1) g17.2.2.2.2.2.2.1 g17.2.2.2.2.2.2.2 dX11_wish_52 ?_
  refine s_icmpeq_f (tgt := 67) X dX11_wish_53 (by omega) (fun c20 => ?_) (fun c21 => ?_)
  · replace h := ite_neg h c20
    refine s_load0 X 0 rfl dX11_wish_67 ?_
    refine s_getR (id := 400) X fk_X11_72 SHC_0 rfl dX11_wish_68 ?_
    refine s_getI X fk_X11_383 SHC_400 rfl dX11_wish_71 ?_
    refine s_bipush X (by omega) dX11_wish_74 ?_
    refine s_icmplt_f (tgt := 90) X dX11_wish_76 (by omega) (fun c25 => ?_) (fun c26 => ?_)
    · replace h := ite_neg h c25
      refine s_load0 X 0 rfl dX11_wish_90 ?_
      refine s_getR (id := 400) X fk_X11_72 SHC_0 rfl dX11_wish_91 ?_
      refine s_iload_n X 1 rfl dX11_wish_94 ?_
      refine s_iload_n X 2 rfl dX11_wish_95 ?_
      refine s_iload_n X 3 rfl dX11_wish_96 ?_
      refine s_iload X 4 rfl dX11_wish_97 ?_
      refine s_iload X 5 rfl dX11_wish_99 ?_
      obtain ⟨r_, m_5, hq28, h⟩ := bq2_some h
      refine s_callV (As := [VI trip_, VI call_, VI other_, VI otherCall_, VI travellers_]) X cw_X11_386 SHC_400 rfl dX11_wish_101 (L_C_Wishes_add G trip_ call_ other_ otherCall_ travellers_ m_4 (r_, m_5) hq28) rfl ⟨Nat.le_of_ble_eq_true rfl, Nat.le_of_ble_eq_true rfl⟩ ⟨Nat.le_of_ble_eq_true rfl, Nat.le_of_ble_eq_true rfl⟩ (Nat.le_of_ble_eq_true rfl) noT (kkR ?_)
      exact s_iret X (Nat.le_of_ble_eq_true rfl) (Nat.le_of_ble_eq_true rfl) (by cases h; exact hO) dX11_wish_104
    · replace h := ite_pos h c26
      exact s_throwW X th_X11_96_384_100 (by cases h; exact hO) (Nat.le_of_ble_eq_true rfl) (Nat.le_of_ble_eq_true rfl) (Nat.le_of_ble_eq_true rfl) (Nat.le_of_ble_eq_true rfl) dX11_wish_79 dX11_wish_82 dX11_wish_83 dX11_wish_86 dX11_wish_89
  · replace h := ite_pos h c21
    exact s_throwW X th_X11_237_381_241 (by cases h; exact hO) (Nat.le_of_ble_eq_true rfl) (Nat.le_of_ble_eq_true rfl) (Nat.le_of_ble_eq_true rfl) (Nat.le_of_ble_eq_true rfl) dX11_wish_56 dX11_wish_59 dX11_wish_60 dX11_wish_63 dX11_wish_66
set_option maxRecDepth 20000 in
set_option maxHeartbeats 4000000 in
theorem L_C_dropWishes (G : Gl)  (m : Mem) (r : (Int × Mem))  (h : C_dropWishes  m = some r) : Con SHC G yX11_dropWishes cX11_dropWishes 2 (some .int) rm_X11_dropWishes [VR 0] m (((.inl (some (VI r.1)), r.2) : Res × Mem)) := by
  refine con_of (own := "Lastbus") (by decide) rfl (Nat.le_of_ble_eq_true rfl) (fun C X => ?_)
  obtain ⟨O, hO⟩ : ∃ O : Res × Mem, O = (((.inl (some (VI r.1)), r.2) : Res × Mem)) := ⟨_, rfl⟩
  rw [← hO]
  show J SHC G rm_X11_dropWishes (.inl O) C 0 0 0 [(0, VR 0)] [] m
  unfold C_dropWishes at h
  refine s_load0 X 0 rfl dX11_dropWishes_0 ?_
  refine s_getR (id := 400) X fk_X11_72 SHC_0 rfl dX11_dropWishes_1 ?_
  refine s_getI X fk_X11_383 SHC_400 rfl dX11_dropWishes_4 ?_
  obtain ⟨dropped_, e2, h⟩ := ltv_elim h
  refine s_istore_n X e2 rfl (by omega) dX11_dropWishes_7 ?_
  refine s_load0 X 1 rfl dX11_dropWishes_8 ?_
  refine s_getR (id := 400) X fk_X11_72 SHC_0 rfl dX11_dropWishes_9 ?_
  refine s_const X (by unfold InR; omega) dX11_dropWishes_12 ?_
  obtain ⟨m_, e4, h⟩ := ltv_elim h
  refine s_putI X e4 fp_X11_383 SHC_400 rfl trivial dX11_dropWishes_13 ?_
  refine s_iload_n X 0 rfl dX11_dropWishes_16 ?_
  exact s_iret X (Nat.le_of_ble_eq_true rfl) (Nat.le_of_ble_eq_true rfl) (by cases h; exact hO) dX11_dropWishes_17
set_option maxRecDepth 20000 in
set_option maxHeartbeats 4000000 in
theorem L_C_Wishes_tellDelays (G : Gl) (day_ : Int) (m : Mem) (r : Mem)  (h : C_Wishes_tellDelays day_ m = some r) : Con SHC G yX10_tellDelays cX10_tellDelays 5 none rm_X10_tellDelays [VR 400, VI day_] m (((.inl none, r) : Res × Mem)) := by
  refine con_of (own := "Lastbus$Wishes") (by decide) rfl (Nat.le_of_ble_eq_true rfl) (fun C X => ?_)
  obtain ⟨O, hO⟩ : ∃ O : Res × Mem, O = (((.inl none, r) : Res × Mem)) := ⟨_, rfl⟩
  rw [← hO]
  show J SHC G rm_X10_tellDelays (.inl O) C 0 0 0 [(0, VR 400), (1, VI day_)] [] m
  unfold C_Wishes_tellDelays at h
  refine s_const X (by unfold InR; omega) dX10_tellDelays_0 ?_
  obtain ⟨index_, e2, h⟩ := ltv_elim h
  refine s_istore_n X e2 rfl (by omega) dX10_tellDelays_1 ?_
  obtain ⟨index_4, m_5, hl12, h⟩ := bq2_some h
  obtain ⟨fu30, hl13⟩ := loop_iter hl12
  have KX9 : ∀ q9 : Int × Mem, q9 = (index_4, m_5) → J SHC G rm_X10_tellDelays (.inl O) C 0 0 71 [(2, VI q9.1), (0, VR 400), (1, VI day_)] [] (q9.2) := by
    intro q9 e9
    subst e9
    show J SHC G rm_X10_tellDelays (.inl O) C 0 0 71 [(2, VI index_4), (0, VR 400), (1, VI day_)] [] m_5
    exact s_vret X (Nat.le_of_ble_eq_true rfl) (Nat.le_of_ble_eq_true rfl) (by cases h; exact hO) dX10_tellDelays_71
  have LP8 : ∀ (fu3 : Nat) (index_2 : Int) (m_ : Mem), iter (fun s => C_Wishes_tellDelays_b1 day_ s.1 s.2) fu3 (index_2, m_) = some (index_4, m_5) → J SHC G rm_X10_tellDelays (.inl O) C 0 0 2 [(2, VI index_2), (0, VR 400), (1, VI day_)] [] m_ := by
    intro fu3
    induction fu3 with
    | zero => intro index_2 m_ hn4; exact absurd hn4 (by simp [iter])
    | succ fu3 ih7 =>
      intro index_2 m_ hn4
      obtain ⟨x5, h, hc6⟩ := iter_succ hn4
      replace h : C_Wishes_tellDelays_b1 day_ index_2 m_ = some x5 := h
      unfold C_Wishes_tellDelays_b1 at h
      refine s_iload_n X 0 rfl dX10_tellDelays_2 ?_
      refine s_load0 X 1 rfl dX10_tellDelays_3 ?_
      refine s_getR (id := 31) X fk_X10_40 SHC_400 rfl dX10_tellDelays_4 ?_
      refine s_getI X fk_X10_74 SHC_31 rfl dX10_tellDelays_7 ?_
      refine s_icmpge_f (tgt := 71) X dX10_tellDelays_10 (by omega) (fun c17 => ?_) (fun c18 => ?_)
      · replace h := ite_neg h c17
        exact KX9 _ (iter_exit h hc6)
      · replace h := ite_pos h c18
        refine s_load0 X 1 rfl dX10_tellDelays_13 ?_
        refine s_getR (id := 109) X fk_X10_44 SHC_400 rfl dX10_tellDelays_14 ?_
        refine s_iload_n X 2 rfl dX10_tellDelays_17 ?_
        refine s_iload_n X 0 rfl dX10_tellDelays_18 ?_
        obtain ⟨r_, hq20, h⟩ := bnd_some h
        refine s_callV (As := [VI day_, VI index_2]) X cw_X10_75 SHC_109 rfl dX10_tellDelays_19 (L_C_Delays_find G day_ index_2 m_ r_ hq20) rfl ⟨Nat.le_of_ble_eq_true rfl, Nat.le_of_ble_eq_true rfl⟩ ⟨Nat.le_of_ble_eq_true rfl, Nat.le_of_ble_eq_true rfl⟩ (Nat.le_of_ble_eq_true rfl) noT (kkR ?_)
        obtain ⟨entry_, e23, h⟩ := ltv_elim h
        refine s_istore_n X e23 rfl (by omega) dX10_tellDelays_22 ?_
        refine s_const X (by unfold InR; omega) dX10_tellDelays_23 ?_
        obtain ⟨at_, e25, h⟩ := ltv_elim h
        refine s_istore X e25 rfl (by omega) dX10_tellDelays_24 ?_
        obtain ⟨at_4, m_4, hl35, h⟩ := bq2_some h
        obtain ⟨fu260, hl36⟩ := loop_iter hl35
        have KX32 : ∀ q9 : Int × Mem, q9 = (at_4, m_4) → J SHC G rm_X10_tellDelays (.inl O) C 0 0 65 [(4, VI q9.1), (3, VI entry_), (2, VI index_2), (0, VR 400), (1, VI day_)] [] (q9.2) := by
          intro q9 e9
          subst e9
          show J SHC G rm_X10_tellDelays (.inl O) C 0 0 65 [(4, VI at_4), (3, VI entry_), (2, VI index_2), (0, VR 400), (1, VI day_)] [] m_4
          obtain ⟨g49, h⟩ := grd_some h
          obtain ⟨index_3, e50, h⟩ := ltv_elim h
          refine s_iinc X 2 rfl g49 e50 rfl (by omega) dX10_tellDelays_65 ?_
          refine s_goto (tgt := 2) X dX10_tellDelays_68 (by omega) ?_
          refine s_loc [0, 3, 4] rfl ?_
          exact ih7 _ _ (iter_next h hc6)
        have LP31 : ∀ (fu26 : Nat) (at_2 : Int) (m_2 : Mem), iter (fun s => C_Wishes_tellDelays_b2 index_2 entry_ s.1 s.2) fu26 (at_2, m_2) = some (at_4, m_4) → J SHC G rm_X10_tellDelays (.inl O) C 0 0 26 [(4, VI at_2), (3, VI entry_), (2, VI index_2), (0, VR 400), (1, VI day_)] [] m_2 := by
          intro fu26
          induction fu26 with
          | zero => intro at_2 m_2 hn27; exact absurd hn27 (by simp [iter])
          | succ fu26 ih30 =>
            intro at_2 m_2 hn27
            obtain ⟨x28, h, hc29⟩ := iter_succ hn27
            replace h : C_Wishes_tellDelays_b2 index_2 entry_ at_2 m_2 = some x28 := h
            unfold C_Wishes_tellDelays_b2 at h
            obtain ⟨g37, h⟩ := grd_some h
            refine s_iload X 0 rfl dX10_tellDelays_26 ?_
            refine s_load0 X 3 rfl dX10_tellDelays_28 ?_
            refine s_getR (id := 31) X fk_X10_40 SHC_400 rfl dX10_tellDelays_29 ?_
            refine s_getR (id := 33) X fk_X10_81 SHC_31 rfl dX10_tellDelays_32 ?_
            refine s_iload_n X 2 rfl dX10_tellDelays_35 ?_
            refine s_iald X SHC_33 g37.1 g37.2 dX10_tellDelays_36 ?_
            refine s_icmpge_f (tgt := 65) X dX10_tellDelays_37 (by omega) (fun c40 => ?_) (fun c41 => ?_)
            · replace h := ite_neg h c40
              exact KX32 _ (iter_exit h hc29)
            · replace h := ite_pos h c41
              obtain ⟨g42, h⟩ := grd_some h
              refine s_load0 X 3 rfl dX10_tellDelays_40 ?_
              refine s_getR (id := 406) X fk_X10_29 SHC_400 rfl dX10_tellDelays_41 ?_
              refine s_iload_n X 2 rfl dX10_tellDelays_44 ?_
              refine s_aaldI (id := (407 + index_2.toNat)) X (by omega) (Or.inl rfl) SHC_406 g37.1 g37.2 dX10_tellDelays_45 ?_
              refine s_iload X 0 rfl dX10_tellDelays_46 ?_
              refine s_load0 X 3 rfl dX10_tellDelays_48 ?_
              refine s_getR (id := 109) X fk_X10_44 SHC_400 rfl dX10_tellDelays_49 ?_
              refine s_iload_n X 1 rfl dX10_tellDelays_52 ?_
              refine s_iload X 0 rfl dX10_tellDelays_53 ?_
              obtain ⟨r_2, hq43, h⟩ := bnd_some h
              refine s_callV (As := [VI entry_, VI at_2]) X cw_X10_84 SHC_109 rfl dX10_tellDelays_55 (L_C_Delays_at G entry_ at_2 m_2 r_2 hq43) rfl ⟨Nat.le_of_ble_eq_true rfl, Nat.le_of_ble_eq_true rfl⟩ ⟨Nat.le_of_ble_eq_true rfl, Nat.le_of_ble_eq_true rfl⟩ (Nat.le_of_ble_eq_true rfl) noT (kkR ?_)
              obtain ⟨m_3, e46, h⟩ := ltv_elim h
              refine s_iast X e46 (SHC_r407 g37.1 g37.2) g42.1 g42.2 dX10_tellDelays_58 ?_
              obtain ⟨g47, h⟩ := grd_some h
              obtain ⟨at_3, e48, h⟩ := ltv_elim h
              refine s_iinc X 0 rfl g47 e48 rfl (by omega) dX10_tellDelays_59 ?_
              refine s_goto (tgt := 26) X dX10_tellDelays_62 (by omega) ?_
              exact ih30 _ _ (iter_next h hc29)
        exact LP31 _ _ _ hl36
  exact LP8 _ _ _ hl13
set_option maxRecDepth 20000 in
set_option maxHeartbeats 4000000 in
theorem L_C_Wishes_isCounted (G : Gl) (wish_ : Int) (day_ : Int) (m : Mem) (r : Int)  (h : C_Wishes_isCounted wish_ day_ m = some r) : Con SHC G yX10_isCounted cX10_isCounted 3 (some .boolean) rm_X10_isCounted [VR 400, VI wish_, VI day_] m (((.inl (some (VI r)), m) : Res × Mem)) := by
  refine con_of (own := "Lastbus$Wishes") (by decide) rfl (Nat.le_of_ble_eq_true rfl) (fun C X => ?_)
  obtain ⟨O, hO⟩ : ∃ O : Res × Mem, O = (((.inl (some (VI r)), m) : Res × Mem)) := ⟨_, rfl⟩
  rw [← hO]
  show J SHC G rm_X10_isCounted (.inl O) C 0 0 0 [(0, VR 400), (1, VI wish_), (2, VI day_)] [] m
  unfold C_Wishes_isCounted at h
  obtain ⟨g1, h⟩ := grd_some h
  refine s_load0 X 0 rfl dX10_isCounted_0 ?_
  refine s_getR (id := 29) X fk_X10_36 SHC_400 rfl dX10_isCounted_1 ?_
  refine s_load0 X 0 rfl dX10_isCounted_4 ?_
  refine s_getR (id := 31) X fk_X10_40 SHC_400 rfl dX10_isCounted_5 ?_
  refine s_getR (id := 32) X fk_X10_52 SHC_31 rfl dX10_isCounted_8 ?_
  refine s_load0 X 0 rfl dX10_isCounted_11 ?_
  refine s_getR (id := 401) X fk_X10_9 SHC_400 rfl dX10_isCounted_12 ?_
  refine s_iload_n X 1 rfl dX10_isCounted_15 ?_
  refine s_iald X SHC_401 g1.1 g1.2.1 dX10_isCounted_16 ?_
  refine s_iald X SHC_32 g1.2.2.1 g1.2.2.2 dX10_isCounted_17 ?_
  refine s_iload_n X 2 rfl dX10_isCounted_18 ?_
  obtain ⟨r_, hq2, h⟩ := bnd_some h
  refine s_callV (As := [VI (m 32 (m 401 wish_.toNat).toNat), VI day_]) X cw_X10_57 SHC_29 rfl dX10_isCounted_19 (L_C_Services_isOn G (m 32 (m 401 wish_.toNat).toNat) day_ m r_ hq2) rfl ⟨Nat.le_of_ble_eq_true rfl, Nat.le_of_ble_eq_true rfl⟩ ⟨Nat.le_of_ble_eq_true rfl, Nat.le_of_ble_eq_true rfl⟩ (Nat.le_of_ble_eq_true rfl) noT (kkR ?_)
  refine s_ifeq_f (tgt := 54) X dX10_isCounted_22 (by omega) (fun c5 => ?_) (fun c6 => ?_)
  · replace h := ite_neg h c5
    refine s_const X (by unfold InR; omega) dX10_isCounted_54 ?_
    exact s_zret X (Or.inl rfl) (Nat.le_of_ble_eq_true rfl) (Nat.le_of_ble_eq_true rfl) (by cases h; exact hO) dX10_isCounted_55
  · replace h := ite_pos h c6
    obtain ⟨g8, h⟩ := grd_some h
    refine s_load0 X 0 rfl dX10_isCounted_25 ?_
    refine s_getR (id := 29) X fk_X10_36 SHC_400 rfl dX10_isCounted_26 ?_
    refine s_load0 X 0 rfl dX10_isCounted_29 ?_
    refine s_getR (id := 31) X fk_X10_40 SHC_400 rfl dX10_isCounted_30 ?_
    refine s_getR (id := 32) X fk_X10_52 SHC_31 rfl dX10_isCounted_33 ?_
    refine s_load0 X 0 rfl dX10_isCounted_36 ?_
    refine s_getR (id := 403) X fk_X10_18 SHC_400 rfl dX10_isCounted_37 ?_
    refine s_iload_n X 1 rfl dX10_isCounted_40 ?_
    refine s_iald X SHC_403 g1.1 g1.2.1 dX10_isCounted_41 ?_
    refine s_iald X SHC_32 g8.1 g8.2 dX10_isCounted_42 ?_
    refine s_iload_n X 2 rfl dX10_isCounted_43 ?_
    obtain ⟨r_2, hq9, h⟩ := bnd_some h
    refine s_callV (As := [VI (m 32 (m 403 wish_.toNat).toNat), VI day_]) X cw_X10_57 SHC_29 rfl dX10_isCounted_44 (L_C_Services_isOn G (m 32 (m 403 wish_.toNat).toNat) day_ m r_2 hq9) rfl ⟨Nat.le_of_ble_eq_true rfl, Nat.le_of_ble_eq_true rfl⟩ ⟨Nat.le_of_ble_eq_true rfl, Nat.le_of_ble_eq_true rfl⟩ (Nat.le_of_ble_eq_true rfl) noT (kkR ?_)
    refine s_ifeq_f (tgt := 54) X dX10_isCounted_47 (by omega) (fun c12 => ?_) (fun c13 => ?_)
    · replace h := ite_neg h c12
      refine s_const X (by unfold InR; omega) dX10_isCounted_54 ?_
      exact s_zret X (Or.inl rfl) (Nat.le_of_ble_eq_true rfl) (Nat.le_of_ble_eq_true rfl) (by cases h; exact hO) dX10_isCounted_55
    · replace h := ite_pos h c13
      refine s_const X (by unfold InR; omega) dX10_isCounted_50 ?_
      refine s_goto (tgt := 55) X dX10_isCounted_51 (by omega) ?_
      exact s_zret X (Or.inr rfl) (Nat.le_of_ble_eq_true rfl) (Nat.le_of_ble_eq_true rfl) (by cases h; exact hO) dX10_isCounted_55
set_option maxRecDepth 20000 in
set_option maxHeartbeats 4000000 in
theorem L_C_Wishes_gap (G : Gl) (wish_ : Int) (m : Mem) (r : Int)  (h : C_Wishes_gap wish_ m = some r) : Con SHC G yX10_gap cX10_gap 6 (some .int) rm_X10_gap [VR 400, VI wish_] m (((.inl (some (VI r)), m) : Res × Mem)) := by
  refine con_of (own := "Lastbus$Wishes") (by decide) rfl (Nat.le_of_ble_eq_true rfl) (fun C X => ?_)
  obtain ⟨O, hO⟩ : ∃ O : Res × Mem, O = (((.inl (some (VI r)), m) : Res × Mem)) := ⟨_, rfl⟩
  rw [← hO]
  show J SHC G rm_X10_gap (.inl O) C 0 0 0 [(0, VR 400), (1, VI wish_)] [] m
  unfold C_Wishes_gap at h
  obtain ⟨g1, h⟩ := grd_some h
  refine s_load0 X 0 rfl dX10_gap_0 ?_
  refine s_getR (id := 402) X fk_X10_15 SHC_400 rfl dX10_gap_1 ?_
  refine s_iload_n X 1 rfl dX10_gap_4 ?_
  refine s_iald X SHC_402 g1.1 g1.2 dX10_gap_5 ?_
  obtain ⟨off_, e2, h⟩ := ltv_elim h
  refine s_istore_n X e2 rfl (by omega) dX10_gap_6 ?_
  refine s_load0 X 1 rfl dX10_gap_7 ?_
  refine s_getR (id := 404) X fk_X10_21 SHC_400 rfl dX10_gap_8 ?_
  refine s_iload_n X 2 rfl dX10_gap_11 ?_
  refine s_iald X SHC_404 g1.1 g1.2 dX10_gap_12 ?_
  obtain ⟨on_, e4, h⟩ := ltv_elim h
  refine s_istore_n X e4 rfl (by omega) dX10_gap_13 ?_
  obtain ⟨g5, h⟩ := grd_some h
  refine s_load0 X 2 rfl dX10_gap_14 ?_
  refine s_getR (id := 31) X fk_X10_40 SHC_400 rfl dX10_gap_15 ?_
  refine s_getR (id := 59) X fk_X10_103 SHC_31 rfl dX10_gap_18 ?_
  refine s_load0 X 2 rfl dX10_gap_21 ?_
  refine s_getR (id := 401) X fk_X10_9 SHC_400 rfl dX10_gap_22 ?_
  refine s_iload_n X 3 rfl dX10_gap_25 ?_
  refine s_iald X SHC_401 g1.1 g1.2 dX10_gap_26 ?_
  refine s_aaldI (id := (60 + (m 401 wish_.toNat).toNat)) X (by omega) (Or.inl rfl) SHC_59 g5.1 g5.2.1 dX10_gap_27 ?_
  refine s_iload_n X 1 rfl dX10_gap_28 ?_
  refine s_iald X (SHC_r60 g5.1 g5.2.1) g5.2.2.1 g5.2.2.2.1 dX10_gap_29 ?_
  refine s_load0 X 2 rfl dX10_gap_30 ?_
  refine s_getR (id := 406) X fk_X10_29 SHC_400 rfl dX10_gap_31 ?_
  refine s_load0 X 2 rfl dX10_gap_34 ?_
  refine s_getR (id := 401) X fk_X10_9 SHC_400 rfl dX10_gap_35 ?_
  refine s_iload_n X 3 rfl dX10_gap_38 ?_
  refine s_iald X SHC_401 g1.1 g1.2 dX10_gap_39 ?_
  refine s_aaldI (id := (407 + (m 401 wish_.toNat).toNat)) X (by omega) (Or.inl rfl) SHC_406 g5.1 g5.2.1 dX10_gap_40 ?_
  refine s_iload_n X 1 rfl dX10_gap_41 ?_
  refine s_const X (by unfold InR; omega) dX10_gap_42 ?_
  refine s_isub X g5.2.2.2.2.1 dX10_gap_43 ?_
  refine s_iald X (SHC_r407 g5.1 g5.2.1) g5.2.2.2.2.2.1 g5.2.2.2.2.2.2.1 dX10_gap_44 ?_
  refine s_iadd X g5.2.2.2.2.2.2.2 dX10_gap_45 ?_
  obtain ⟨arrival_, e6, h⟩ := ltv_elim h
  refine s_istore X e6 rfl (by omega) dX10_gap_46 ?_
  obtain ⟨g7, h⟩ := grd_some h
  refine s_load0 X 3 rfl dX10_gap_48 ?_
  refine s_getR (id := 31) X fk_X10_40 SHC_400 rfl dX10_gap_49 ?_
  refine s_getR (id := 84) X fk_X10_106 SHC_31 rfl dX10_gap_52 ?_
  refine s_load0 X 3 rfl dX10_gap_55 ?_
  refine s_getR (id := 403) X fk_X10_18 SHC_400 rfl dX10_gap_56 ?_
  refine s_iload_n X 4 rfl dX10_gap_59 ?_
  refine s_iald X SHC_403 g1.1 g1.2 dX10_gap_60 ?_
  refine s_aaldI (id := (85 + (m 403 wish_.toNat).toNat)) X (by omega) (Or.inl rfl) SHC_84 g7.1 g7.2.1 dX10_gap_61 ?_
  refine s_iload_n X 1 rfl dX10_gap_62 ?_
  refine s_iald X (SHC_r85 g7.1 g7.2.1) g7.2.2.1 g7.2.2.2.1 dX10_gap_63 ?_
  refine s_load0 X 3 rfl dX10_gap_64 ?_
  refine s_getR (id := 406) X fk_X10_29 SHC_400 rfl dX10_gap_65 ?_
  refine s_load0 X 3 rfl dX10_gap_68 ?_
  refine s_getR (id := 403) X fk_X10_18 SHC_400 rfl dX10_gap_69 ?_
  refine s_iload_n X 4 rfl dX10_gap_72 ?_
  refine s_iald X SHC_403 g1.1 g1.2 dX10_gap_73 ?_
  refine s_aaldI (id := (407 + (m 403 wish_.toNat).toNat)) X (by omega) (Or.inl rfl) SHC_406 g7.1 g7.2.1 dX10_gap_74 ?_
  refine s_iload_n X 1 rfl dX10_gap_75 ?_
  refine s_iald X (SHC_r407 g7.1 g7.2.1) g7.2.2.1 g7.2.2.2.1 dX10_gap_76 ?_
  refine s_iadd X g7.2.2.2.2 dX10_gap_77 ?_
  obtain ⟨departure_, e8, h⟩ := ltv_elim h
  refine s_istore X e8 rfl (by omega) dX10_gap_78 ?_
  obtain ⟨g9, h⟩ := grd_some h
  refine s_iload X 1 rfl dX10_gap_80 ?_
  refine s_load0 X 4 rfl dX10_gap_82 ?_
  refine s_getR (id := 1) X fk_X10_32 SHC_400 rfl dX10_gap_83 ?_
  refine s_getR (id := 2) X fk_X10_109 SHC_1 rfl dX10_gap_86 ?_
  refine s_load0 X 4 rfl dX10_gap_89 ?_
  refine s_getR (id := 31) X fk_X10_40 SHC_400 rfl dX10_gap_90 ?_
  refine s_getR (id := 34) X fk_X10_114 SHC_31 rfl dX10_gap_93 ?_
  refine s_load0 X 4 rfl dX10_gap_96 ?_
  refine s_getR (id := 401) X fk_X10_9 SHC_400 rfl dX10_gap_97 ?_
  refine s_iload_n X 5 rfl dX10_gap_100 ?_
  refine s_iald X SHC_401 g1.1 g1.2 dX10_gap_101 ?_
  refine s_aaldI (id := (35 + (m 401 wish_.toNat).toNat)) X (by omega) (Or.inl rfl) SHC_34 g5.1 g5.2.1 dX10_gap_102 ?_
  refine s_iload_n X 3 rfl dX10_gap_103 ?_
  refine s_iald X (SHC_r35 g5.1 g5.2.1) g5.2.2.1 g5.2.2.2.1 dX10_gap_104 ?_
  refine s_iald X SHC_2 g9.1 g9.2.1 dX10_gap_105 ?_
  refine s_iadd X g9.2.2.1 dX10_gap_106 ?_
  refine s_iload X 0 rfl dX10_gap_107 ?_
  refine s_isub X g9.2.2.2 dX10_gap_109 ?_
  exact s_iret X (Nat.le_of_ble_eq_true rfl) (Nat.le_of_ble_eq_true rfl) (by cases h; exact hO) dX10_gap_110
set_option maxRecDepth 20000 in
set_option maxHeartbeats 4000000 in
theorem L_C_Wishes_hold (G : Gl) (wish_ : Int) (m : Mem) (r : (Int × Mem))  (h : C_Wishes_hold wish_ m = some r) : Con SHC G yX10_hold cX10_hold 5 (some .boolean) rm_X10_hold [VR 400, VI wish_] m (((.inl (some (VI r.1)), r.2) : Res × Mem)) := by
  refine con_of (own := "Lastbus$Wishes") (by decide) rfl (Nat.le_of_ble_eq_true rfl) (fun C X => ?_)
  obtain ⟨O, hO⟩ : ∃ O : Res × Mem, O = (((.inl (some (VI r.1)), r.2) : Res × Mem)) := ⟨_, rfl⟩
  rw [← hO]
  show J SHC G rm_X10_hold (.inl O) C 0 0 0 [(0, VR 400), (1, VI wish_)] [] m
  unfold C_Wishes_hold at h
  obtain ⟨g1, h⟩ := grd_some h
  refine s_load0 X 0 rfl dX10_hold_0 ?_
  refine s_getR (id := 406) X fk_X10_29 SHC_400 rfl dX10_hold_1 ?_
  refine s_load0 X 0 rfl dX10_hold_4 ?_
  refine s_getR (id := 403) X fk_X10_18 SHC_400 rfl dX10_hold_5 ?_
  refine s_iload_n X 1 rfl dX10_hold_8 ?_
  refine s_iald X SHC_403 g1.1 g1.2.1 dX10_hold_9 ?_
  refine s_aaldI (id := (407 + (m 403 wish_.toNat).toNat)) X (by omega) (Or.inl rfl) SHC_406 g1.2.2.1 g1.2.2.2 dX10_hold_10 ?_
  refine s_astore_n X rfl rfl (by omega) dX10_hold_11 ?_
  obtain ⟨g2, h⟩ := grd_some h
  refine s_load0 X 0 rfl dX10_hold_12 ?_
  refine s_load0 X 1 rfl dX10_hold_13 ?_
  refine s_getR (id := 404) X fk_X10_21 SHC_400 rfl dX10_hold_14 ?_
  refine s_iload_n X 2 rfl dX10_hold_17 ?_
  refine s_iald X SHC_404 g1.1 g1.2.1 dX10_hold_18 ?_
  refine s_iald X (SHC_r407 g1.2.2.1 g1.2.2.2) g2.1 g2.2 dX10_hold_19 ?_
  refine s_load0 X 1 rfl dX10_hold_20 ?_
  refine s_iload_n X 2 rfl dX10_hold_21 ?_
  obtain ⟨r_, hq3, h⟩ := bnd_some h
  refine s_callV (As := [VI wish_]) X cw_X10_94 SHC_400 rfl dX10_hold_22 (L_C_Wishes_gap G wish_ m r_ hq3) rfl ⟨Nat.le_of_ble_eq_true rfl, Nat.le_of_ble_eq_true rfl⟩ ⟨Nat.le_of_ble_eq_true rfl, Nat.le_of_ble_eq_true rfl⟩ (Nat.le_of_ble_eq_true rfl) noT (kkR ?_)
  obtain ⟨g5, h⟩ := grd_some h
  refine s_iadd X g5 dX10_hold_25 ?_
  obtain ⟨need_, e6, h⟩ := ltv_elim h
  refine s_istore_n X e6 rfl (by omega) dX10_hold_26 ?_
  refine s_iload_n X 0 rfl dX10_hold_27 ?_
  refine s_load0 X 1 rfl dX10_hold_28 ?_
  refine s_load0 X 2 rfl dX10_hold_29 ?_
  refine s_getR (id := 404) X fk_X10_21 SHC_400 rfl dX10_hold_30 ?_
  refine s_iload_n X 3 rfl dX10_hold_33 ?_
  refine s_iald X SHC_404 g1.1 g1.2.1 dX10_hold_34 ?_
  refine s_iald X (SHC_r407 g1.2.2.1 g1.2.2.2) g2.1 g2.2 dX10_hold_35 ?_
  refine s_icmpgt_f (tgt := 41) X dX10_hold_36 (by omega) (fun c10 => ?_) (fun c11 => ?_)
  · replace h := ite_neg h c10
    refine s_load0 X 2 rfl dX10_hold_41 ?_
    refine s_getR (id := 404) X fk_X10_21 SHC_400 rfl dX10_hold_42 ?_
    refine s_iload_n X 3 rfl dX10_hold_45 ?_
    refine s_iald X SHC_404 g1.1 g1.2.1 dX10_hold_46 ?_
    obtain ⟨at_, e13, h⟩ := ltv_elim h
    refine s_istore X e13 rfl (by omega) dX10_hold_47 ?_
    obtain ⟨at_4, m_3, hl23, h⟩ := bq2_some h
    obtain ⟨fu140, hl24⟩ := loop_iter hl23
    have KX20 : ∀ q9 : Int × Mem, q9 = (at_4, m_3) → J SHC G rm_X10_hold (.inl O) C 0 0 86 [(4, VI q9.1), (3, VI need_), (2, VR (407 + (m 403 wish_.toNat).toNat)), (0, VR 400), (1, VI wish_)] [] (q9.2) := by
      intro q9 e9
      subst e9
      show J SHC G rm_X10_hold (.inl O) C 0 0 86 [(4, VI at_4), (3, VI need_), (2, VR (407 + (m 403 wish_.toNat).toNat)), (0, VR 400), (1, VI wish_)] [] m_3
      refine s_const X (by unfold InR; omega) dX10_hold_86 ?_
      exact s_zret X (Or.inr rfl) (Nat.le_of_ble_eq_true rfl) (Nat.le_of_ble_eq_true rfl) (by cases h; exact hO) dX10_hold_87
    have LP19 : ∀ (fu14 : Nat) (at_2 : Int) (m_ : Mem), iter (fun s => C_Wishes_hold_b1 wish_ m need_ s.1 s.2) fu14 (at_2, m_) = some (at_4, m_3) → J SHC G rm_X10_hold (.inl O) C 0 0 49 [(4, VI at_2), (3, VI need_), (2, VR (407 + (m 403 wish_.toNat).toNat)), (0, VR 400), (1, VI wish_)] [] m_ := by
      intro fu14
      induction fu14 with
      | zero => intro at_2 m_ hn15; exact absurd hn15 (by simp [iter])
      | succ fu14 ih18 =>
        intro at_2 m_ hn15
        obtain ⟨x16, h, hc17⟩ := iter_succ hn15
        replace h : C_Wishes_hold_b1 wish_ m need_ at_2 m_ = some x16 := h
        unfold C_Wishes_hold_b1 at h
        obtain ⟨g25, h⟩ := grd_some h
        refine s_iload X 0 rfl dX10_hold_49 ?_
        refine s_load0 X 3 rfl dX10_hold_51 ?_
        refine s_getR (id := 31) X fk_X10_40 SHC_400 rfl dX10_hold_52 ?_
        refine s_getR (id := 33) X fk_X10_81 SHC_31 rfl dX10_hold_55 ?_
        refine s_load0 X 3 rfl dX10_hold_58 ?_
        refine s_getR (id := 403) X fk_X10_18 SHC_400 rfl dX10_hold_59 ?_
        refine s_iload_n X 4 rfl dX10_hold_62 ?_
        refine s_iald X SHC_403 g25.1 g25.2.1 dX10_hold_63 ?_
        refine s_iald X SHC_33 g25.2.2.1 g25.2.2.2 dX10_hold_64 ?_
        refine s_icmpge_f (tgt := 86) X dX10_hold_65 (by omega) (fun c28 => ?_) (fun c29 => ?_)
        · replace h := ite_neg h c28
          exact KX20 _ (iter_exit h hc17)
        · replace h := ite_pos h c29
          obtain ⟨g30, h⟩ := grd_some h
          refine s_load0 X 2 rfl dX10_hold_68 ?_
          refine s_iload X 0 rfl dX10_hold_69 ?_
          refine s_load0 X 2 rfl dX10_hold_71 ?_
          refine s_iload X 0 rfl dX10_hold_72 ?_
          refine s_iald X (SHC_r407 g1.2.2.1 g1.2.2.2) g30.1 g30.2 dX10_hold_74 ?_
          refine s_iload_n X 1 rfl dX10_hold_75 ?_
          refine s_max X mm_X10_98 (Nat.le_of_ble_eq_true rfl) (Nat.le_of_ble_eq_true rfl) ⟨Nat.le_of_ble_eq_true rfl, Nat.le_of_ble_eq_true rfl⟩ dX10_hold_76 ?_
          obtain ⟨m_2, e31, h⟩ := ltv_elim h
          refine s_iast X e31 (SHC_r407 g1.2.2.1 g1.2.2.2) g30.1 g30.2 dX10_hold_79 ?_
          obtain ⟨g32, h⟩ := grd_some h
          obtain ⟨at_3, e33, h⟩ := ltv_elim h
          refine s_iinc X 0 rfl g32 e33 rfl (by omega) dX10_hold_80 ?_
          refine s_goto (tgt := 49) X dX10_hold_83 (by omega) ?_
          exact ih18 _ _ (iter_next h hc17)
    exact LP19 _ _ _ hl24
  · replace h := ite_pos h c11
    refine s_const X (by unfold InR; omega) dX10_hold_39 ?_
    exact s_zret X (Or.inl rfl) (Nat.le_of_ble_eq_true rfl) (Nat.le_of_ble_eq_true rfl) (by cases h; exact hO) dX10_hold_40
set_option maxRecDepth 20000 in
set_option maxHeartbeats 4000000 in
theorem L_C_Wishes_holdOnce (G : Gl) (day_ : Int) (mask_ : Int) (m : Mem) (r : (Int × Mem))  (h : C_Wishes_holdOnce day_ mask_ m = some r) : Con SHC G yX10_holdOnce cX10_holdOnce 5 (some .boolean) rm_X10_holdOnce [VR 400, VI day_, VI mask_] m (((.inl (some (VI r.1)), r.2) : Res × Mem)) := by
  refine con_of (own := "Lastbus$Wishes") (by decide) rfl (Nat.le_of_ble_eq_true rfl) (fun C X => ?_)
  obtain ⟨O, hO⟩ : ∃ O : Res × Mem, O = (((.inl (some (VI r.1)), r.2) : Res × Mem)) := ⟨_, rfl⟩
  rw [← hO]
  show J SHC G rm_X10_holdOnce (.inl O) C 0 0 0 [(0, VR 400), (1, VI day_), (2, VI mask_)] [] m
  unfold C_Wishes_holdOnce at h
  refine s_const X (by unfold InR; omega) dX10_holdOnce_0 ?_
  obtain ⟨isMoved_, e2, h⟩ := ltv_elim h
  refine s_istore_n X e2 rfl (by omega) dX10_holdOnce_1 ?_
  refine s_const X (by unfold InR; omega) dX10_holdOnce_2 ?_
  obtain ⟨wish_, e4, h⟩ := ltv_elim h
  refine s_istore X e4 rfl (by omega) dX10_holdOnce_3 ?_
  obtain ⟨isMoved_4, wish_6, m_3, hl14, h⟩ := bq3_some h
  obtain ⟨fu50, hl15⟩ := loop_iter hl14
  have KX11 : ∀ q9 : Int × Int × Mem, q9 = (isMoved_4, wish_6, m_3) → J SHC G rm_X10_holdOnce (.inl O) C 0 0 49 [(4, VI q9.2.1), (3, VI q9.1), (0, VR 400), (1, VI day_), (2, VI mask_)] [] (q9.2.2) := by
    intro q9 e9
    subst e9
    show J SHC G rm_X10_holdOnce (.inl O) C 0 0 49 [(4, VI wish_6), (3, VI isMoved_4), (0, VR 400), (1, VI day_), (2, VI mask_)] [] m_3
    obtain ⟨g43, h⟩ := grd_some h
    refine s_iload_n X 1 rfl dX10_holdOnce_49 ?_
    exact s_zret X g43 (Nat.le_of_ble_eq_true rfl) (Nat.le_of_ble_eq_true rfl) (by cases h; exact hO) dX10_holdOnce_50
  have LP10 : ∀ (fu5 : Nat) (isMoved_2 : Int) (wish_2 : Int) (m_ : Mem), iter (fun s => C_Wishes_holdOnce_b1 day_ mask_ s.1 s.2.1 s.2.2) fu5 (isMoved_2, wish_2, m_) = some (isMoved_4, wish_6, m_3) → J SHC G rm_X10_holdOnce (.inl O) C 0 0 5 [(4, VI wish_2), (3, VI isMoved_2), (0, VR 400), (1, VI day_), (2, VI mask_)] [] m_ := by
    intro fu5
    induction fu5 with
    | zero => intro isMoved_2 wish_2 m_ hn6; exact absurd hn6 (by simp [iter])
    | succ fu5 ih9 =>
      intro isMoved_2 wish_2 m_ hn6
      obtain ⟨x7, h, hc8⟩ := iter_succ hn6
      replace h : C_Wishes_holdOnce_b1 day_ mask_ isMoved_2 wish_2 m_ = some x7 := h
      unfold C_Wishes_holdOnce_b1 at h
      refine s_iload X 0 rfl dX10_holdOnce_5 ?_
      refine s_load0 X 2 rfl dX10_holdOnce_7 ?_
      refine s_getI X fk_X10_48 SHC_400 rfl dX10_holdOnce_8 ?_
      refine s_icmpge_f (tgt := 49) X dX10_holdOnce_11 (by omega) (fun c19 => ?_) (fun c20 => ?_)
      · replace h := ite_neg h c19
        exact KX11 _ (iter_exit h hc8)
      · replace h := ite_pos h c20
        refine s_iload_n X 4 rfl dX10_holdOnce_14 ?_
        refine s_iload X 0 rfl dX10_holdOnce_15 ?_
        refine s_ishr X dX10_holdOnce_17 ?_
        refine s_const X (by unfold InR; omega) dX10_holdOnce_18 ?_
        refine s_iand X dX10_holdOnce_19 ?_
        refine s_const X (by unfold InR; omega) dX10_holdOnce_20 ?_
        refine s_icmpne_f (tgt := 43) X dX10_holdOnce_21 (by omega) (fun c24 => ?_) (fun c25 => ?_)
        · replace h := ite_neg h c24
          obtain ⟨g26, h⟩ := grd_some h
          obtain ⟨wish_3, e27, h⟩ := ltv_elim h
          refine s_iinc X 0 rfl g26 e27 rfl (by omega) dX10_holdOnce_43 ?_
          refine s_goto (tgt := 5) X dX10_holdOnce_46 (by omega) ?_
          exact ih9 _ _ _ (iter_next h hc8)
        · replace h := ite_pos h c25
          refine s_load0 X 2 rfl dX10_holdOnce_24 ?_
          refine s_iload X 0 rfl dX10_holdOnce_25 ?_
          refine s_iload_n X 3 rfl dX10_holdOnce_27 ?_
          obtain ⟨r_, hq29, h⟩ := bnd_some h
          refine s_callV (As := [VI wish_2, VI day_]) X cw_X10_87 SHC_400 rfl dX10_holdOnce_28 (L_C_Wishes_isCounted G wish_2 day_ m_ r_ hq29) rfl ⟨Nat.le_of_ble_eq_true rfl, Nat.le_of_ble_eq_true rfl⟩ ⟨Nat.le_of_ble_eq_true rfl, Nat.le_of_ble_eq_true rfl⟩ (Nat.le_of_ble_eq_true rfl) noT (kkR ?_)
          refine s_ifeq_f (tgt := 43) X dX10_holdOnce_31 (by omega) (fun c32 => ?_) (fun c33 => ?_)
          · replace h := ite_neg h c32
            obtain ⟨g34, h⟩ := grd_some h
            obtain ⟨wish_4, e35, h⟩ := ltv_elim h
            refine s_iinc X 0 rfl g34 e35 rfl (by omega) dX10_holdOnce_43 ?_
            refine s_goto (tgt := 5) X dX10_holdOnce_46 (by omega) ?_
            exact ih9 _ _ _ (iter_next h hc8)
          · replace h := ite_pos h c33
            refine s_iload_n X 1 rfl dX10_holdOnce_34 ?_
            refine s_load0 X 2 rfl dX10_holdOnce_35 ?_
            refine s_iload X 0 rfl dX10_holdOnce_36 ?_
            obtain ⟨r_2, m_2, hq37, h⟩ := bq2_some h
            refine s_callV (As := [VI wish_2]) X cw_X10_90 SHC_400 rfl dX10_holdOnce_38 (L_C_Wishes_hold G wish_2 m_ (r_2, m_2) hq37) rfl ⟨Nat.le_of_ble_eq_true rfl, Nat.le_of_ble_eq_true rfl⟩ ⟨Nat.le_of_ble_eq_true rfl, Nat.le_of_ble_eq_true rfl⟩ (Nat.le_of_ble_eq_true rfl) noT (kkR ?_)
            refine s_ior X dX10_holdOnce_41 ?_
            obtain ⟨isMoved_3, e40, h⟩ := ltv_elim h
            refine s_istore_n X e40 rfl (by omega) dX10_holdOnce_42 ?_
            obtain ⟨g41, h⟩ := grd_some h
            obtain ⟨wish_5, e42, h⟩ := ltv_elim h
            refine s_iinc X 1 rfl g41 e42 rfl (by omega) dX10_holdOnce_43 ?_
            refine s_goto (tgt := 5) X dX10_holdOnce_46 (by omega) ?_
            exact ih9 _ _ _ (iter_next h hc8)
  exact LP10 _ _ _ _ hl15
set_option maxRecDepth 20000 in
set_option maxHeartbeats 4000000 in
theorem L_C_Wishes_isWithinLimit (G : Gl)  (m : Mem) (r : Int)  (h : C_Wishes_isWithinLimit  m = some r) : Con SHC G yX10_isWithinLimit cX10_isWithinLimit 2 (some .boolean) rm_X10_isWithinLimit [VR 400] m (((.inl (some (VI r)), m) : Res × Mem)) := by
  refine con_of (own := "Lastbus$Wishes") (by decide) rfl (Nat.le_of_ble_eq_true rfl) (fun C X => ?_)
  obtain ⟨O, hO⟩ : ∃ O : Res × Mem, O = (((.inl (some (VI r)), m) : Res × Mem)) := ⟨_, rfl⟩
  rw [← hO]
  show J SHC G rm_X10_isWithinLimit (.inl O) C 0 0 0 [(0, VR 400)] [] m
  unfold C_Wishes_isWithinLimit at h
  refine s_const X (by unfold InR; omega) dX10_isWithinLimit_0 ?_
  obtain ⟨wish_, e2, h⟩ := ltv_elim h
  refine s_istore_n X e2 rfl (by omega) dX10_isWithinLimit_1 ?_
  obtain ⟨s10, hl12, h⟩ := br1_some h
  obtain ⟨fu30, hl13⟩ := loop_iter hl12
  have KR11 : ∀ q9 : Int, .inr q9 = s10 → O = ((.inl (some (VI q9)), m) : Res × Mem) := by
    intro q9 e9
    subst e9
    replace h := brm1_inr h
    exact (by cases h; exact hO)
  have KX9 : ∀ q9 : Int, .inl q9 = s10 → J SHC G rm_X10_isWithinLimit (.inl O) C 0 0 42 [(1, VI q9), (0, VR 400)] [] m := by
    intro q9 e9
    subst e9
    replace h := brm1_inl h
    obtain ⟨wish_4, e8⟩ : ∃ z, z = q9 := ⟨_, rfl⟩
    subst e8
    show J SHC G rm_X10_isWithinLimit (.inl O) C 0 0 42 [(1, VI wish_4), (0, VR 400)] [] m
    refine s_const X (by unfold InR; omega) dX10_isWithinLimit_42 ?_
    exact s_zret X (Or.inr rfl) (Nat.le_of_ble_eq_true rfl) (Nat.le_of_ble_eq_true rfl) (by cases h; exact hO) dX10_isWithinLimit_43
  have LP8 : ∀ (fu3 : Nat) (wish_2 : Int), iter (fun s => C_Wishes_isWithinLimit_b1 m s) fu3 wish_2 = some s10 → J SHC G rm_X10_isWithinLimit (.inl O) C 0 0 2 [(1, VI wish_2), (0, VR 400)] [] m := by
    intro fu3
    induction fu3 with
    | zero => intro wish_2 hn4; exact absurd hn4 (by simp [iter])
    | succ fu3 ih7 =>
      intro wish_2 hn4
      obtain ⟨x5, h, hc6⟩ := iter_succ hn4
      replace h : C_Wishes_isWithinLimit_b1 m wish_2 = some x5 := h
      unfold C_Wishes_isWithinLimit_b1 at h
      refine s_iload_n X 0 rfl dX10_isWithinLimit_2 ?_
      refine s_load0 X 1 rfl dX10_isWithinLimit_3 ?_
      refine s_getI X fk_X10_48 SHC_400 rfl dX10_isWithinLimit_4 ?_
      refine s_icmpge_f (tgt := 42) X dX10_isWithinLimit_7 (by omega) (fun c17 => ?_) (fun c18 => ?_)
      · replace h := ite_neg h c17
        exact KX9 _ (iter_exit h hc6)
      · replace h := ite_pos h c18
        obtain ⟨g19, h⟩ := grd_some h
        refine s_load0 X 1 rfl dX10_isWithinLimit_10 ?_
        refine s_getR (id := 406) X fk_X10_29 SHC_400 rfl dX10_isWithinLimit_11 ?_
        refine s_load0 X 1 rfl dX10_isWithinLimit_14 ?_
        refine s_getR (id := 403) X fk_X10_18 SHC_400 rfl dX10_isWithinLimit_15 ?_
        refine s_iload_n X 0 rfl dX10_isWithinLimit_18 ?_
        refine s_iald X SHC_403 g19.1 g19.2.1 dX10_isWithinLimit_19 ?_
        refine s_aaldI (id := (407 + (m 403 wish_2.toNat).toNat)) X (by omega) (Or.inl rfl) SHC_406 g19.2.2.1 g19.2.2.2.1 dX10_isWithinLimit_20 ?_
        refine s_load0 X 1 rfl dX10_isWithinLimit_21 ?_
        refine s_getR (id := 404) X fk_X10_21 SHC_400 rfl dX10_isWithinLimit_22 ?_
        refine s_iload_n X 0 rfl dX10_isWithinLimit_25 ?_
        refine s_iald X SHC_404 g19.1 g19.2.1 dX10_isWithinLimit_26 ?_
        refine s_iald X (SHC_r407 g19.2.2.1 g19.2.2.2.1) g19.2.2.2.2.1 g19.2.2.2.2.2 dX10_isWithinLimit_27 ?_
        refine s_sipush X (by omega) dX10_isWithinLimit_28 ?_
        refine s_icmple_f (tgt := 36) X dX10_isWithinLimit_31 (by omega) (fun c22 => ?_) (fun c23 => ?_)
        · replace h := ite_neg h c22
          obtain ⟨g24, h⟩ := grd_some h
          obtain ⟨wish_3, e25, h⟩ := ltv_elim h
          refine s_iinc X 0 rfl g24 e25 rfl (by omega) dX10_isWithinLimit_36 ?_
          refine s_goto (tgt := 2) X dX10_isWithinLimit_39 (by omega) ?_
          exact ih7 _ (iter_next h hc6)
        · replace h := ite_pos h c23
          refine s_const X (by unfold InR; omega) dX10_isWithinLimit_34 ?_
          exact s_zret X (Or.inl rfl) (Nat.le_of_ble_eq_true rfl) (Nat.le_of_ble_eq_true rfl) (KR11 _ (iter_exit h hc6)) dX10_isWithinLimit_35
  exact LP8 _ _ hl13
set_option maxRecDepth 20000 in
set_option maxHeartbeats 4000000 in
theorem L_C_Wishes_spread (G : Gl) (day_ : Int) (mask_ : Int) (m : Mem) (r : (Int × Mem))  (h : C_Wishes_spread day_ mask_ m = some r) : Con SHC G yX10_spread cX10_spread 5 (some .boolean) rm_X10_spread [VR 400, VI day_, VI mask_] m (((.inl (some (VI r.1)), r.2) : Res × Mem)) := by
  refine con_of (own := "Lastbus$Wishes") (by decide) rfl (Nat.le_of_ble_eq_true rfl) (fun C X => ?_)
  obtain ⟨O, hO⟩ : ∃ O : Res × Mem, O = (((.inl (some (VI r.1)), r.2) : Res × Mem)) := ⟨_, rfl⟩
  rw [← hO]
  show J SHC G rm_X10_spread (.inl O) C 0 0 0 [(0, VR 400), (1, VI day_), (2, VI mask_)] [] m
  unfold C_Wishes_spread at h
  refine s_load0 X 0 rfl dX10_spread_0 ?_
  refine s_iload_n X 1 rfl dX10_spread_1 ?_
  obtain ⟨m_, hq2, h⟩ := bnd_some h
  refine s_callV (As := [VI day_]) X cw_X10_63 SHC_400 rfl dX10_spread_2 (L_C_Wishes_tellDelays G day_ m m_ hq2) rfl ⟨Nat.le_of_ble_eq_true rfl, Nat.le_of_ble_eq_true rfl⟩ ⟨Nat.le_of_ble_eq_true rfl, Nat.le_of_ble_eq_true rfl⟩ (Nat.le_of_ble_eq_true rfl) noT (kkU ?_)
  refine s_const X (by unfold InR; omega) dX10_spread_5 ?_
  obtain ⟨isMoved_, e6, h⟩ := ltv_elim h
  refine s_istore_n X e6 rfl (by omega) dX10_spread_6 ?_
  refine s_const X (by unfold InR; omega) dX10_spread_7 ?_
  obtain ⟨turn_, e8, h⟩ := ltv_elim h
  refine s_istore X e8 rfl (by omega) dX10_spread_8 ?_
  obtain ⟨isMoved_4, turn_4, m_4, hl18, h⟩ := bq3_some h
  obtain ⟨fu90, hl19⟩ := loop_iter hl18
  have KX15 : ∀ q9 : Int × Int × Mem, q9 = (isMoved_4, turn_4, m_4) → J SHC G rm_X10_spread (.inl O) C 0 0 36 [(4, VI q9.2.1), (3, VI q9.1), (0, VR 400), (1, VI day_), (2, VI mask_)] [] (q9.2.2) := by
    intro q9 e9
    subst e9
    show J SHC G rm_X10_spread (.inl O) C 0 0 36 [(4, VI turn_4), (3, VI isMoved_4), (0, VR 400), (1, VI day_), (2, VI mask_)] [] m_4
    refine s_iload_n X 1 rfl dX10_spread_36 ?_
    refine s_ifne_f (tgt := 51) X dX10_spread_37 (by omega) (fun c39 => ?_) (fun c40 => ?_)
    · replace h := ite_neg h c39
      refine s_const X (by unfold InR; omega) dX10_spread_51 ?_
      exact s_zret X (Or.inl rfl) (Nat.le_of_ble_eq_true rfl) (Nat.le_of_ble_eq_true rfl) (by cases h; exact hO) dX10_spread_52
    · replace h := ite_pos h c40
      refine s_load0 X 2 rfl dX10_spread_40 ?_
      obtain ⟨r_2, hq43, h⟩ := bnd_some h
      refine s_callV (As := []) X cw_X10_70 SHC_400 rfl dX10_spread_41 (L_C_Wishes_isWithinLimit G m_4 r_2 hq43) rfl ⟨Nat.le_of_ble_eq_true rfl, Nat.le_of_ble_eq_true rfl⟩ ⟨Nat.le_of_ble_eq_true rfl, Nat.le_of_ble_eq_true rfl⟩ (Nat.le_of_ble_eq_true rfl) noT (kkR ?_)
      refine s_ifeq_f (tgt := 51) X dX10_spread_44 (by omega) (fun c46 => ?_) (fun c47 => ?_)
      · replace h := ite_neg h c46
        refine s_const X (by unfold InR; omega) dX10_spread_51 ?_
        exact s_zret X (Or.inl rfl) (Nat.le_of_ble_eq_true rfl) (Nat.le_of_ble_eq_true rfl) (by cases h; exact hO) dX10_spread_52
      · replace h := ite_pos h c47
        refine s_const X (by unfold InR; omega) dX10_spread_47 ?_
        refine s_goto (tgt := 52) X dX10_spread_48 (by omega) ?_
        exact s_zret X (Or.inr rfl) (Nat.le_of_ble_eq_true rfl) (Nat.le_of_ble_eq_true rfl) (by cases h; exact hO) dX10_spread_52
  have LP14 : ∀ (fu9 : Nat) (isMoved_2 : Int) (turn_2 : Int) (m_2 : Mem), iter (fun s => C_Wishes_spread_b1 day_ mask_ s.1 s.2.1 s.2.2) fu9 (isMoved_2, turn_2, m_2) = some (isMoved_4, turn_4, m_4) → J SHC G rm_X10_spread (.inl O) C 0 0 10 [(4, VI turn_2), (3, VI isMoved_2), (0, VR 400), (1, VI day_), (2, VI mask_)] [] m_2 := by
    intro fu9
    induction fu9 with
    | zero => intro isMoved_2 turn_2 m_2 hn10; exact absurd hn10 (by simp [iter])
    | succ fu9 ih13 =>
      intro isMoved_2 turn_2 m_2 hn10
      obtain ⟨x11, h, hc12⟩ := iter_succ hn10
      replace h : C_Wishes_spread_b1 day_ mask_ isMoved_2 turn_2 m_2 = some x11 := h
      unfold C_Wishes_spread_b1 at h
      have kF22 : ¬ ((turn_2 ≤ m_2 400 4) ∧ (¬ isMoved_2 = 0)) → J SHC G rm_X10_spread (.inl O) C 0 0 36 [(4, VI turn_2), (3, VI isMoved_2), (0, VR 400), (1, VI day_), (2, VI mask_)] [] m_2 := by
        intro c25
        replace h := ite_neg h c25
        exact KX15 _ (iter_exit h hc12)
      refine s_iload X 0 rfl dX10_spread_10 ?_
      refine s_load0 X 2 rfl dX10_spread_12 ?_
      refine s_getI X fk_X10_48 SHC_400 rfl dX10_spread_13 ?_
      refine s_icmpgt_f (tgt := 36) X dX10_spread_16 (by omega) (fun c23 => ?_) (fun c24 => ?_)
      · exact kF22 (fun q => c23 q.1)
      · have a26 : turn_2 ≤ m_2 400 4 := c24
        refine s_iload_n X 1 rfl dX10_spread_19 ?_
        refine s_ifeq_f (tgt := 36) X dX10_spread_20 (by omega) (fun c27 => ?_) (fun c28 => ?_)
        · exact kF22 (fun q => c27 q.2)
        · replace h := ite_pos h ⟨a26, c28⟩
          refine s_load0 X 2 rfl dX10_spread_23 ?_
          refine s_iload_n X 3 rfl dX10_spread_24 ?_
          refine s_iload_n X 4 rfl dX10_spread_25 ?_
          obtain ⟨r_, m_3, hq30, h⟩ := bq2_some h
          refine s_callV (As := [VI day_, VI mask_]) X cw_X10_67 SHC_400 rfl dX10_spread_26 (L_C_Wishes_holdOnce G day_ mask_ m_2 (r_, m_3) hq30) rfl ⟨Nat.le_of_ble_eq_true rfl, Nat.le_of_ble_eq_true rfl⟩ ⟨Nat.le_of_ble_eq_true rfl, Nat.le_of_ble_eq_true rfl⟩ (Nat.le_of_ble_eq_true rfl) noT (kkR ?_)
          obtain ⟨isMoved_3, e33, h⟩ := ltv_elim h
          refine s_istore_n X e33 rfl (by omega) dX10_spread_29 ?_
          obtain ⟨g34, h⟩ := grd_some h
          obtain ⟨turn_3, e35, h⟩ := ltv_elim h
          refine s_iinc X 1 rfl g34 e35 rfl (by omega) dX10_spread_30 ?_
          refine s_goto (tgt := 10) X dX10_spread_33 (by omega) ?_
          exact ih13 _ _ _ (iter_next h hc12)
  exact LP14 _ _ _ _ hl19
