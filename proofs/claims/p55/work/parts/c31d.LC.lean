/-! ===== printed by a program out of the Java source and the decode rows: 31d.LC ===== -/
set_option maxRecDepth 20000 in
set_option maxHeartbeats 4000000 in
theorem L_C_byPairs (G : Gl) (from_ : Int) (to_ : Int) (day_ : Int) (minute_ : Int) (m : Mem) (r : ((Int ⊕ Nat) × Mem))  (h : C_byPairs from_ to_ day_ minute_ m = some r) : Con SHC G yX11_byPairs cX11_byPairs 6 (some .int) rm_X11_byPairs [VR 0, VI from_, VI to_, VI day_, VI minute_] m (oT wI r) := by
  refine con_of (own := "Lastbus") (by decide) rfl (Nat.le_of_ble_eq_true rfl) (fun C X => ?_)
  obtain ⟨O, hO⟩ : ∃ O : Res × Mem, O = (oT wI r) := ⟨_, rfl⟩
  rw [← hO]
  show J SHC G rm_X11_byPairs (.inl O) C 0 0 0 [(0, VR 0), (1, VI from_), (2, VI to_), (3, VI day_), (4, VI minute_)] [] m
  unfold C_byPairs at h
  refine s_load0 X 0 rfl dX11_byPairs_0 ?_
  refine s_iload_n X 1 rfl dX11_byPairs_1 ?_
  refine s_iload_n X 2 rfl dX11_byPairs_2 ?_
  refine s_iload_n X 3 rfl dX11_byPairs_3 ?_
  refine s_iload X 4 rfl dX11_byPairs_4 ?_
  obtain ⟨q3, hq2, h⟩ := bnd_some h
  refine s_callV (As := [VI from_, VI to_, VI day_, VI minute_]) X cw_X11_277 SHC_0 rfl dX11_byPairs_6 (L_C_needWay G from_ to_ day_ minute_ m q3 hq2) rfl ⟨Nat.le_of_ble_eq_true rfl, Nat.le_of_ble_eq_true rfl⟩ ⟨Nat.le_of_ble_eq_true rfl, Nat.le_of_ble_eq_true rfl⟩ (Nat.le_of_ble_eq_true rfl) (thr_up hO h) (kkT fun u_ m_ e9 => ?_)
  subst e9
  replace h := tbd_inl h
  refine s_iload_n X 1 rfl dX11_byPairs_9 ?_
  refine s_iload_n X 2 rfl dX11_byPairs_10 ?_
  refine s_icmpne_f (tgt := 17) X dX11_byPairs_11 (by omega) (fun c8 => ?_) (fun c9 => ?_)
  · replace h := ite_neg h c8
    refine s_load0 X 0 rfl dX11_byPairs_17 ?_
    refine s_getR (id := 119) X fk_X11_49 SHC_0 rfl dX11_byPairs_18 ?_
    refine s_iload_n X 3 rfl dX11_byPairs_21 ?_
    refine s_const X (by unfold InR; omega) dX11_byPairs_22 ?_
    refine s_const X (by unfold InR; omega) dX11_byPairs_23 ?_
    obtain ⟨m_2, hq11, h⟩ := bnd_some h
    refine s_callV (As := [VI day_, VI (-1), VI 0]) X cw_X11_280 SHC_119 rfl dX11_byPairs_24 (L_C_Net_lay G day_ (-1) 0 m_ m_2 hq11) rfl ⟨Nat.le_of_ble_eq_true rfl, Nat.le_of_ble_eq_true rfl⟩ ⟨Nat.le_of_ble_eq_true rfl, Nat.le_of_ble_eq_true rfl⟩ (Nat.le_of_ble_eq_true rfl) noT (kkU ?_)
    refine s_load0 X 0 rfl dX11_byPairs_27 ?_
    refine s_getR (id := 345) X fk_X11_58 SHC_0 rfl dX11_byPairs_28 ?_
    refine s_iload_n X 1 rfl dX11_byPairs_31 ?_
    refine s_iload_n X 2 rfl dX11_byPairs_32 ?_
    obtain ⟨m_3, hq15, h⟩ := bnd_some h
    refine s_callV (As := [VI from_, VI to_]) X cw_X11_352 SHC_345 rfl dX11_byPairs_33 (L_C_Search_collectPairs G from_ to_ m_2 m_3 hq15) rfl ⟨Nat.le_of_ble_eq_true rfl, Nat.le_of_ble_eq_true rfl⟩ ⟨Nat.le_of_ble_eq_true rfl, Nat.le_of_ble_eq_true rfl⟩ (Nat.le_of_ble_eq_true rfl) noT (kkU ?_)
    refine s_load0 X 0 rfl dX11_byPairs_36 ?_
    refine s_getR (id := 345) X fk_X11_58 SHC_0 rfl dX11_byPairs_37 ?_
    refine s_iload X 4 rfl dX11_byPairs_40 ?_
    obtain ⟨r_, hq19, h⟩ := bnd_some h
    refine s_callV (As := [VI minute_]) X cw_X11_355 SHC_345 rfl dX11_byPairs_42 (L_C_Search_pairArrivalFrom G minute_ m_3 r_ hq19) rfl ⟨Nat.le_of_ble_eq_true rfl, Nat.le_of_ble_eq_true rfl⟩ ⟨Nat.le_of_ble_eq_true rfl, Nat.le_of_ble_eq_true rfl⟩ (Nat.le_of_ble_eq_true rfl) noT (kkR ?_)
    obtain ⟨g21, h⟩ := grd_some h
    refine s_iload X 4 rfl dX11_byPairs_45 ?_
    refine s_load0 X 0 rfl dX11_byPairs_47 ?_
    refine s_getR (id := 1) X fk_X11_12 SHC_0 rfl dX11_byPairs_48 ?_
    refine s_getR (id := 16) X fk_X11_125 SHC_1 rfl dX11_byPairs_51 ?_
    refine s_iload_n X 1 rfl dX11_byPairs_54 ?_
    refine s_aaldI (id := (17 + from_.toNat)) X (by omega) (Or.inl rfl) SHC_16 g21.1 g21.2.1 dX11_byPairs_55 ?_
    refine s_iload_n X 2 rfl dX11_byPairs_56 ?_
    refine s_iald X (SHC_r17 g21.1 g21.2.1) g21.2.2.1 g21.2.2.2.1 dX11_byPairs_57 ?_
    refine s_iadd X g21.2.2.2.2 dX11_byPairs_58 ?_
    refine s_min X mm_X11_358 (Nat.le_of_ble_eq_true rfl) (Nat.le_of_ble_eq_true rfl) ⟨Nat.le_of_ble_eq_true rfl, Nat.le_of_ble_eq_true rfl⟩ dX11_byPairs_59 ?_
    obtain ⟨found_, e22, h⟩ := ltv_elim h
    refine s_istore X e22 rfl (by omega) dX11_byPairs_62 ?_
    refine s_iload X 0 rfl dX11_byPairs_64 ?_
    obtain ⟨q25, hq24, h⟩ := bnd_some h
    refine s_callS (As := [VI found_]) X cw_X11_128 dX11_byPairs_66 (L_C_needFound G found_ m_3 q25 hq24) rfl ⟨Nat.le_of_ble_eq_true rfl, Nat.le_of_ble_eq_true rfl⟩ ⟨Nat.le_of_ble_eq_true rfl, Nat.le_of_ble_eq_true rfl⟩ (Nat.le_of_ble_eq_true rfl) (thr_up hO h) (kkT fun u_2 m_4 e9 => ?_)
    subst e9
    replace h := tbd_inl h
    refine s_iload X 0 rfl dX11_byPairs_69 ?_
    exact s_iret X (Nat.le_of_ble_eq_true rfl) (Nat.le_of_ble_eq_true rfl) (by cases h; exact hO) dX11_byPairs_71
  · replace h := ite_pos h c9
    refine s_iload X 4 rfl dX11_byPairs_14 ?_
    exact s_iret X (Nat.le_of_ble_eq_true rfl) (Nat.le_of_ble_eq_true rfl) (by cases h; exact hO) dX11_byPairs_16
set_option maxRecDepth 20000 in
set_option maxHeartbeats 4000000 in
theorem L_C_Rounds_isChoice (G : Gl) (round_ : Int) (to_ : Int) (m : Mem) (r : Int)  (h : C_Rounds_isChoice round_ to_ m = some r) : Con SHC G yX4_isChoice cX4_isChoice 4 (some .boolean) rm_X4_isChoice [VR 355, VI round_, VI to_] m (((.inl (some (VI r)), m) : Res × Mem)) := by
  refine con_of (own := "Lastbus$Rounds") (by decide) rfl (Nat.le_of_ble_eq_true rfl) (fun C X => ?_)
  obtain ⟨O, hO⟩ : ∃ O : Res × Mem, O = (((.inl (some (VI r)), m) : Res × Mem)) := ⟨_, rfl⟩
  rw [← hO]
  show J SHC G rm_X4_isChoice (.inl O) C 0 0 0 [(0, VR 355), (1, VI round_), (2, VI to_)] [] m
  unfold C_Rounds_isChoice at h
  obtain ⟨kj_, hk2, h⟩ := ltv_elim h
  have K3 : ∀ (v_ : Int), kj_ v_ = some r → J SHC G rm_X4_isChoice (.inl O) C 0 0 21 [(0, VR 355), (1, VI round_), (2, VI to_)] [VI v_] m := by
    intro v_ h
    subst hk2
    dsimp only at h
    obtain ⟨fewer_, e14, h⟩ := ltv_elim h
    refine s_istore_n X e14 rfl (by omega) dX4_isChoice_21 ?_
    obtain ⟨g15, h⟩ := grd_some h
    refine s_load0 X 1 rfl dX4_isChoice_22 ?_
    refine s_getR (id := 356) X fk_X4_11 SHC_355 rfl dX4_isChoice_23 ?_
    refine s_iload_n X 2 rfl dX4_isChoice_26 ?_
    refine s_aaldI (id := (361 + 3 * round_.toNat)) X (by omega) (Or.inr rfl) SHC_356 g15.1 g15.2 dX4_isChoice_27 ?_
    refine s_iload_n X 3 rfl dX4_isChoice_28 ?_
    obtain ⟨r_2, hq16, h⟩ := bnd_some h
    refine s_callV (As := [VI to_]) X cw_X4_82 (shLab (labRow g15.1 g15.2)) rfl dX4_isChoice_29 (L_C_Labels_at G (361 + 3 * round_.toNat) to_ m r_2 (labRow g15.1 g15.2) hq16) rfl ⟨Nat.le_of_ble_eq_true rfl, Nat.le_of_ble_eq_true rfl⟩ ⟨Nat.le_of_ble_eq_true rfl, Nat.le_of_ble_eq_true rfl⟩ (Nat.le_of_ble_eq_true rfl) noT (kkR ?_)
    refine s_iload_n X 0 rfl dX4_isChoice_32 ?_
    refine s_icmpge_f (tgt := 40) X dX4_isChoice_33 (by omega) (fun c19 => ?_) (fun c20 => ?_)
    · replace h := ite_neg h c19
      refine s_const X (by unfold InR; omega) dX4_isChoice_40 ?_
      exact s_zret X (Or.inl rfl) (Nat.le_of_ble_eq_true rfl) (Nat.le_of_ble_eq_true rfl) (by cases h; exact hO) dX4_isChoice_41
    · replace h := ite_pos h c20
      refine s_const X (by unfold InR; omega) dX4_isChoice_36 ?_
      refine s_goto (tgt := 41) X dX4_isChoice_37 (by omega) ?_
      exact s_zret X (Or.inr rfl) (Nat.le_of_ble_eq_true rfl) (Nat.le_of_ble_eq_true rfl) (by cases h; exact hO) dX4_isChoice_41
  refine s_iload_n X 1 rfl dX4_isChoice_0 ?_
  refine s_ifne_f (tgt := 9) X dX4_isChoice_1 (by omega) (fun c6 => ?_) (fun c7 => ?_)
  · replace h := ite_neg h c6
    obtain ⟨g8, h⟩ := grd_some h
    refine s_load0 X 0 rfl dX4_isChoice_9 ?_
    refine s_getR (id := 356) X fk_X4_11 SHC_355 rfl dX4_isChoice_10 ?_
    refine s_iload_n X 1 rfl dX4_isChoice_13 ?_
    refine s_const X (by unfold InR; omega) dX4_isChoice_14 ?_
    refine s_isub X g8.1 dX4_isChoice_15 ?_
    refine s_aaldI (id := (361 + 3 * (round_ - 1).toNat)) X (by omega) (Or.inr rfl) SHC_356 g8.2.1 g8.2.2 dX4_isChoice_16 ?_
    refine s_iload_n X 2 rfl dX4_isChoice_17 ?_
    obtain ⟨r_, hq9, h⟩ := bnd_some h
    refine s_callV (As := [VI to_]) X cw_X4_82 (shLab (labRow g8.2.1 g8.2.2)) rfl dX4_isChoice_18 (L_C_Labels_at G (361 + 3 * (round_ - 1).toNat) to_ m r_ (labRow g8.2.1 g8.2.2) hq9) rfl ⟨Nat.le_of_ble_eq_true rfl, Nat.le_of_ble_eq_true rfl⟩ ⟨Nat.le_of_ble_eq_true rfl, Nat.le_of_ble_eq_true rfl⟩ (Nat.le_of_ble_eq_true rfl) noT (kkR ?_)
    exact s_kn rfl rfl (K3 _ h)
  · replace h := ite_pos h c7
    refine s_ldc (z := 1000000) X (by unfold InR; omega) kc_X4_86 dX4_isChoice_4 ?_
    refine s_goto (tgt := 21) X dX4_isChoice_6 (by omega) ?_
    exact s_kn rfl rfl (K3 _ h)
set_option maxRecDepth 20000 in
set_option maxHeartbeats 4000000 in
theorem L_C_choices (G : Gl) (from_ : Int) (to_ : Int) (day_ : Int) (minute_ : Int) (m : Mem) (r : ((Int ⊕ Nat) × Mem))  (h : C_choices from_ to_ day_ minute_ m = some r) : Con SHC G yX11_choices cX11_choices 7 (some .int) rm_X11_choices [VR 0, VI from_, VI to_, VI day_, VI minute_] m (oT wI r) := by
  refine con_of (own := "Lastbus") (by decide) rfl (Nat.le_of_ble_eq_true rfl) (fun C X => ?_)
  obtain ⟨O, hO⟩ : ∃ O : Res × Mem, O = (oT wI r) := ⟨_, rfl⟩
  rw [← hO]
  show J SHC G rm_X11_choices (.inl O) C 0 0 0 [(0, VR 0), (1, VI from_), (2, VI to_), (3, VI day_), (4, VI minute_)] [] m
  unfold C_choices at h
  refine s_load0 X 0 rfl dX11_choices_0 ?_
  refine s_iload_n X 1 rfl dX11_choices_1 ?_
  refine s_iload_n X 2 rfl dX11_choices_2 ?_
  refine s_iload_n X 3 rfl dX11_choices_3 ?_
  refine s_iload X 4 rfl dX11_choices_4 ?_
  obtain ⟨q3, hq2, h⟩ := bnd_some h
  refine s_callV (As := [VI from_, VI to_, VI day_, VI minute_]) X cw_X11_277 SHC_0 rfl dX11_choices_6 (L_C_needWay G from_ to_ day_ minute_ m q3 hq2) rfl ⟨Nat.le_of_ble_eq_true rfl, Nat.le_of_ble_eq_true rfl⟩ ⟨Nat.le_of_ble_eq_true rfl, Nat.le_of_ble_eq_true rfl⟩ (Nat.le_of_ble_eq_true rfl) (thr_up hO h) (kkT fun u_ m_ e9 => ?_)
  subst e9
  replace h := tbd_inl h
  refine s_load0 X 0 rfl dX11_choices_9 ?_
  refine s_getR (id := 119) X fk_X11_49 SHC_0 rfl dX11_choices_10 ?_
  refine s_iload_n X 3 rfl dX11_choices_13 ?_
  refine s_const X (by unfold InR; omega) dX11_choices_14 ?_
  refine s_const X (by unfold InR; omega) dX11_choices_15 ?_
  obtain ⟨m_2, hq6, h⟩ := bnd_some h
  refine s_callV (As := [VI day_, VI (-1), VI 0]) X cw_X11_280 SHC_119 rfl dX11_choices_16 (L_C_Net_lay G day_ (-1) 0 m_ m_2 hq6) rfl ⟨Nat.le_of_ble_eq_true rfl, Nat.le_of_ble_eq_true rfl⟩ ⟨Nat.le_of_ble_eq_true rfl, Nat.le_of_ble_eq_true rfl⟩ (Nat.le_of_ble_eq_true rfl) noT (kkU ?_)
  refine s_load0 X 0 rfl dX11_choices_19 ?_
  refine s_getR (id := 355) X fk_X11_65 SHC_0 rfl dX11_choices_20 ?_
  refine s_iload_n X 1 rfl dX11_choices_23 ?_
  refine s_iload X 4 rfl dX11_choices_24 ?_
  obtain ⟨m_3, hq10, h⟩ := bnd_some h
  refine s_callV (As := [VI from_, VI minute_]) X cw_X11_297 SHC_355 rfl dX11_choices_26 (L_C_Rounds_fill G from_ minute_ m_2 m_3 hq10) rfl ⟨Nat.le_of_ble_eq_true rfl, Nat.le_of_ble_eq_true rfl⟩ ⟨Nat.le_of_ble_eq_true rfl, Nat.le_of_ble_eq_true rfl⟩ (Nat.le_of_ble_eq_true rfl) noT (kkU ?_)
  refine s_const X (by unfold InR; omega) dX11_choices_29 ?_
  obtain ⟨count_, e14, h⟩ := ltv_elim h
  refine s_istore X e14 rfl (by omega) dX11_choices_30 ?_
  refine s_const X (by unfold InR; omega) dX11_choices_32 ?_
  obtain ⟨round_, e16, h⟩ := ltv_elim h
  refine s_istore X e16 rfl (by omega) dX11_choices_33 ?_
  obtain ⟨count_4, round_5, hl26, h⟩ := bq2_some h
  obtain ⟨fu170, hl27⟩ := loop_iter hl26
  have KX23 : ∀ q9 : Int × Int, q9 = (count_4, round_5) → J SHC G rm_X11_choices (.inl O) C 4 24 69 [(6, VI q9.2), (5, VI q9.1), (0, VR 0), (1, VI from_), (2, VI to_), (3, VI day_), (4, VI minute_)] [] m_3 := by
    intro q9 e9
    subst e9
    show J SHC G rm_X11_choices (.inl O) C 4 24 69 [(6, VI round_5), (5, VI count_4), (0, VR 0), (1, VI from_), (2, VI to_), (3, VI day_), (4, VI minute_)] [] m_3
    refine s_iload X 1 rfl dX11_choices_69 ?_
    exact s_iret X (Nat.le_of_ble_eq_true rfl) (Nat.le_of_ble_eq_true rfl) (by cases h; exact hO) dX11_choices_71
  have LP22 : ∀ (fu17 : Nat) (count_2 : Int) (round_2 : Int), iter (fun s => C_choices_b1 to_ m_3 s.1 s.2) fu17 (count_2, round_2) = some (count_4, round_5) → J SHC G rm_X11_choices (.inl O) C 4 24 35 [(6, VI round_2), (5, VI count_2), (0, VR 0), (1, VI from_), (2, VI to_), (3, VI day_), (4, VI minute_)] [] m_3 := by
    intro fu17
    induction fu17 with
    | zero => intro count_2 round_2 hn18; exact absurd hn18 (by simp [iter])
    | succ fu17 ih21 =>
      intro count_2 round_2 hn18
      obtain ⟨x19, h, hc20⟩ := iter_succ hn18
      replace h : C_choices_b1 to_ m_3 count_2 round_2 = some x19 := h
      unfold C_choices_b1 at h
      refine s_iload X 0 rfl dX11_choices_35 ?_
      refine s_load0 X 2 rfl dX11_choices_37 ?_
      refine s_getR (id := 355) X fk_X11_65 SHC_0 rfl dX11_choices_38 ?_
      refine s_getI X fk_X11_363 SHC_355 rfl dX11_choices_41 ?_
      refine s_icmpgt_f (tgt := 69) X dX11_choices_44 (by omega) (fun c31 => ?_) (fun c32 => ?_)
      · replace h := ite_neg h c31
        exact KX23 _ (iter_exit h hc20)
      · replace h := ite_pos h c32
        refine s_load0 X 2 rfl dX11_choices_47 ?_
        refine s_getR (id := 355) X fk_X11_65 SHC_0 rfl dX11_choices_48 ?_
        refine s_iload X 0 rfl dX11_choices_51 ?_
        refine s_iload_n X 4 rfl dX11_choices_53 ?_
        obtain ⟨r_, hq34, h⟩ := bnd_some h
        refine s_callV (As := [VI round_2, VI to_]) X cw_X11_366 SHC_355 rfl dX11_choices_54 (L_C_Rounds_isChoice G round_2 to_ m_3 r_ hq34) rfl ⟨Nat.le_of_ble_eq_true rfl, Nat.le_of_ble_eq_true rfl⟩ ⟨Nat.le_of_ble_eq_true rfl, Nat.le_of_ble_eq_true rfl⟩ (Nat.le_of_ble_eq_true rfl) noT (kkR ?_)
        refine s_ifeq_f (tgt := 63) X dX11_choices_57 (by omega) (fun c37 => ?_) (fun c38 => ?_)
        · replace h := ite_neg h c37
          obtain ⟨g39, h⟩ := grd_some h
          obtain ⟨round_3, e40, h⟩ := ltv_elim h
          refine s_iinc X 0 rfl g39 e40 rfl (by omega) dX11_choices_63 ?_
          refine s_goto (tgt := 35) X dX11_choices_66 (by omega) ?_
          exact ih21 _ _ (iter_next h hc20)
        · replace h := ite_pos h c38
          obtain ⟨g41, h⟩ := grd_some h
          obtain ⟨count_3, e42, h⟩ := ltv_elim h
          refine s_iinc X 1 rfl g41 e42 rfl (by omega) dX11_choices_60 ?_
          obtain ⟨g43, h⟩ := grd_some h
          obtain ⟨round_4, e44, h⟩ := ltv_elim h
          refine s_iinc X 1 rfl g43 e44 rfl (by omega) dX11_choices_63 ?_
          refine s_goto (tgt := 35) X dX11_choices_66 (by omega) ?_
          exact ih21 _ _ (iter_next h hc20)
  exact LP22 _ _ _ hl27
set_option maxRecDepth 20000 in
set_option maxHeartbeats 4000000 in
theorem L_C_choice (G : Gl) (from_ : Int) (to_ : Int) (day_ : Int) (minute_ : Int) (index_ : Int) (m : Mem) (r : ((Int ⊕ Nat) × Mem))  (h : C_choice from_ to_ day_ minute_ index_ m = some r) : Con SHC G yX11_choice cX11_choice 8 (some .int) rm_X11_choice [VR 0, VI from_, VI to_, VI day_, VI minute_, VI index_] m (oT wI r) := by
  refine con_of (own := "Lastbus") (by decide) rfl (Nat.le_of_ble_eq_true rfl) (fun C X => ?_)
  obtain ⟨O, hO⟩ : ∃ O : Res × Mem, O = (oT wI r) := ⟨_, rfl⟩
  rw [← hO]
  show J SHC G rm_X11_choice (.inl O) C 0 0 0 [(0, VR 0), (1, VI from_), (2, VI to_), (3, VI day_), (4, VI minute_), (5, VI index_)] [] m
  unfold C_choice at h
  refine s_load0 X 0 rfl dX11_choice_0 ?_
  refine s_iload_n X 1 rfl dX11_choice_1 ?_
  refine s_iload_n X 2 rfl dX11_choice_2 ?_
  refine s_iload_n X 3 rfl dX11_choice_3 ?_
  refine s_iload X 4 rfl dX11_choice_4 ?_
  obtain ⟨q3, hq2, h⟩ := bnd_some h
  refine s_callV (As := [VI from_, VI to_, VI day_, VI minute_]) X cw_X11_277 SHC_0 rfl dX11_choice_6 (L_C_needWay G from_ to_ day_ minute_ m q3 hq2) rfl ⟨Nat.le_of_ble_eq_true rfl, Nat.le_of_ble_eq_true rfl⟩ ⟨Nat.le_of_ble_eq_true rfl, Nat.le_of_ble_eq_true rfl⟩ (Nat.le_of_ble_eq_true rfl) (thr_up hO h) (kkT fun u_ m_ e9 => ?_)
  subst e9
  replace h := tbd_inl h
  refine s_load0 X 0 rfl dX11_choice_9 ?_
  refine s_getR (id := 119) X fk_X11_49 SHC_0 rfl dX11_choice_10 ?_
  refine s_iload_n X 3 rfl dX11_choice_13 ?_
  refine s_const X (by unfold InR; omega) dX11_choice_14 ?_
  refine s_const X (by unfold InR; omega) dX11_choice_15 ?_
  obtain ⟨m_2, hq6, h⟩ := bnd_some h
  refine s_callV (As := [VI day_, VI (-1), VI 0]) X cw_X11_280 SHC_119 rfl dX11_choice_16 (L_C_Net_lay G day_ (-1) 0 m_ m_2 hq6) rfl ⟨Nat.le_of_ble_eq_true rfl, Nat.le_of_ble_eq_true rfl⟩ ⟨Nat.le_of_ble_eq_true rfl, Nat.le_of_ble_eq_true rfl⟩ (Nat.le_of_ble_eq_true rfl) noT (kkU ?_)
  refine s_load0 X 0 rfl dX11_choice_19 ?_
  refine s_getR (id := 355) X fk_X11_65 SHC_0 rfl dX11_choice_20 ?_
  refine s_iload_n X 1 rfl dX11_choice_23 ?_
  refine s_iload X 4 rfl dX11_choice_24 ?_
  obtain ⟨m_3, hq10, h⟩ := bnd_some h
  refine s_callV (As := [VI from_, VI minute_]) X cw_X11_297 SHC_355 rfl dX11_choice_26 (L_C_Rounds_fill G from_ minute_ m_2 m_3 hq10) rfl ⟨Nat.le_of_ble_eq_true rfl, Nat.le_of_ble_eq_true rfl⟩ ⟨Nat.le_of_ble_eq_true rfl, Nat.le_of_ble_eq_true rfl⟩ (Nat.le_of_ble_eq_true rfl) noT (kkU ?_)
  refine s_iload X 5 rfl dX11_choice_29 ?_
  obtain ⟨left_, e14, h⟩ := ltv_elim h
  refine s_istore X e14 rfl (by omega) dX11_choice_31 ?_
  refine s_const X (by unfold InR; omega) dX11_choice_33 ?_
  obtain ⟨round_, e16, h⟩ := ltv_elim h
  refine s_istore X e16 rfl (by omega) dX11_choice_34 ?_
  obtain ⟨s24, hl26, h⟩ := br2_some h
  obtain ⟨fu170, hl27⟩ := loop_iter hl26
  have KR25 : ∀ q9 : ((Int ⊕ Nat) × Mem), .inr q9 = s24 → O = oT wI q9 := by
    intro q9 e9
    subst e9
    replace h := brm2_inr h
    exact (by cases h; exact hO)
  have KX23 : ∀ q9 : Int × Int, .inl q9 = s24 → J SHC G rm_X11_choice (.inl O) C 4 24 102 [(7, VI q9.2), (6, VI q9.1), (0, VR 0), (1, VI from_), (2, VI to_), (3, VI day_), (4, VI minute_), (5, VI index_)] [] m_3 := by
    intro q9 e9
    subst e9
    obtain ⟨left_4, round_5⟩ := q9
    replace h := brm2_inl h
    show J SHC G rm_X11_choice (.inl O) C 4 24 102 [(7, VI round_5), (6, VI left_4), (0, VR 0), (1, VI from_), (2, VI to_), (3, VI day_), (4, VI minute_), (5, VI index_)] [] m_3
    exact s_throwNW X th_X11_168_373_172 (by cases h; exact hO) (Nat.le_of_ble_eq_true rfl) (Nat.le_of_ble_eq_true rfl) (Nat.le_of_ble_eq_true rfl) (Nat.le_of_ble_eq_true rfl) dX11_choice_102 dX11_choice_105 dX11_choice_106 dX11_choice_109 dX11_choice_112
  have LP22 : ∀ (fu17 : Nat) (left_2 : Int) (round_2 : Int), iter (fun s => C_choice_b1 to_ m_3 s.1 s.2) fu17 (left_2, round_2) = some s24 → J SHC G rm_X11_choice (.inl O) C 4 24 36 [(7, VI round_2), (6, VI left_2), (0, VR 0), (1, VI from_), (2, VI to_), (3, VI day_), (4, VI minute_), (5, VI index_)] [] m_3 := by
    intro fu17
    induction fu17 with
    | zero => intro left_2 round_2 hn18; exact absurd hn18 (by simp [iter])
    | succ fu17 ih21 =>
      intro left_2 round_2 hn18
      obtain ⟨x19, h, hc20⟩ := iter_succ hn18
      replace h : C_choice_b1 to_ m_3 left_2 round_2 = some x19 := h
      unfold C_choice_b1 at h
      have kF30 : ¬ ((round_2 ≤ m_3 355 3) ∧ (0 ≤ left_2)) → J SHC G rm_X11_choice (.inl O) C 4 24 102 [(7, VI round_2), (6, VI left_2), (0, VR 0), (1, VI from_), (2, VI to_), (3, VI day_), (4, VI minute_), (5, VI index_)] [] m_3 := by
        intro c33
        replace h := ite_neg h c33
        exact KX23 _ (iter_exit h hc20)
      refine s_iload X 0 rfl dX11_choice_36 ?_
      refine s_load0 X 2 rfl dX11_choice_38 ?_
      refine s_getR (id := 355) X fk_X11_65 SHC_0 rfl dX11_choice_39 ?_
      refine s_getI X fk_X11_363 SHC_355 rfl dX11_choice_42 ?_
      refine s_icmpgt_f (tgt := 102) X dX11_choice_45 (by omega) (fun c31 => ?_) (fun c32 => ?_)
      · exact kF30 (fun q => c31 q.1)
      · have a34 : round_2 ≤ m_3 355 3 := c32
        refine s_iload X 1 rfl dX11_choice_48 ?_
        refine s_iflt_f (tgt := 102) X dX11_choice_50 (by omega) (fun c35 => ?_) (fun c36 => ?_)
        · exact kF30 (fun q => c35 q.2)
        · replace h := ite_pos h ⟨a34, c36⟩
          refine s_load0 X 2 rfl dX11_choice_53 ?_
          refine s_getR (id := 355) X fk_X11_65 SHC_0 rfl dX11_choice_54 ?_
          refine s_iload X 0 rfl dX11_choice_57 ?_
          refine s_iload_n X 4 rfl dX11_choice_59 ?_
          obtain ⟨r_, hq38, h⟩ := bnd_some h
          refine s_callV (As := [VI round_2, VI to_]) X cw_X11_366 SHC_355 rfl dX11_choice_60 (L_C_Rounds_isChoice G round_2 to_ m_3 r_ hq38) rfl ⟨Nat.le_of_ble_eq_true rfl, Nat.le_of_ble_eq_true rfl⟩ ⟨Nat.le_of_ble_eq_true rfl, Nat.le_of_ble_eq_true rfl⟩ (Nat.le_of_ble_eq_true rfl) noT (kkR ?_)
          refine s_ifeq_f (tgt := 96) X dX11_choice_63 (by omega) (fun c41 => ?_) (fun c42 => ?_)
          · replace h := ite_neg h c41
            obtain ⟨g43, h⟩ := grd_some h
            obtain ⟨round_3, e44, h⟩ := ltv_elim h
            refine s_iinc X 0 rfl g43 e44 rfl (by omega) dX11_choice_96 ?_
            refine s_goto (tgt := 36) X dX11_choice_99 (by omega) ?_
            exact ih21 _ _ (iter_next h hc20)
          · replace h := ite_pos h c42
            refine s_iload X 1 rfl dX11_choice_66 ?_
            refine s_ifne_f (tgt := 93) X dX11_choice_68 (by omega) (fun c48 => ?_) (fun c49 => ?_)
            · replace h := ite_neg h c48
              obtain ⟨g50, h⟩ := grd_some h
              obtain ⟨left_3, e51, h⟩ := ltv_elim h
              refine s_iinc X 1 rfl g50 e51 rfl (by omega) dX11_choice_93 ?_
              obtain ⟨g52, h⟩ := grd_some h
              obtain ⟨round_4, e53, h⟩ := ltv_elim h
              refine s_iinc X 1 rfl g52 e53 rfl (by omega) dX11_choice_96 ?_
              refine s_goto (tgt := 36) X dX11_choice_99 (by omega) ?_
              exact ih21 _ _ (iter_next h hc20)
            · replace h := ite_pos h c49
              obtain ⟨g54, h⟩ := grd_some h
              refine s_sipush X (by omega) dX11_choice_71 ?_
              refine s_iload X 0 rfl dX11_choice_74 ?_
              refine s_imul X g54.1 dX11_choice_76 ?_
              refine s_load0 X 2 rfl dX11_choice_77 ?_
              refine s_getR (id := 355) X fk_X11_65 SHC_0 rfl dX11_choice_78 ?_
              refine s_getR (id := 356) X fk_X11_369 SHC_355 rfl dX11_choice_81 ?_
              refine s_iload X 0 rfl dX11_choice_84 ?_
              refine s_aaldI (id := (361 + 3 * round_2.toNat)) X (by omega) (Or.inr rfl) SHC_356 g54.2.1 g54.2.2 dX11_choice_86 ?_
              refine s_iload_n X 4 rfl dX11_choice_87 ?_
              obtain ⟨r_2, hq55, h⟩ := bnd_some h
              refine s_callV (As := [VI to_]) X cw_X11_290 (shLab (labRow g54.2.1 g54.2.2)) rfl dX11_choice_88 (L_C_Labels_at G (361 + 3 * round_2.toNat) to_ m_3 r_2 (labRow g54.2.1 g54.2.2) hq55) rfl ⟨Nat.le_of_ble_eq_true rfl, Nat.le_of_ble_eq_true rfl⟩ ⟨Nat.le_of_ble_eq_true rfl, Nat.le_of_ble_eq_true rfl⟩ (Nat.le_of_ble_eq_true rfl) noT (kkR ?_)
              obtain ⟨g57, h⟩ := grd_some h
              refine s_iadd X g57 dX11_choice_91 ?_
              exact s_iret X (Nat.le_of_ble_eq_true rfl) (Nat.le_of_ble_eq_true rfl) (KR25 _ (iter_exit h hc20)) dX11_choice_92
  exact LP22 _ _ _ hl27
set_option maxRecDepth 20000 in
set_option maxHeartbeats 4000000 in
theorem L_C_Fleet_gather (G : Gl) (day_ : Int) (m : Mem) (r : Mem)  (h : C_Fleet_gather day_ m = some r) : Con SHC G yX1_gather cX1_gather 6 none rm_X1_gather [VR 431, VR 29, VR 31, VI day_] m (((.inl none, r) : Res × Mem)) := by
  refine con_of (own := "Lastbus$Fleet") (by decide) rfl (Nat.le_of_ble_eq_true rfl) (fun C X => ?_)
  obtain ⟨O, hO⟩ : ∃ O : Res × Mem, O = (((.inl none, r) : Res × Mem)) := ⟨_, rfl⟩
  rw [← hO]
  show J SHC G rm_X1_gather (.inl O) C 0 0 0 [(0, VR 431), (1, VR 29), (2, VR 31), (3, VI day_)] [] m
  unfold C_Fleet_gather at h
  refine s_load0 X 0 rfl dX1_gather_0 ?_
  refine s_const X (by unfold InR; omega) dX1_gather_1 ?_
  obtain ⟨m_, e2, h⟩ := ltv_elim h
  refine s_putI X e2 fp_X1_42 SHC_431 rfl trivial dX1_gather_2 ?_
  refine s_const X (by unfold InR; omega) dX1_gather_5 ?_
  obtain ⟨trip_, e4, h⟩ := ltv_elim h
  refine s_istore X e4 rfl (by omega) dX1_gather_6 ?_
  obtain ⟨trip_5, m_8, hl14, h⟩ := bq2_some h
  obtain ⟨fu50, hl15⟩ := loop_iter hl14
  have KX11 : ∀ q9 : Int × Mem, q9 = (trip_5, m_8) → J SHC G rm_X1_gather (.inl O) C 0 0 135 [(4, VI q9.1), (0, VR 431), (1, VR 29), (2, VR 31), (3, VI day_)] [] (q9.2) := by
    intro q9 e9
    subst e9
    show J SHC G rm_X1_gather (.inl O) C 0 0 135 [(4, VI trip_5), (0, VR 431), (1, VR 29), (2, VR 31), (3, VI day_)] [] m_8
    exact s_vret X (Nat.le_of_ble_eq_true rfl) (Nat.le_of_ble_eq_true rfl) (by cases h; exact hO) dX1_gather_135
  have LP10 : ∀ (fu5 : Nat) (trip_2 : Int) (m_2 : Mem), iter (fun s => C_Fleet_gather_b1 day_ s.1 s.2) fu5 (trip_2, m_2) = some (trip_5, m_8) → J SHC G rm_X1_gather (.inl O) C 0 0 8 [(4, VI trip_2), (0, VR 431), (1, VR 29), (2, VR 31), (3, VI day_)] [] m_2 := by
    intro fu5
    induction fu5 with
    | zero => intro trip_2 m_2 hn6; exact absurd hn6 (by simp [iter])
    | succ fu5 ih9 =>
      intro trip_2 m_2 hn6
      obtain ⟨x7, h, hc8⟩ := iter_succ hn6
      replace h : C_Fleet_gather_b1 day_ trip_2 m_2 = some x7 := h
      unfold C_Fleet_gather_b1 at h
      refine s_iload X 0 rfl dX1_gather_8 ?_
      refine s_load0 X 3 rfl dX1_gather_10 ?_
      refine s_getI X fk_X1_46 SHC_31 rfl dX1_gather_11 ?_
      refine s_icmpge_f (tgt := 135) X dX1_gather_14 (by omega) (fun c19 => ?_) (fun c20 => ?_)
      · replace h := ite_neg h c19
        exact KX11 _ (iter_exit h hc8)
      · replace h := ite_pos h c20
        obtain ⟨g21, h⟩ := grd_some h
        refine s_load0 X 2 rfl dX1_gather_17 ?_
        refine s_load0 X 3 rfl dX1_gather_18 ?_
        refine s_getR (id := 32) X fk_X1_49 SHC_31 rfl dX1_gather_19 ?_
        refine s_iload X 0 rfl dX1_gather_22 ?_
        refine s_iald X SHC_32 g21.1 g21.2 dX1_gather_24 ?_
        refine s_iload_n X 4 rfl dX1_gather_25 ?_
        obtain ⟨r_, hq22, h⟩ := bnd_some h
        refine s_callV (As := [VI (m_2 32 trip_2.toNat), VI day_]) X cw_X1_52 SHC_29 rfl dX1_gather_26 (L_C_Services_isOn G (m_2 32 trip_2.toNat) day_ m_2 r_ hq22) rfl ⟨Nat.le_of_ble_eq_true rfl, Nat.le_of_ble_eq_true rfl⟩ ⟨Nat.le_of_ble_eq_true rfl, Nat.le_of_ble_eq_true rfl⟩ (Nat.le_of_ble_eq_true rfl) noT (kkR ?_)
        refine s_ifeq_f (tgt := 129) X dX1_gather_29 (by omega) (fun c25 => ?_) (fun c26 => ?_)
        · replace h := ite_neg h c25
          obtain ⟨g27, h⟩ := grd_some h
          obtain ⟨trip_3, e28, h⟩ := ltv_elim h
          refine s_iinc X 0 rfl g27 e28 rfl (by omega) dX1_gather_129 ?_
          refine s_goto (tgt := 8) X dX1_gather_132 (by omega) ?_
          exact ih9 _ _ (iter_next h hc8)
        · replace h := ite_pos h c26
          obtain ⟨g29, h⟩ := grd_some h
          refine s_load0 X 3 rfl dX1_gather_32 ?_
          refine s_getR (id := 33) X fk_X1_58 SHC_31 rfl dX1_gather_33 ?_
          refine s_iload X 0 rfl dX1_gather_36 ?_
          refine s_iald X SHC_33 g21.1 g21.2 dX1_gather_38 ?_
          refine s_const X (by unfold InR; omega) dX1_gather_39 ?_
          refine s_isub X g29 dX1_gather_40 ?_
          obtain ⟨end_, e30, h⟩ := ltv_elim h
          refine s_istore X e30 rfl (by omega) dX1_gather_41 ?_
          obtain ⟨g31, h⟩ := grd_some h
          refine s_load0 X 2 rfl dX1_gather_43 ?_
          refine s_getR (id := 432) X fk_X1_9 SHC_431 rfl dX1_gather_44 ?_
          refine s_load0 X 2 rfl dX1_gather_47 ?_
          refine s_getI X fk_X1_42 SHC_431 rfl dX1_gather_48 ?_
          refine s_load0 X 4 rfl dX1_gather_51 ?_
          refine s_getR (id := 34) X fk_X1_61 SHC_31 rfl dX1_gather_52 ?_
          refine s_iload X 1 rfl dX1_gather_55 ?_
          refine s_aaldI (id := (35 + trip_2.toNat)) X (by omega) (Or.inl rfl) SHC_34 g21.1 g21.2 dX1_gather_57 ?_
          refine s_const X (by unfold InR; omega) dX1_gather_58 ?_
          refine s_iald X (SHC_r35 g21.1 g21.2) (by omega) (by omega) dX1_gather_59 ?_
          obtain ⟨m_3, e32, h⟩ := ltv_elim h
          refine s_iast X e32 SHC_432 g31.1 g31.2 dX1_gather_60 ?_
          obtain ⟨g33, h⟩ := grd_some h
          refine s_load0 X 2 rfl dX1_gather_61 ?_
          refine s_getR (id := 433) X fk_X1_15 SHC_431 rfl dX1_gather_62 ?_
          refine s_load0 X 2 rfl dX1_gather_65 ?_
          refine s_getI X fk_X1_42 SHC_431 rfl dX1_gather_66 ?_
          refine s_load0 X 4 rfl dX1_gather_69 ?_
          refine s_getR (id := 34) X fk_X1_61 SHC_31 rfl dX1_gather_70 ?_
          refine s_iload X 1 rfl dX1_gather_73 ?_
          refine s_aaldI (id := (35 + trip_2.toNat)) X (by omega) (Or.inl rfl) SHC_34 g21.1 g21.2 dX1_gather_75 ?_
          refine s_iload X 0 rfl dX1_gather_76 ?_
          refine s_iald X (SHC_r35 g21.1 g21.2) g33.2.2.1 g33.2.2.2 dX1_gather_78 ?_
          obtain ⟨m_4, e34, h⟩ := ltv_elim h
          refine s_iast X e34 SHC_433 g33.1 g33.2.1 dX1_gather_79 ?_
          obtain ⟨g35, h⟩ := grd_some h
          refine s_load0 X 2 rfl dX1_gather_80 ?_
          refine s_getR (id := 434) X fk_X1_18 SHC_431 rfl dX1_gather_81 ?_
          refine s_load0 X 2 rfl dX1_gather_84 ?_
          refine s_getI X fk_X1_42 SHC_431 rfl dX1_gather_85 ?_
          refine s_load0 X 4 rfl dX1_gather_88 ?_
          refine s_getR (id := 84) X fk_X1_65 SHC_31 rfl dX1_gather_89 ?_
          refine s_iload X 1 rfl dX1_gather_92 ?_
          refine s_aaldI (id := (85 + trip_2.toNat)) X (by omega) (Or.inl rfl) SHC_84 g21.1 g21.2 dX1_gather_94 ?_
          refine s_const X (by unfold InR; omega) dX1_gather_95 ?_
          refine s_iald X (SHC_r85 g21.1 g21.2) (by omega) (by omega) dX1_gather_96 ?_
          obtain ⟨m_5, e36, h⟩ := ltv_elim h
          refine s_iast X e36 SHC_434 g35.1 g35.2 dX1_gather_97 ?_
          obtain ⟨g37, h⟩ := grd_some h
          refine s_load0 X 2 rfl dX1_gather_98 ?_
          refine s_getR (id := 435) X fk_X1_21 SHC_431 rfl dX1_gather_99 ?_
          refine s_load0 X 2 rfl dX1_gather_102 ?_
          refine s_getI X fk_X1_42 SHC_431 rfl dX1_gather_103 ?_
          refine s_load0 X 4 rfl dX1_gather_106 ?_
          refine s_getR (id := 59) X fk_X1_67 SHC_31 rfl dX1_gather_107 ?_
          refine s_iload X 1 rfl dX1_gather_110 ?_
          refine s_aaldI (id := (60 + trip_2.toNat)) X (by omega) (Or.inl rfl) SHC_59 g21.1 g21.2 dX1_gather_112 ?_
          refine s_iload X 0 rfl dX1_gather_113 ?_
          refine s_iald X (SHC_r60 g21.1 g21.2) g33.2.2.1 g33.2.2.2 dX1_gather_115 ?_
          refine s_const X (by unfold InR; omega) dX1_gather_116 ?_
          refine s_iadd X g37.2.2 dX1_gather_117 ?_
          obtain ⟨m_6, e38, h⟩ := ltv_elim h
          refine s_iast X e38 SHC_435 g37.1 g37.2.1 dX1_gather_118 ?_
          obtain ⟨g39, h⟩ := grd_some h
          refine s_load0 X 2 rfl dX1_gather_119 ?_
          refine s_dup X rfl dX1_gather_120 ?_
          refine s_getI X fk_X1_42 SHC_431 rfl dX1_gather_121 ?_
          refine s_const X (by unfold InR; omega) dX1_gather_124 ?_
          refine s_iadd X g39 dX1_gather_125 ?_
          obtain ⟨m_7, e40, h⟩ := ltv_elim h
          refine s_putI X e40 fp_X1_42 SHC_431 rfl trivial dX1_gather_126 ?_
          obtain ⟨g41, h⟩ := grd_some h
          obtain ⟨trip_4, e42, h⟩ := ltv_elim h
          refine s_iinc X 1 rfl g41 e42 rfl (by omega) dX1_gather_129 ?_
          refine s_goto (tgt := 8) X dX1_gather_132 (by omega) ?_
          refine s_loc [0, 2, 3, 4, 5] rfl ?_
          exact ih9 _ _ (iter_next h hc8)
  exact LP10 _ _ _ hl15
set_option maxRecDepth 20000 in
set_option maxHeartbeats 4000000 in
theorem L_C_Fleet_countAt (G : Gl) (stop_ : Int) (m : Mem) (r : (Int × Mem))  (h : C_Fleet_countAt stop_ m = some r) : Con SHC G yX1_countAt cX1_countAt 6 (some .int) rm_X1_countAt [VR 431, VI stop_] m (((.inl (some (VI r.1)), r.2) : Res × Mem)) := by
  refine con_of (own := "Lastbus$Fleet") (by decide) rfl (Nat.le_of_ble_eq_true rfl) (fun C X => ?_)
  obtain ⟨O, hO⟩ : ∃ O : Res × Mem, O = (((.inl (some (VI r.1)), r.2) : Res × Mem)) := ⟨_, rfl⟩
  rw [← hO]
  show J SHC G rm_X1_countAt (.inl O) C 0 0 0 [(0, VR 431), (1, VI stop_)] [] m
  unfold C_Fleet_countAt at h
  refine s_const X (by unfold InR; omega) dX1_countAt_0 ?_
  obtain ⟨found_, e2, h⟩ := ltv_elim h
  refine s_istore_n X e2 rfl (by omega) dX1_countAt_1 ?_
  refine s_const X (by unfold InR; omega) dX1_countAt_2 ?_
  obtain ⟨trip_, e4, h⟩ := ltv_elim h
  refine s_istore_n X e4 rfl (by omega) dX1_countAt_3 ?_
  obtain ⟨found_6, trip_5, m_5, hl14, h⟩ := bq3_some h
  obtain ⟨fu50, hl15⟩ := loop_iter hl14
  have KX11 : ∀ q9 : Int × Int × Mem, q9 = (found_6, trip_5, m_5) → J SHC G rm_X1_countAt (.inl O) C 0 0 74 [(3, VI q9.2.1), (2, VI q9.1), (0, VR 431), (1, VI stop_)] [] (q9.2.2) := by
    intro q9 e9
    subst e9
    show J SHC G rm_X1_countAt (.inl O) C 0 0 74 [(3, VI trip_5), (2, VI found_6), (0, VR 431), (1, VI stop_)] [] m_5
    refine s_load0 X 2 rfl dX1_countAt_74 ?_
    refine s_getR (id := 436) X fk_X1_24 SHC_431 rfl dX1_countAt_75 ?_
    refine s_load0 X 2 rfl dX1_countAt_78 ?_
    refine s_getR (id := 437) X fk_X1_27 SHC_431 rfl dX1_countAt_79 ?_
    refine s_iload_n X 1 rfl dX1_countAt_82 ?_
    obtain ⟨m_6, hq46, h⟩ := bnd_some h
    refine s_callN (As := [VR 436, VR 437, VI found_6]) X cw_X1_74 dX1_countAt_83 (L_C_sortUp G 436 437 found_6 m_5 m_6 ⟨_, SHC_436⟩ ⟨_, SHC_437⟩ hq46) rfl ⟨Nat.le_of_ble_eq_true rfl, Nat.le_of_ble_eq_true rfl⟩ ⟨Nat.le_of_ble_eq_true rfl, Nat.le_of_ble_eq_true rfl⟩ (Nat.le_of_ble_eq_true rfl) noT (kkU ?_)
    refine s_const X (by unfold InR; omega) dX1_countAt_86 ?_
    obtain ⟨idle_, e50, h⟩ := ltv_elim h
    refine s_istore_n X e50 rfl (by omega) dX1_countAt_87 ?_
    refine s_const X (by unfold InR; omega) dX1_countAt_88 ?_
    obtain ⟨fresh_, e52, h⟩ := ltv_elim h
    refine s_istore X e52 rfl (by omega) dX1_countAt_89 ?_
    refine s_const X (by unfold InR; omega) dX1_countAt_91 ?_
    obtain ⟨index_, e54, h⟩ := ltv_elim h
    refine s_istore X e54 rfl (by omega) dX1_countAt_92 ?_
    obtain ⟨idle_5, fresh_4, index_6, hl64, h⟩ := bq3_some h
    obtain ⟨fu550, hl65⟩ := loop_iter hl64
    have KX61 : ∀ q9 : Int × Int × Int, q9 = (idle_5, fresh_4, index_6) → J SHC G rm_X1_countAt (.inl O) C 0 0 137 [(5, VI q9.2.2), (4, VI q9.2.1), (3, VI q9.1), (2, VI found_6), (0, VR 431), (1, VI stop_)] [] m_6 := by
      intro q9 e9
      subst e9
      show J SHC G rm_X1_countAt (.inl O) C 0 0 137 [(5, VI index_6), (4, VI fresh_4), (3, VI idle_5), (2, VI found_6), (0, VR 431), (1, VI stop_)] [] m_6
      refine s_iload X 1 rfl dX1_countAt_137 ?_
      exact s_iret X (Nat.le_of_ble_eq_true rfl) (Nat.le_of_ble_eq_true rfl) (by cases h; exact hO) dX1_countAt_139
    have LP60 : ∀ (fu55 : Nat) (idle_2 : Int) (fresh_2 : Int) (index_2 : Int), iter (fun s => C_Fleet_countAt_b2 found_6 m_6 s.1 s.2.1 s.2.2) fu55 (idle_2, fresh_2, index_2) = some (idle_5, fresh_4, index_6) → J SHC G rm_X1_countAt (.inl O) C 0 0 94 [(5, VI index_2), (4, VI fresh_2), (3, VI idle_2), (2, VI found_6), (0, VR 431), (1, VI stop_)] [] m_6 := by
      intro fu55
      induction fu55 with
      | zero => intro idle_2 fresh_2 index_2 hn56; exact absurd hn56 (by simp [iter])
      | succ fu55 ih59 =>
        intro idle_2 fresh_2 index_2 hn56
        obtain ⟨x57, h, hc58⟩ := iter_succ hn56
        replace h : C_Fleet_countAt_b2 found_6 m_6 idle_2 fresh_2 index_2 = some x57 := h
        unfold C_Fleet_countAt_b2 at h
        refine s_iload X 0 rfl dX1_countAt_94 ?_
        refine s_iload_n X 3 rfl dX1_countAt_96 ?_
        refine s_icmpge_f (tgt := 137) X dX1_countAt_97 (by omega) (fun c69 => ?_) (fun c70 => ?_)
        · replace h := ite_neg h c69
          exact KX61 _ (iter_exit h hc58)
        · replace h := ite_pos h c70
          obtain ⟨g71, h⟩ := grd_some h
          refine s_load0 X 4 rfl dX1_countAt_100 ?_
          refine s_getR (id := 436) X fk_X1_24 SHC_431 rfl dX1_countAt_101 ?_
          refine s_iload X 0 rfl dX1_countAt_104 ?_
          refine s_iald X SHC_436 g71.1 g71.2 dX1_countAt_106 ?_
          refine s_const X (by unfold InR; omega) dX1_countAt_107 ?_
          refine s_irem X (by omega) dX1_countAt_108 ?_
          refine s_ifne_f (tgt := 118) X dX1_countAt_109 (by omega) (fun c74 => ?_) (fun c75 => ?_)
          · replace h := ite_neg h c74
            refine s_iload_n X 2 rfl dX1_countAt_118 ?_
            refine s_ifle_f (tgt := 128) X dX1_countAt_119 (by omega) (fun c79 => ?_) (fun c80 => ?_)
            · replace h := ite_neg h c79
              obtain ⟨g81, h⟩ := grd_some h
              obtain ⟨fresh_3, e82, h⟩ := ltv_elim h
              refine s_iinc X 1 rfl g81 e82 rfl (by omega) dX1_countAt_128 ?_
              obtain ⟨g83, h⟩ := grd_some h
              obtain ⟨index_3, e84, h⟩ := ltv_elim h
              refine s_iinc X 1 rfl g83 e84 rfl (by omega) dX1_countAt_131 ?_
              refine s_goto (tgt := 94) X dX1_countAt_134 (by omega) ?_
              exact ih59 _ _ _ (iter_next h hc58)
            · replace h := ite_pos h c80
              obtain ⟨g85, h⟩ := grd_some h
              obtain ⟨idle_3, e86, h⟩ := ltv_elim h
              refine s_iinc X 2 rfl g85 e86 rfl (by omega) dX1_countAt_122 ?_
              refine s_goto (tgt := 131) X dX1_countAt_125 (by omega) ?_
              obtain ⟨g87, h⟩ := grd_some h
              obtain ⟨index_4, e88, h⟩ := ltv_elim h
              refine s_iinc X 1 rfl g87 e88 rfl (by omega) dX1_countAt_131 ?_
              refine s_goto (tgt := 94) X dX1_countAt_134 (by omega) ?_
              refine s_loc [0, 2, 1, 3, 4, 5] rfl ?_
              exact ih59 _ _ _ (iter_next h hc58)
          · replace h := ite_pos h c75
            obtain ⟨g89, h⟩ := grd_some h
            obtain ⟨idle_4, e90, h⟩ := ltv_elim h
            refine s_iinc X 2 rfl g89 e90 rfl (by omega) dX1_countAt_112 ?_
            refine s_goto (tgt := 131) X dX1_countAt_115 (by omega) ?_
            obtain ⟨g91, h⟩ := grd_some h
            obtain ⟨index_5, e92, h⟩ := ltv_elim h
            refine s_iinc X 1 rfl g91 e92 rfl (by omega) dX1_countAt_131 ?_
            refine s_goto (tgt := 94) X dX1_countAt_134 (by omega) ?_
            refine s_loc [0, 2, 1, 3, 4, 5] rfl ?_
            exact ih59 _ _ _ (iter_next h hc58)
    exact LP60 _ _ _ _ hl65
  have LP10 : ∀ (fu5 : Nat) (found_2 : Int) (trip_2 : Int) (m_ : Mem), iter (fun s => C_Fleet_countAt_b1 stop_ s.1 s.2.1 s.2.2) fu5 (found_2, trip_2, m_) = some (found_6, trip_5, m_5) → J SHC G rm_X1_countAt (.inl O) C 0 0 4 [(3, VI trip_2), (2, VI found_2), (0, VR 431), (1, VI stop_)] [] m_ := by
    intro fu5
    induction fu5 with
    | zero => intro found_2 trip_2 m_ hn6; exact absurd hn6 (by simp [iter])
    | succ fu5 ih9 =>
      intro found_2 trip_2 m_ hn6
      obtain ⟨x7, h, hc8⟩ := iter_succ hn6
      replace h : C_Fleet_countAt_b1 stop_ found_2 trip_2 m_ = some x7 := h
      unfold C_Fleet_countAt_b1 at h
      refine s_iload_n X 0 rfl dX1_countAt_4 ?_
      refine s_load0 X 2 rfl dX1_countAt_5 ?_
      refine s_getI X fk_X1_42 SHC_431 rfl dX1_countAt_6 ?_
      refine s_icmpge_f (tgt := 74) X dX1_countAt_9 (by omega) (fun c19 => ?_) (fun c20 => ?_)
      · replace h := ite_neg h c19
        exact KX11 _ (iter_exit h hc8)
      · replace h := ite_pos h c20
        obtain ⟨kj_, hk21, h⟩ := ltv_elim h
        have K22 : ∀ (found_3 : Int) (m_2 : Mem), kj_ found_3 m_2 = some x7 → J SHC G rm_X1_countAt (.inl O) C 0 0 39 [(3, VI trip_2), (2, VI found_3), (0, VR 431), (1, VI stop_)] [] m_2 := by
          intro found_3 m_2 h
          subst hk21
          dsimp only at h
          obtain ⟨g32, h⟩ := grd_some h
          refine s_load0 X 2 rfl dX1_countAt_39 ?_
          refine s_getR (id := 432) X fk_X1_9 SHC_431 rfl dX1_countAt_40 ?_
          refine s_iload_n X 0 rfl dX1_countAt_43 ?_
          refine s_iald X SHC_432 g32.1 g32.2 dX1_countAt_44 ?_
          refine s_iload_n X 3 rfl dX1_countAt_45 ?_
          refine s_icmpne_f (tgt := 68) X dX1_countAt_46 (by omega) (fun c35 => ?_) (fun c36 => ?_)
          · replace h := ite_neg h c35
            obtain ⟨g37, h⟩ := grd_some h
            obtain ⟨trip_3, e38, h⟩ := ltv_elim h
            refine s_iinc X 0 rfl g37 e38 rfl (by omega) dX1_countAt_68 ?_
            refine s_goto (tgt := 4) X dX1_countAt_71 (by omega) ?_
            exact ih9 _ _ _ (iter_next h hc8)
          · replace h := ite_pos h c36
            obtain ⟨g39, h⟩ := grd_some h
            refine s_load0 X 2 rfl dX1_countAt_49 ?_
            refine s_getR (id := 436) X fk_X1_24 SHC_431 rfl dX1_countAt_50 ?_
            refine s_iload_n X 1 rfl dX1_countAt_53 ?_
            refine s_const X (by unfold InR; omega) dX1_countAt_54 ?_
            refine s_load0 X 2 rfl dX1_countAt_55 ?_
            refine s_getR (id := 434) X fk_X1_18 SHC_431 rfl dX1_countAt_56 ?_
            refine s_iload_n X 0 rfl dX1_countAt_59 ?_
            refine s_iald X SHC_434 g32.1 g32.2 dX1_countAt_60 ?_
            refine s_imul X g39.2.2.1 dX1_countAt_61 ?_
            refine s_const X (by unfold InR; omega) dX1_countAt_62 ?_
            refine s_iadd X g39.2.2.2 dX1_countAt_63 ?_
            obtain ⟨m_4, e40, h⟩ := ltv_elim h
            refine s_iast X e40 SHC_436 g39.1 g39.2.1 dX1_countAt_64 ?_
            obtain ⟨g41, h⟩ := grd_some h
            obtain ⟨found_5, e42, h⟩ := ltv_elim h
            refine s_iinc X 1 rfl g41 e42 rfl (by omega) dX1_countAt_65 ?_
            obtain ⟨g43, h⟩ := grd_some h
            obtain ⟨trip_4, e44, h⟩ := ltv_elim h
            refine s_iinc X 1 rfl g43 e44 rfl (by omega) dX1_countAt_68 ?_
            refine s_goto (tgt := 4) X dX1_countAt_71 (by omega) ?_
            exact ih9 _ _ _ (iter_next h hc8)
        obtain ⟨g23, h⟩ := grd_some h
        refine s_load0 X 2 rfl dX1_countAt_12 ?_
        refine s_getR (id := 433) X fk_X1_15 SHC_431 rfl dX1_countAt_13 ?_
        refine s_iload_n X 0 rfl dX1_countAt_16 ?_
        refine s_iald X SHC_433 g23.1 g23.2 dX1_countAt_17 ?_
        refine s_iload_n X 3 rfl dX1_countAt_18 ?_
        refine s_icmpne_f (tgt := 39) X dX1_countAt_19 (by omega) (fun c26 => ?_) (fun c27 => ?_)
        · replace h := ite_neg h c26
          exact s_kn rfl rfl (K22 _ _ h)
        · replace h := ite_pos h c27
          obtain ⟨g28, h⟩ := grd_some h
          refine s_load0 X 2 rfl dX1_countAt_22 ?_
          refine s_getR (id := 436) X fk_X1_24 SHC_431 rfl dX1_countAt_23 ?_
          refine s_iload_n X 1 rfl dX1_countAt_26 ?_
          refine s_const X (by unfold InR; omega) dX1_countAt_27 ?_
          refine s_load0 X 2 rfl dX1_countAt_28 ?_
          refine s_getR (id := 435) X fk_X1_21 SHC_431 rfl dX1_countAt_29 ?_
          refine s_iload_n X 0 rfl dX1_countAt_32 ?_
          refine s_iald X SHC_435 g23.1 g23.2 dX1_countAt_33 ?_
          refine s_imul X g28.2.2 dX1_countAt_34 ?_
          obtain ⟨m_3, e29, h⟩ := ltv_elim h
          refine s_iast X e29 SHC_436 g28.1 g28.2.1 dX1_countAt_35 ?_
          obtain ⟨g30, h⟩ := grd_some h
          obtain ⟨found_4, e31, h⟩ := ltv_elim h
          refine s_iinc X 1 rfl g30 e31 rfl (by omega) dX1_countAt_36 ?_
          refine s_loc [1, 0, 2, 3] rfl ?_
          exact s_kn rfl rfl (K22 _ _ h)
  exact LP10 _ _ _ _ hl15
set_option maxRecDepth 20000 in
set_option maxHeartbeats 4000000 in
theorem L_C_Fleet_countByTimes (G : Gl) (stops_ : Int) (m : Mem) (r : (Int × Mem))  (h : C_Fleet_countByTimes stops_ m = some r) : Con SHC G yX1_countByTimes cX1_countByTimes 4 (some .int) rm_X1_countByTimes [VR 431, VI stops_] m (((.inl (some (VI r.1)), r.2) : Res × Mem)) := by
  refine con_of (own := "Lastbus$Fleet") (by decide) rfl (Nat.le_of_ble_eq_true rfl) (fun C X => ?_)
  obtain ⟨O, hO⟩ : ∃ O : Res × Mem, O = (((.inl (some (VI r.1)), r.2) : Res × Mem)) := ⟨_, rfl⟩
  rw [← hO]
  show J SHC G rm_X1_countByTimes (.inl O) C 0 0 0 [(0, VR 431), (1, VI stops_)] [] m
  unfold C_Fleet_countByTimes at h
  refine s_const X (by unfold InR; omega) dX1_countByTimes_0 ?_
  obtain ⟨sum_, e2, h⟩ := ltv_elim h
  refine s_istore_n X e2 rfl (by omega) dX1_countByTimes_1 ?_
  refine s_const X (by unfold InR; omega) dX1_countByTimes_2 ?_
  obtain ⟨stop_, e4, h⟩ := ltv_elim h
  refine s_istore_n X e4 rfl (by omega) dX1_countByTimes_3 ?_
  obtain ⟨sum_4, stop_4, m_3, hl14, h⟩ := bq3_some h
  obtain ⟨fu50, hl15⟩ := loop_iter hl14
  have KX11 : ∀ q9 : Int × Int × Mem, q9 = (sum_4, stop_4, m_3) → J SHC G rm_X1_countByTimes (.inl O) C 0 0 23 [(3, VI q9.2.1), (2, VI q9.1), (0, VR 431), (1, VI stops_)] [] (q9.2.2) := by
    intro q9 e9
    subst e9
    show J SHC G rm_X1_countByTimes (.inl O) C 0 0 23 [(3, VI stop_4), (2, VI sum_4), (0, VR 431), (1, VI stops_)] [] m_3
    refine s_iload_n X 1 rfl dX1_countByTimes_23 ?_
    exact s_iret X (Nat.le_of_ble_eq_true rfl) (Nat.le_of_ble_eq_true rfl) (by cases h; exact hO) dX1_countByTimes_24
  have LP10 : ∀ (fu5 : Nat) (sum_2 : Int) (stop_2 : Int) (m_ : Mem), iter (fun s => C_Fleet_countByTimes_b1 stops_ s.1 s.2.1 s.2.2) fu5 (sum_2, stop_2, m_) = some (sum_4, stop_4, m_3) → J SHC G rm_X1_countByTimes (.inl O) C 0 0 4 [(3, VI stop_2), (2, VI sum_2), (0, VR 431), (1, VI stops_)] [] m_ := by
    intro fu5
    induction fu5 with
    | zero => intro sum_2 stop_2 m_ hn6; exact absurd hn6 (by simp [iter])
    | succ fu5 ih9 =>
      intro sum_2 stop_2 m_ hn6
      obtain ⟨x7, h, hc8⟩ := iter_succ hn6
      replace h : C_Fleet_countByTimes_b1 stops_ sum_2 stop_2 m_ = some x7 := h
      unfold C_Fleet_countByTimes_b1 at h
      refine s_iload_n X 0 rfl dX1_countByTimes_4 ?_
      refine s_iload_n X 3 rfl dX1_countByTimes_5 ?_
      refine s_icmpge_f (tgt := 23) X dX1_countByTimes_6 (by omega) (fun c19 => ?_) (fun c20 => ?_)
      · replace h := ite_neg h c19
        exact KX11 _ (iter_exit h hc8)
      · replace h := ite_pos h c20
        refine s_iload_n X 1 rfl dX1_countByTimes_9 ?_
        refine s_load0 X 2 rfl dX1_countByTimes_10 ?_
        refine s_iload_n X 0 rfl dX1_countByTimes_11 ?_
        obtain ⟨r_, m_2, hq22, h⟩ := bq2_some h
        refine s_callV (As := [VI stop_2]) X cw_X1_70 SHC_431 rfl dX1_countByTimes_12 (L_C_Fleet_countAt G stop_2 m_ (r_, m_2) hq22) rfl ⟨Nat.le_of_ble_eq_true rfl, Nat.le_of_ble_eq_true rfl⟩ ⟨Nat.le_of_ble_eq_true rfl, Nat.le_of_ble_eq_true rfl⟩ (Nat.le_of_ble_eq_true rfl) noT (kkR ?_)
        obtain ⟨g24, h⟩ := grd_some h
        refine s_iadd X g24 dX1_countByTimes_15 ?_
        obtain ⟨sum_3, e25, h⟩ := ltv_elim h
        refine s_istore_n X e25 rfl (by omega) dX1_countByTimes_16 ?_
        obtain ⟨g26, h⟩ := grd_some h
        obtain ⟨stop_3, e27, h⟩ := ltv_elim h
        refine s_iinc X 1 rfl g26 e27 rfl (by omega) dX1_countByTimes_17 ?_
        refine s_goto (tgt := 4) X dX1_countByTimes_20 (by omega) ?_
        exact ih9 _ _ _ (iter_next h hc8)
  exact LP10 _ _ _ _ hl15
set_option maxRecDepth 20000 in
set_option maxHeartbeats 4000000 in
theorem L_C_vehicles (G : Gl) (day_ : Int) (m : Mem) (r : ((Int ⊕ Nat) × Mem))  (h : C_vehicles day_ m = some r) : Con SHC G yX11_vehicles cX11_vehicles 2 (some .int) rm_X11_vehicles [VR 0, VI day_] m (oT wI r) := by
  refine con_of (own := "Lastbus") (by decide) rfl (Nat.le_of_ble_eq_true rfl) (fun C X => ?_)
  obtain ⟨O, hO⟩ : ∃ O : Res × Mem, O = (oT wI r) := ⟨_, rfl⟩
  rw [← hO]
  show J SHC G rm_X11_vehicles (.inl O) C 0 0 0 [(0, VR 0), (1, VI day_)] [] m
  unfold C_vehicles at h
  refine s_iload_n X 1 rfl dX11_vehicles_0 ?_
  obtain ⟨q3, hq2, h⟩ := bnd_some h
  refine s_callS (As := [VI day_]) X cw_X11_140 dX11_vehicles_1 (L_C_needDay G day_ m q3 hq2) rfl ⟨Nat.le_of_ble_eq_true rfl, Nat.le_of_ble_eq_true rfl⟩ ⟨Nat.le_of_ble_eq_true rfl, Nat.le_of_ble_eq_true rfl⟩ (Nat.le_of_ble_eq_true rfl) (thr_up hO h) (kkT fun u_ m_ e9 => ?_)
  subst e9
  replace h := tbd_inl h
  refine s_load0 X 0 rfl dX11_vehicles_4 ?_
  refine s_getR (id := 431) X fk_X11_79 SHC_0 rfl dX11_vehicles_5 ?_
  refine s_load0 X 0 rfl dX11_vehicles_8 ?_
  refine s_getR (id := 29) X fk_X11_19 SHC_0 rfl dX11_vehicles_9 ?_
  refine s_load0 X 0 rfl dX11_vehicles_12 ?_
  refine s_getR (id := 31) X fk_X11_26 SHC_0 rfl dX11_vehicles_13 ?_
  refine s_iload_n X 1 rfl dX11_vehicles_16 ?_
  obtain ⟨m_2, hq6, h⟩ := bnd_some h
  refine s_callV (As := [VR 29, VR 31, VI day_]) X cw_X11_398 SHC_431 rfl dX11_vehicles_17 (L_C_Fleet_gather G day_ m_ m_2 hq6) rfl ⟨Nat.le_of_ble_eq_true rfl, Nat.le_of_ble_eq_true rfl⟩ ⟨Nat.le_of_ble_eq_true rfl, Nat.le_of_ble_eq_true rfl⟩ (Nat.le_of_ble_eq_true rfl) noT (kkU ?_)
  refine s_load0 X 0 rfl dX11_vehicles_20 ?_
  refine s_getR (id := 431) X fk_X11_79 SHC_0 rfl dX11_vehicles_21 ?_
  refine s_load0 X 0 rfl dX11_vehicles_24 ?_
  refine s_getR (id := 1) X fk_X11_12 SHC_0 rfl dX11_vehicles_25 ?_
  refine s_getI X fk_X11_92 SHC_1 rfl dX11_vehicles_28 ?_
  obtain ⟨r_, m_3, hq10, h⟩ := bq2_some h
  refine s_callV (As := [VI (m_2 1 0)]) X cw_X11_402 SHC_431 rfl dX11_vehicles_31 (L_C_Fleet_countByTimes G (m_2 1 0) m_2 (r_, m_3) hq10) rfl ⟨Nat.le_of_ble_eq_true rfl, Nat.le_of_ble_eq_true rfl⟩ ⟨Nat.le_of_ble_eq_true rfl, Nat.le_of_ble_eq_true rfl⟩ (Nat.le_of_ble_eq_true rfl) noT (kkR ?_)
  exact s_iret X (Nat.le_of_ble_eq_true rfl) (Nat.le_of_ble_eq_true rfl) (by cases h; exact hO) dX11_vehicles_34
set_option maxRecDepth 20000 in
set_option maxHeartbeats 4000000 in
theorem L_C_Fleet_canFollow (G : Gl) (trip_ : Int) (next_ : Int) (m : Mem) (r : Int)  (h : C_Fleet_canFollow trip_ next_ m = some r) : Con SHC G yX1_canFollow cX1_canFollow 3 (some .boolean) rm_X1_canFollow [VR 431, VI trip_, VI next_] m (((.inl (some (VI r)), m) : Res × Mem)) := by
  refine con_of (own := "Lastbus$Fleet") (by decide) rfl (Nat.le_of_ble_eq_true rfl) (fun C X => ?_)
  obtain ⟨O, hO⟩ : ∃ O : Res × Mem, O = (((.inl (some (VI r)), m) : Res × Mem)) := ⟨_, rfl⟩
  rw [← hO]
  show J SHC G rm_X1_canFollow (.inl O) C 0 0 0 [(0, VR 431), (1, VI trip_), (2, VI next_)] [] m
  unfold C_Fleet_canFollow at h
  obtain ⟨g1, h⟩ := grd_some h
  have kM2 : J SHC G rm_X1_canFollow (.inl O) C 0 0 35 [(0, VR 431), (1, VI trip_), (2, VI next_)] [VI (if (m 433 trip_.toNat = m 432 next_.toNat) ∧ (m 435 trip_.toNat ≤ m 434 next_.toNat) then 1 else 0)] m := by
    exact s_zret X okT_ite (Nat.le_of_ble_eq_true rfl) (Nat.le_of_ble_eq_true rfl) (by cases h; exact hO) dX1_canFollow_35
  refine s_load0 X 0 rfl dX1_canFollow_0 ?_
  refine s_getR (id := 433) X fk_X1_15 SHC_431 rfl dX1_canFollow_1 ?_
  refine s_iload_n X 1 rfl dX1_canFollow_4 ?_
  refine s_iald X SHC_433 g1.1 g1.2.1 dX1_canFollow_5 ?_
  refine s_load0 X 0 rfl dX1_canFollow_6 ?_
  refine s_getR (id := 432) X fk_X1_9 SHC_431 rfl dX1_canFollow_7 ?_
  refine s_iload_n X 2 rfl dX1_canFollow_10 ?_
  refine s_iald X SHC_432 g1.2.2.1 g1.2.2.2 dX1_canFollow_11 ?_
  refine s_icmpne_f (tgt := 34) X dX1_canFollow_12 (by omega) (fun c3 => ?_) (fun c4 => ?_)
  · refine s_const X (by unfold InR; omega) dX1_canFollow_34 ?_
    exact s_eqt (if_neg (fun q => c3 q.1)) kM2
  · have a5 : m 433 trip_.toNat = m 432 next_.toNat := c4
    refine s_load0 X 0 rfl dX1_canFollow_15 ?_
    refine s_getR (id := 435) X fk_X1_21 SHC_431 rfl dX1_canFollow_16 ?_
    refine s_iload_n X 1 rfl dX1_canFollow_19 ?_
    refine s_iald X SHC_435 g1.1 g1.2.1 dX1_canFollow_20 ?_
    refine s_load0 X 0 rfl dX1_canFollow_21 ?_
    refine s_getR (id := 434) X fk_X1_18 SHC_431 rfl dX1_canFollow_22 ?_
    refine s_iload_n X 2 rfl dX1_canFollow_25 ?_
    refine s_iald X SHC_434 g1.2.2.1 g1.2.2.2 dX1_canFollow_26 ?_
    refine s_icmpgt_f (tgt := 34) X dX1_canFollow_27 (by omega) (fun c6 => ?_) (fun c7 => ?_)
    · refine s_const X (by unfold InR; omega) dX1_canFollow_34 ?_
      exact s_eqt (if_neg (fun q => c6 q.2)) kM2
    · refine s_const X (by unfold InR; omega) dX1_canFollow_30 ?_
      refine s_goto (tgt := 35) X dX1_canFollow_31 (by omega) ?_
      exact s_eqt (if_pos ⟨a5, c7⟩) kM2
set_option maxRecDepth 20000 in
set_option maxHeartbeats 4000000 in
theorem L_C_Fleet_findFree (G : Gl) (trip_ : Int) (m : Mem) (r : (Int × Mem))  (h : C_Fleet_findFree trip_ m = some r) : Con SHC G yX1_findFree cX1_findFree 5 (some .int) rm_X1_findFree [VR 431, VI trip_] m (((.inl (some (VI r.1)), r.2) : Res × Mem)) := by
  refine con_of (own := "Lastbus$Fleet") (by decide) rfl (Nat.le_of_ble_eq_true rfl) (fun C X => ?_)
  obtain ⟨O, hO⟩ : ∃ O : Res × Mem, O = (((.inl (some (VI r.1)), r.2) : Res × Mem)) := ⟨_, rfl⟩
  rw [← hO]
  show J SHC G rm_X1_findFree (.inl O) C 0 0 0 [(0, VR 431), (1, VI trip_)] [] m
  unfold C_Fleet_findFree at h
  refine s_const X (by unfold InR; omega) dX1_findFree_0 ?_
  obtain ⟨next_, e2, h⟩ := ltv_elim h
  refine s_istore_n X e2 rfl (by omega) dX1_findFree_1 ?_
  obtain ⟨next_4, m_3, hl12, h⟩ := bq2_some h
  obtain ⟨fu30, hl13⟩ := loop_iter hl12
  have KX9 : ∀ q9 : Int × Mem, q9 = (next_4, m_3) → J SHC G rm_X1_findFree (.inl O) C 0 0 23 [(2, VI q9.1), (0, VR 431), (1, VI trip_)] [] (q9.2) := by
    intro q9 e9
    subst e9
    show J SHC G rm_X1_findFree (.inl O) C 0 0 23 [(2, VI next_4), (0, VR 431), (1, VI trip_)] [] m_3
    refine s_load0 X 1 rfl dX1_findFree_23 ?_
    refine s_getR (id := 440) X fk_X1_36 SHC_431 rfl dX1_findFree_24 ?_
    refine s_const X (by unfold InR; omega) dX1_findFree_27 ?_
    refine s_iload_n X 2 rfl dX1_findFree_28 ?_
    obtain ⟨m_4, e24, h⟩ := ltv_elim h
    refine s_iast X e24 SHC_440 (by omega) (by omega) dX1_findFree_29 ?_
    refine s_const X (by unfold InR; omega) dX1_findFree_30 ?_
    obtain ⟨waiting_, e26, h⟩ := ltv_elim h
    refine s_istore_n X e26 rfl (by omega) dX1_findFree_31 ?_
    refine s_const X (by unfold InR; omega) dX1_findFree_32 ?_
    obtain ⟨turn_, e28, h⟩ := ltv_elim h
    refine s_istore_n X e28 rfl (by omega) dX1_findFree_33 ?_
    obtain ⟨s36, hl38, h⟩ := br3_some h
    obtain ⟨fu290, hl39⟩ := loop_iter hl38
    have KR37 : ∀ q9 : (Int × Mem), .inr q9 = s36 → O = ((.inl (some (VI q9.1)), q9.2) : Res × Mem) := by
      intro q9 e9
      subst e9
      replace h := brm3_inr h
      exact (by cases h; exact hO)
    have KX35 : ∀ q9 : Int × Int × Mem, .inl q9 = s36 → J SHC G rm_X1_findFree (.inl O) C 0 0 138 [(3, VI q9.2.1), (2, VI q9.1), (0, VR 431), (1, VI trip_)] [] (q9.2.2) := by
      intro q9 e9
      subst e9
      obtain ⟨waiting_6, turn_4, m_10⟩ := q9
      replace h := brm3_inl h
      show J SHC G rm_X1_findFree (.inl O) C 0 0 138 [(3, VI turn_4), (2, VI waiting_6), (0, VR 431), (1, VI trip_)] [] m_10
      refine s_const X (by unfold InR; omega) dX1_findFree_138 ?_
      exact s_iret X (Nat.le_of_ble_eq_true rfl) (Nat.le_of_ble_eq_true rfl) (by cases h; exact hO) dX1_findFree_139
    have LP34 : ∀ (fu29 : Nat) (waiting_2 : Int) (turn_2 : Int) (m_5 : Mem), iter (fun s => C_Fleet_findFree_b2 s.1 s.2.1 s.2.2) fu29 (waiting_2, turn_2, m_5) = some s36 → J SHC G rm_X1_findFree (.inl O) C 0 0 34 [(3, VI turn_2), (2, VI waiting_2), (0, VR 431), (1, VI trip_)] [] m_5 := by
      intro fu29
      induction fu29 with
      | zero => intro waiting_2 turn_2 m_5 hn30; exact absurd hn30 (by simp [iter])
      | succ fu29 ih33 =>
        intro waiting_2 turn_2 m_5 hn30
        obtain ⟨x31, h, hc32⟩ := iter_succ hn30
        replace h : C_Fleet_findFree_b2 waiting_2 turn_2 m_5 = some x31 := h
        unfold C_Fleet_findFree_b2 at h
        refine s_iload_n X 0 rfl dX1_findFree_34 ?_
        refine s_iload_n X 1 rfl dX1_findFree_35 ?_
        refine s_icmpge_f (tgt := 138) X dX1_findFree_36 (by omega) (fun c43 => ?_) (fun c44 => ?_)
        · replace h := ite_neg h c43
          exact KX35 _ (iter_exit h hc32)
        · replace h := ite_pos h c44
          refine s_const X (by unfold InR; omega) dX1_findFree_39 ?_
          obtain ⟨next_5, e46, h⟩ := ltv_elim h
          refine s_istore X e46 rfl (by omega) dX1_findFree_40 ?_
          obtain ⟨s54, hl56, h⟩ := br3_some h
          obtain ⟨fu470, hl57⟩ := loop_iter hl56
          have KR55 : ∀ q9 : (Int × Mem), .inr q9 = s54 → O = ((.inl (some (VI q9.1)), q9.2) : Res × Mem) := by
            intro q9 e9
            subst e9
            replace h := brm3_inr h
            exact (KR37 _ (iter_exit h hc32))
          have KX53 : ∀ q9 : Int × Int × Mem, .inl q9 = s54 → J SHC G rm_X1_findFree (.inl O) C 0 0 132 [(4, VI q9.2.1), (3, VI turn_2), (2, VI q9.1), (0, VR 431), (1, VI trip_)] [] (q9.2.2) := by
            intro q9 e9
            subst e9
            obtain ⟨waiting_5, next_11, m_9⟩ := q9
            replace h := brm3_inl h
            show J SHC G rm_X1_findFree (.inl O) C 0 0 132 [(4, VI next_11), (3, VI turn_2), (2, VI waiting_5), (0, VR 431), (1, VI trip_)] [] m_9
            obtain ⟨g99, h⟩ := grd_some h
            obtain ⟨turn_3, e100, h⟩ := ltv_elim h
            refine s_iinc X 1 rfl g99 e100 rfl (by omega) dX1_findFree_132 ?_
            refine s_goto (tgt := 34) X dX1_findFree_135 (by omega) ?_
            refine s_loc [0, 2, 3, 4] rfl ?_
            exact ih33 _ _ _ (iter_next h hc32)
          have LP52 : ∀ (fu47 : Nat) (waiting_3 : Int) (next_6 : Int) (m_6 : Mem), iter (fun s => C_Fleet_findFree_b3 turn_2 s.1 s.2.1 s.2.2) fu47 (waiting_3, next_6, m_6) = some s54 → J SHC G rm_X1_findFree (.inl O) C 0 0 42 [(4, VI next_6), (3, VI turn_2), (2, VI waiting_3), (0, VR 431), (1, VI trip_)] [] m_6 := by
            intro fu47
            induction fu47 with
            | zero => intro waiting_3 next_6 m_6 hn48; exact absurd hn48 (by simp [iter])
            | succ fu47 ih51 =>
              intro waiting_3 next_6 m_6 hn48
              obtain ⟨x49, h, hc50⟩ := iter_succ hn48
              replace h : C_Fleet_findFree_b3 turn_2 waiting_3 next_6 m_6 = some x49 := h
              unfold C_Fleet_findFree_b3 at h
              refine s_iload X 0 rfl dX1_findFree_42 ?_
              refine s_load0 X 3 rfl dX1_findFree_44 ?_
              refine s_getI X fk_X1_42 SHC_431 rfl dX1_findFree_45 ?_
              refine s_icmpge_f (tgt := 132) X dX1_findFree_48 (by omega) (fun c61 => ?_) (fun c62 => ?_)
              · replace h := ite_neg h c61
                exact KX53 _ (iter_exit h hc50)
              · replace h := ite_pos h c62
                obtain ⟨g63, h⟩ := grd_some h
                refine s_load0 X 3 rfl dX1_findFree_51 ?_
                refine s_getR (id := 441) X fk_X1_39 SHC_431 rfl dX1_findFree_52 ?_
                refine s_iload X 0 rfl dX1_findFree_55 ?_
                refine s_iald X SHC_441 g63.1 g63.2 dX1_findFree_57 ?_
                refine s_const X (by unfold InR; omega) dX1_findFree_58 ?_
                refine s_icmpne_f (tgt := 126) X dX1_findFree_59 (by omega) (fun c66 => ?_) (fun c67 => ?_)
                · replace h := ite_neg h c66
                  obtain ⟨g68, h⟩ := grd_some h
                  obtain ⟨next_7, e69, h⟩ := ltv_elim h
                  refine s_iinc X 0 rfl g68 e69 rfl (by omega) dX1_findFree_126 ?_
                  refine s_goto (tgt := 42) X dX1_findFree_129 (by omega) ?_
                  exact ih51 _ _ _ (iter_next h hc50)
                · replace h := ite_pos h c67
                  obtain ⟨g70, h⟩ := grd_some h
                  refine s_load0 X 3 rfl dX1_findFree_62 ?_
                  refine s_load0 X 3 rfl dX1_findFree_63 ?_
                  refine s_getR (id := 440) X fk_X1_36 SHC_431 rfl dX1_findFree_64 ?_
                  refine s_iload_n X 1 rfl dX1_findFree_67 ?_
                  refine s_iald X SHC_440 g70.1 g70.2 dX1_findFree_68 ?_
                  refine s_iload X 0 rfl dX1_findFree_69 ?_
                  obtain ⟨r_, hq71, h⟩ := bnd_some h
                  refine s_callV (As := [VI (m_6 440 turn_2.toNat), VI next_6]) X cw_X1_85 SHC_431 rfl dX1_findFree_71 (L_C_Fleet_canFollow G (m_6 440 turn_2.toNat) next_6 m_6 r_ hq71) rfl ⟨Nat.le_of_ble_eq_true rfl, Nat.le_of_ble_eq_true rfl⟩ ⟨Nat.le_of_ble_eq_true rfl, Nat.le_of_ble_eq_true rfl⟩ (Nat.le_of_ble_eq_true rfl) noT (kkR ?_)
                  refine s_ifeq_f (tgt := 126) X dX1_findFree_74 (by omega) (fun c74 => ?_) (fun c75 => ?_)
                  · replace h := ite_neg h c74
                    obtain ⟨g76, h⟩ := grd_some h
                    obtain ⟨next_8, e77, h⟩ := ltv_elim h
                    refine s_iinc X 0 rfl g76 e77 rfl (by omega) dX1_findFree_126 ?_
                    refine s_goto (tgt := 42) X dX1_findFree_129 (by omega) ?_
                    exact ih51 _ _ _ (iter_next h hc50)
                  · replace h := ite_pos h c75
                    refine s_load0 X 3 rfl dX1_findFree_77 ?_
                    refine s_getR (id := 441) X fk_X1_39 SHC_431 rfl dX1_findFree_78 ?_
                    refine s_iload X 0 rfl dX1_findFree_81 ?_
                    refine s_load0 X 3 rfl dX1_findFree_83 ?_
                    refine s_getR (id := 440) X fk_X1_36 SHC_431 rfl dX1_findFree_84 ?_
                    refine s_iload_n X 1 rfl dX1_findFree_87 ?_
                    refine s_iald X SHC_440 g70.1 g70.2 dX1_findFree_88 ?_
                    obtain ⟨m_7, e79, h⟩ := ltv_elim h
                    refine s_iast X e79 SHC_441 g63.1 g63.2 dX1_findFree_89 ?_
                    refine s_load0 X 3 rfl dX1_findFree_90 ?_
                    refine s_getR (id := 439) X fk_X1_33 SHC_431 rfl dX1_findFree_91 ?_
                    refine s_iload X 0 rfl dX1_findFree_94 ?_
                    refine s_iald X SHC_439 g63.1 g63.2 dX1_findFree_96 ?_
                    refine s_const X (by unfold InR; omega) dX1_findFree_97 ?_
                    refine s_icmpne_f (tgt := 104) X dX1_findFree_98 (by omega) (fun c83 => ?_) (fun c84 => ?_)
                    · replace h := ite_neg h c83
                      refine s_iload_n X 2 rfl dX1_findFree_104 ?_
                      refine s_bipush X (by omega) dX1_findFree_105 ?_
                      refine s_icmpge_f (tgt := 126) X dX1_findFree_107 (by omega) (fun c88 => ?_) (fun c89 => ?_)
                      · replace h := ite_neg h c88
                        obtain ⟨g90, h⟩ := grd_some h
                        obtain ⟨next_9, e91, h⟩ := ltv_elim h
                        refine s_iinc X 0 rfl g90 e91 rfl (by omega) dX1_findFree_126 ?_
                        refine s_goto (tgt := 42) X dX1_findFree_129 (by omega) ?_
                        exact ih51 _ _ _ (iter_next h hc50)
                      · replace h := ite_pos h c89
                        obtain ⟨g92, h⟩ := grd_some h
                        refine s_load0 X 3 rfl dX1_findFree_110 ?_
                        refine s_getR (id := 440) X fk_X1_36 SHC_431 rfl dX1_findFree_111 ?_
                        refine s_iload_n X 2 rfl dX1_findFree_114 ?_
                        refine s_load0 X 3 rfl dX1_findFree_115 ?_
                        refine s_getR (id := 439) X fk_X1_33 SHC_431 rfl dX1_findFree_116 ?_
                        refine s_iload X 0 rfl dX1_findFree_119 ?_
                        refine s_iald X SHC_439 g63.1 g63.2 dX1_findFree_121 ?_
                        obtain ⟨m_8, e93, h⟩ := ltv_elim h
                        refine s_iast X e93 SHC_440 g92.1 g92.2 dX1_findFree_122 ?_
                        obtain ⟨g94, h⟩ := grd_some h
                        obtain ⟨waiting_4, e95, h⟩ := ltv_elim h
                        refine s_iinc X 2 rfl g94 e95 rfl (by omega) dX1_findFree_123 ?_
                        obtain ⟨g96, h⟩ := grd_some h
                        obtain ⟨next_10, e97, h⟩ := ltv_elim h
                        refine s_iinc X 1 rfl g96 e97 rfl (by omega) dX1_findFree_126 ?_
                        refine s_goto (tgt := 42) X dX1_findFree_129 (by omega) ?_
                        refine s_loc [0, 2, 1, 3, 4] rfl ?_
                        exact ih51 _ _ _ (iter_next h hc50)
                    · replace h := ite_pos h c84
                      refine s_iload X 0 rfl dX1_findFree_101 ?_
                      exact s_iret X (Nat.le_of_ble_eq_true rfl) (Nat.le_of_ble_eq_true rfl) (KR55 _ (iter_exit h hc50)) dX1_findFree_103
          exact LP52 _ _ _ _ hl57
    exact LP34 _ _ _ _ hl39
  have LP8 : ∀ (fu3 : Nat) (next_2 : Int) (m_ : Mem), iter (fun s => C_Fleet_findFree_b1 s.1 s.2) fu3 (next_2, m_) = some (next_4, m_3) → J SHC G rm_X1_findFree (.inl O) C 0 0 2 [(2, VI next_2), (0, VR 431), (1, VI trip_)] [] m_ := by
    intro fu3
    induction fu3 with
    | zero => intro next_2 m_ hn4; exact absurd hn4 (by simp [iter])
    | succ fu3 ih7 =>
      intro next_2 m_ hn4
      obtain ⟨x5, h, hc6⟩ := iter_succ hn4
      replace h : C_Fleet_findFree_b1 next_2 m_ = some x5 := h
      unfold C_Fleet_findFree_b1 at h
      refine s_iload_n X 0 rfl dX1_findFree_2 ?_
      refine s_load0 X 1 rfl dX1_findFree_3 ?_
      refine s_getI X fk_X1_42 SHC_431 rfl dX1_findFree_4 ?_
      refine s_icmpge_f (tgt := 23) X dX1_findFree_7 (by omega) (fun c17 => ?_) (fun c18 => ?_)
      · replace h := ite_neg h c17
        exact KX9 _ (iter_exit h hc6)
      · replace h := ite_pos h c18
        obtain ⟨g19, h⟩ := grd_some h
        refine s_load0 X 1 rfl dX1_findFree_10 ?_
        refine s_getR (id := 441) X fk_X1_39 SHC_431 rfl dX1_findFree_11 ?_
        refine s_iload_n X 0 rfl dX1_findFree_14 ?_
        refine s_const X (by unfold InR; omega) dX1_findFree_15 ?_
        obtain ⟨m_2, e20, h⟩ := ltv_elim h
        refine s_iast X e20 SHC_441 g19.1 g19.2 dX1_findFree_16 ?_
        obtain ⟨g21, h⟩ := grd_some h
        obtain ⟨next_3, e22, h⟩ := ltv_elim h
        refine s_iinc X 0 rfl g21 e22 rfl (by omega) dX1_findFree_17 ?_
        refine s_goto (tgt := 2) X dX1_findFree_20 (by omega) ?_
        exact ih7 _ _ (iter_next h hc6)
  exact LP8 _ _ _ hl13
set_option maxRecDepth 20000 in
set_option maxHeartbeats 4000000 in
theorem L_C_Fleet_matchBack (G : Gl) (end_ : Int) (m : Mem) (r : Mem)  (h : C_Fleet_matchBack end_ m = some r) : Con SHC G yX1_matchBack cX1_matchBack 6 none rm_X1_matchBack [VR 431, VI end_] m (((.inl none, r) : Res × Mem)) := by
  refine con_of (own := "Lastbus$Fleet") (by decide) rfl (Nat.le_of_ble_eq_true rfl) (fun C X => ?_)
  obtain ⟨O, hO⟩ : ∃ O : Res × Mem, O = (((.inl none, r) : Res × Mem)) := ⟨_, rfl⟩
  rw [← hO]
  show J SHC G rm_X1_matchBack (.inl O) C 0 0 0 [(0, VR 431), (1, VI end_)] [] m
  unfold C_Fleet_matchBack at h
  refine s_iload_n X 1 rfl dX1_matchBack_0 ?_
  obtain ⟨next_, e2, h⟩ := ltv_elim h
  refine s_istore_n X e2 rfl (by omega) dX1_matchBack_1 ?_
  refine s_const X (by unfold InR; omega) dX1_matchBack_2 ?_
  obtain ⟨turn_, e4, h⟩ := ltv_elim h
  refine s_istore_n X e4 rfl (by omega) dX1_matchBack_3 ?_
  obtain ⟨next_4, turn_4, m_4, hl14, h⟩ := bq3_some h
  obtain ⟨fu50, hl15⟩ := loop_iter hl14
  have KX11 : ∀ q9 : Int × Int × Mem, q9 = (next_4, turn_4, m_4) → J SHC G rm_X1_matchBack (.inl O) C 0 0 69 [(3, VI q9.2.1), (2, VI q9.1), (0, VR 431), (1, VI end_)] [] (q9.2.2) := by
    intro q9 e9
    subst e9
    show J SHC G rm_X1_matchBack (.inl O) C 0 0 69 [(3, VI turn_4), (2, VI next_4), (0, VR 431), (1, VI end_)] [] m_4
    exact s_vret X (Nat.le_of_ble_eq_true rfl) (Nat.le_of_ble_eq_true rfl) (by cases h; exact hO) dX1_matchBack_69
  have LP10 : ∀ (fu5 : Nat) (next_2 : Int) (turn_2 : Int) (m_ : Mem), iter (fun s => C_Fleet_matchBack_b1 s.1 s.2.1 s.2.2) fu5 (next_2, turn_2, m_) = some (next_4, turn_4, m_4) → J SHC G rm_X1_matchBack (.inl O) C 0 0 4 [(3, VI turn_2), (2, VI next_2), (0, VR 431), (1, VI end_)] [] m_ := by
    intro fu5
    induction fu5 with
    | zero => intro next_2 turn_2 m_ hn6; exact absurd hn6 (by simp [iter])
    | succ fu5 ih9 =>
      intro next_2 turn_2 m_ hn6
      obtain ⟨x7, h, hc8⟩ := iter_succ hn6
      replace h : C_Fleet_matchBack_b1 next_2 turn_2 m_ = some x7 := h
      unfold C_Fleet_matchBack_b1 at h
      obtain ⟨g16, h⟩ := grd_some h
      have kF18 : ¬ (((turn_2 < m_ 431 0) ∧ (¬ next_2 = (-1))) ∧ (¬ m_ 441 next_2.toNat = (-1))) → J SHC G rm_X1_matchBack (.inl O) C 0 0 69 [(3, VI turn_2), (2, VI next_2), (0, VR 431), (1, VI end_)] [] m_ := by
        intro c21
        replace h := ite_neg h c21
        exact KX11 _ (iter_exit h hc8)
      refine s_iload_n X 0 rfl dX1_matchBack_4 ?_
      refine s_load0 X 2 rfl dX1_matchBack_5 ?_
      refine s_getI X fk_X1_42 SHC_431 rfl dX1_matchBack_6 ?_
      refine s_icmpge_f (tgt := 69) X dX1_matchBack_9 (by omega) (fun c19 => ?_) (fun c20 => ?_)
      · exact kF18 (fun q => (fun q => c19 q.1) q.1)
      · have a22 : turn_2 < m_ 431 0 := c20
        refine s_iload_n X 1 rfl dX1_matchBack_12 ?_
        refine s_const X (by unfold InR; omega) dX1_matchBack_13 ?_
        refine s_icmpeq_f (tgt := 69) X dX1_matchBack_14 (by omega) (fun c23 => ?_) (fun c24 => ?_)
        · exact kF18 (fun q => (fun q => c23 q.2) q.1)
        · have a25 : (turn_2 < m_ 431 0) ∧ (¬ next_2 = (-1)) := ⟨a22, c24⟩
          refine s_load0 X 2 rfl dX1_matchBack_17 ?_
          refine s_getR (id := 441) X fk_X1_39 SHC_431 rfl dX1_matchBack_18 ?_
          refine s_iload_n X 1 rfl dX1_matchBack_21 ?_
          refine s_iald X SHC_441 (g16.1 a25) (g16.2 a25) dX1_matchBack_22 ?_
          refine s_const X (by unfold InR; omega) dX1_matchBack_23 ?_
          refine s_icmpeq_f (tgt := 69) X dX1_matchBack_24 (by omega) (fun c26 => ?_) (fun c27 => ?_)
          · exact kF18 (fun q => c26 q.2)
          · replace h := ite_pos h ⟨a25, c27⟩
            obtain ⟨g28, h⟩ := grd_some h
            refine s_load0 X 2 rfl dX1_matchBack_27 ?_
            refine s_getR (id := 441) X fk_X1_39 SHC_431 rfl dX1_matchBack_28 ?_
            refine s_iload_n X 1 rfl dX1_matchBack_31 ?_
            refine s_iald X SHC_441 g28.1 g28.2 dX1_matchBack_32 ?_
            obtain ⟨trip_, e29, h⟩ := ltv_elim h
            refine s_istore X e29 rfl (by omega) dX1_matchBack_33 ?_
            obtain ⟨g30, h⟩ := grd_some h
            refine s_load0 X 3 rfl dX1_matchBack_35 ?_
            refine s_getR (id := 438) X fk_X1_30 SHC_431 rfl dX1_matchBack_36 ?_
            refine s_iload X 0 rfl dX1_matchBack_39 ?_
            refine s_iald X SHC_438 g30.1 g30.2 dX1_matchBack_41 ?_
            obtain ⟨freed_, e31, h⟩ := ltv_elim h
            refine s_istore X e31 rfl (by omega) dX1_matchBack_42 ?_
            refine s_load0 X 4 rfl dX1_matchBack_44 ?_
            refine s_getR (id := 438) X fk_X1_30 SHC_431 rfl dX1_matchBack_45 ?_
            refine s_iload X 1 rfl dX1_matchBack_48 ?_
            refine s_iload_n X 3 rfl dX1_matchBack_50 ?_
            obtain ⟨m_2, e33, h⟩ := ltv_elim h
            refine s_iast X e33 SHC_438 g30.1 g30.2 dX1_matchBack_51 ?_
            refine s_load0 X 4 rfl dX1_matchBack_52 ?_
            refine s_getR (id := 439) X fk_X1_33 SHC_431 rfl dX1_matchBack_53 ?_
            refine s_iload_n X 3 rfl dX1_matchBack_56 ?_
            refine s_iload X 1 rfl dX1_matchBack_57 ?_
            obtain ⟨m_3, e35, h⟩ := ltv_elim h
            refine s_iast X e35 SHC_439 g28.1 g28.2 dX1_matchBack_59 ?_
            refine s_iload X 0 rfl dX1_matchBack_60 ?_
            obtain ⟨next_3, e37, h⟩ := ltv_elim h
            refine s_istore_n X e37 rfl (by omega) dX1_matchBack_62 ?_
            obtain ⟨g38, h⟩ := grd_some h
            obtain ⟨turn_3, e39, h⟩ := ltv_elim h
            refine s_iinc X 3 rfl g38 e39 rfl (by omega) dX1_matchBack_63 ?_
            refine s_goto (tgt := 4) X dX1_matchBack_66 (by omega) ?_
            refine s_loc [0, 1, 4, 5] rfl ?_
            exact ih9 _ _ _ (iter_next h hc8)
  exact LP10 _ _ _ _ hl15
set_option maxRecDepth 20000 in
set_option maxHeartbeats 4000000 in
theorem L_C_Fleet_countByMatching (G : Gl)  (m : Mem) (r : (Int × Mem))  (h : C_Fleet_countByMatching  m = some r) : Con SHC G yX1_countByMatching cX1_countByMatching 4 (some .int) rm_X1_countByMatching [VR 431] m (((.inl (some (VI r.1)), r.2) : Res × Mem)) := by
  refine con_of (own := "Lastbus$Fleet") (by decide) rfl (Nat.le_of_ble_eq_true rfl) (fun C X => ?_)
  obtain ⟨O, hO⟩ : ∃ O : Res × Mem, O = (((.inl (some (VI r.1)), r.2) : Res × Mem)) := ⟨_, rfl⟩
  rw [← hO]
  show J SHC G rm_X1_countByMatching (.inl O) C 0 0 0 [(0, VR 431)] [] m
  unfold C_Fleet_countByMatching at h
  refine s_const X (by unfold InR; omega) dX1_countByMatching_0 ?_
  obtain ⟨trip_, e2, h⟩ := ltv_elim h
  refine s_istore_n X e2 rfl (by omega) dX1_countByMatching_1 ?_
  obtain ⟨trip_4, m_4, hl12, h⟩ := bq2_some h
  obtain ⟨fu30, hl13⟩ := loop_iter hl12
  have KX9 : ∀ q9 : Int × Mem, q9 = (trip_4, m_4) → J SHC G rm_X1_countByMatching (.inl O) C 0 0 30 [(1, VI q9.1), (0, VR 431)] [] (q9.2) := by
    intro q9 e9
    subst e9
    show J SHC G rm_X1_countByMatching (.inl O) C 0 0 30 [(1, VI trip_4), (0, VR 431)] [] m_4
    refine s_const X (by unfold InR; omega) dX1_countByMatching_30 ?_
    obtain ⟨matched_, e26, h⟩ := ltv_elim h
    refine s_istore_n X e26 rfl (by omega) dX1_countByMatching_31 ?_
    refine s_const X (by unfold InR; omega) dX1_countByMatching_32 ?_
    obtain ⟨trip_5, e28, h⟩ := ltv_elim h
    refine s_istore_n X e28 rfl (by omega) dX1_countByMatching_33 ?_
    obtain ⟨matched_4, trip_9, m_8, hl38, h⟩ := bq3_some h
    obtain ⟨fu290, hl39⟩ := loop_iter hl38
    have KX35 : ∀ q9 : Int × Int × Mem, q9 = (matched_4, trip_9, m_8) → J SHC G rm_X1_countByMatching (.inl O) C 0 0 67 [(2, VI q9.2.1), (1, VI q9.1), (0, VR 431)] [] (q9.2.2) := by
      intro q9 e9
      subst e9
      show J SHC G rm_X1_countByMatching (.inl O) C 0 0 67 [(2, VI trip_9), (1, VI matched_4), (0, VR 431)] [] m_8
      obtain ⟨g65, h⟩ := grd_some h
      refine s_load0 X 2 rfl dX1_countByMatching_67 ?_
      refine s_getI X fk_X1_42 SHC_431 rfl dX1_countByMatching_68 ?_
      refine s_iload_n X 1 rfl dX1_countByMatching_71 ?_
      refine s_isub X g65 dX1_countByMatching_72 ?_
      exact s_iret X (Nat.le_of_ble_eq_true rfl) (Nat.le_of_ble_eq_true rfl) (by cases h; exact hO) dX1_countByMatching_73
    have LP34 : ∀ (fu29 : Nat) (matched_2 : Int) (trip_6 : Int) (m_5 : Mem), iter (fun s => C_Fleet_countByMatching_b2 s.1 s.2.1 s.2.2) fu29 (matched_2, trip_6, m_5) = some (matched_4, trip_9, m_8) → J SHC G rm_X1_countByMatching (.inl O) C 0 0 34 [(2, VI trip_6), (1, VI matched_2), (0, VR 431)] [] m_5 := by
      intro fu29
      induction fu29 with
      | zero => intro matched_2 trip_6 m_5 hn30; exact absurd hn30 (by simp [iter])
      | succ fu29 ih33 =>
        intro matched_2 trip_6 m_5 hn30
        obtain ⟨x31, h, hc32⟩ := iter_succ hn30
        replace h : C_Fleet_countByMatching_b2 matched_2 trip_6 m_5 = some x31 := h
        unfold C_Fleet_countByMatching_b2 at h
        refine s_iload_n X 0 rfl dX1_countByMatching_34 ?_
        refine s_load0 X 2 rfl dX1_countByMatching_35 ?_
        refine s_getI X fk_X1_42 SHC_431 rfl dX1_countByMatching_36 ?_
        refine s_icmpge_f (tgt := 67) X dX1_countByMatching_39 (by omega) (fun c43 => ?_) (fun c44 => ?_)
        · replace h := ite_neg h c43
          exact KX35 _ (iter_exit h hc32)
        · replace h := ite_pos h c44
          refine s_load0 X 2 rfl dX1_countByMatching_42 ?_
          refine s_iload_n X 0 rfl dX1_countByMatching_43 ?_
          obtain ⟨r_, m_6, hq46, h⟩ := bq2_some h
          refine s_callV (As := [VI trip_6]) X cw_X1_78 SHC_431 rfl dX1_countByMatching_44 (L_C_Fleet_findFree G trip_6 m_5 (r_, m_6) hq46) rfl ⟨Nat.le_of_ble_eq_true rfl, Nat.le_of_ble_eq_true rfl⟩ ⟨Nat.le_of_ble_eq_true rfl, Nat.le_of_ble_eq_true rfl⟩ (Nat.le_of_ble_eq_true rfl) noT (kkR ?_)
          obtain ⟨end_, e49, h⟩ := ltv_elim h
          refine s_istore_n X e49 rfl (by omega) dX1_countByMatching_47 ?_
          refine s_iload_n X 0 rfl dX1_countByMatching_48 ?_
          refine s_const X (by unfold InR; omega) dX1_countByMatching_49 ?_
          refine s_icmpeq_f (tgt := 61) X dX1_countByMatching_50 (by omega) (fun c53 => ?_) (fun c54 => ?_)
          · replace h := ite_neg h c53
            obtain ⟨g55, h⟩ := grd_some h
            obtain ⟨trip_7, e56, h⟩ := ltv_elim h
            refine s_iinc X 1 rfl g55 e56 rfl (by omega) dX1_countByMatching_61 ?_
            refine s_goto (tgt := 34) X dX1_countByMatching_64 (by omega) ?_
            refine s_loc [0, 2, 3] rfl ?_
            exact ih33 _ _ _ (iter_next h hc32)
          · replace h := ite_pos h c54
            refine s_load0 X 3 rfl dX1_countByMatching_53 ?_
            refine s_iload_n X 0 rfl dX1_countByMatching_54 ?_
            obtain ⟨m_7, hq58, h⟩ := bnd_some h
            refine s_callV (As := [VI end_]) X cw_X1_81 SHC_431 rfl dX1_countByMatching_55 (L_C_Fleet_matchBack G end_ m_6 m_7 hq58) rfl ⟨Nat.le_of_ble_eq_true rfl, Nat.le_of_ble_eq_true rfl⟩ ⟨Nat.le_of_ble_eq_true rfl, Nat.le_of_ble_eq_true rfl⟩ (Nat.le_of_ble_eq_true rfl) noT (kkU ?_)
            obtain ⟨g61, h⟩ := grd_some h
            obtain ⟨matched_3, e62, h⟩ := ltv_elim h
            refine s_iinc X 2 rfl g61 e62 rfl (by omega) dX1_countByMatching_58 ?_
            obtain ⟨g63, h⟩ := grd_some h
            obtain ⟨trip_8, e64, h⟩ := ltv_elim h
            refine s_iinc X 2 rfl g63 e64 rfl (by omega) dX1_countByMatching_61 ?_
            refine s_goto (tgt := 34) X dX1_countByMatching_64 (by omega) ?_
            refine s_loc [0, 1, 3] rfl ?_
            exact ih33 _ _ _ (iter_next h hc32)
    exact LP34 _ _ _ _ hl39
  have LP8 : ∀ (fu3 : Nat) (trip_2 : Int) (m_ : Mem), iter (fun s => C_Fleet_countByMatching_b1 s.1 s.2) fu3 (trip_2, m_) = some (trip_4, m_4) → J SHC G rm_X1_countByMatching (.inl O) C 0 0 2 [(1, VI trip_2), (0, VR 431)] [] m_ := by
    intro fu3
    induction fu3 with
    | zero => intro trip_2 m_ hn4; exact absurd hn4 (by simp [iter])
    | succ fu3 ih7 =>
      intro trip_2 m_ hn4
      obtain ⟨x5, h, hc6⟩ := iter_succ hn4
      replace h : C_Fleet_countByMatching_b1 trip_2 m_ = some x5 := h
      unfold C_Fleet_countByMatching_b1 at h
      refine s_iload_n X 0 rfl dX1_countByMatching_2 ?_
      refine s_load0 X 1 rfl dX1_countByMatching_3 ?_
      refine s_getI X fk_X1_42 SHC_431 rfl dX1_countByMatching_4 ?_
      refine s_icmpge_f (tgt := 30) X dX1_countByMatching_7 (by omega) (fun c17 => ?_) (fun c18 => ?_)
      · replace h := ite_neg h c17
        exact KX9 _ (iter_exit h hc6)
      · replace h := ite_pos h c18
        obtain ⟨g19, h⟩ := grd_some h
        refine s_load0 X 1 rfl dX1_countByMatching_10 ?_
        refine s_getR (id := 438) X fk_X1_30 SHC_431 rfl dX1_countByMatching_11 ?_
        refine s_iload_n X 0 rfl dX1_countByMatching_14 ?_
        refine s_const X (by unfold InR; omega) dX1_countByMatching_15 ?_
        obtain ⟨m_2, e20, h⟩ := ltv_elim h
        refine s_iast X e20 SHC_438 g19.1 g19.2 dX1_countByMatching_16 ?_
        refine s_load0 X 1 rfl dX1_countByMatching_17 ?_
        refine s_getR (id := 439) X fk_X1_33 SHC_431 rfl dX1_countByMatching_18 ?_
        refine s_iload_n X 0 rfl dX1_countByMatching_21 ?_
        refine s_const X (by unfold InR; omega) dX1_countByMatching_22 ?_
        obtain ⟨m_3, e22, h⟩ := ltv_elim h
        refine s_iast X e22 SHC_439 g19.1 g19.2 dX1_countByMatching_23 ?_
        obtain ⟨g23, h⟩ := grd_some h
        obtain ⟨trip_3, e24, h⟩ := ltv_elim h
        refine s_iinc X 0 rfl g23 e24 rfl (by omega) dX1_countByMatching_24 ?_
        refine s_goto (tgt := 2) X dX1_countByMatching_27 (by omega) ?_
        exact ih7 _ _ (iter_next h hc6)
  exact LP8 _ _ _ hl13
set_option maxRecDepth 20000 in
set_option maxHeartbeats 4000000 in
theorem L_C_vehiclesByMatching (G : Gl) (day_ : Int) (m : Mem) (r : ((Int ⊕ Nat) × Mem))  (h : C_vehiclesByMatching day_ m = some r) : Con SHC G yX11_vehiclesByMatching cX11_vehiclesByMatching 2 (some .int) rm_X11_vehiclesByMatching [VR 0, VI day_] m (oT wI r) := by
  refine con_of (own := "Lastbus") (by decide) rfl (Nat.le_of_ble_eq_true rfl) (fun C X => ?_)
  obtain ⟨O, hO⟩ : ∃ O : Res × Mem, O = (oT wI r) := ⟨_, rfl⟩
  rw [← hO]
  show J SHC G rm_X11_vehiclesByMatching (.inl O) C 0 0 0 [(0, VR 0), (1, VI day_)] [] m
  unfold C_vehiclesByMatching at h
  refine s_iload_n X 1 rfl dX11_vehiclesByMatching_0 ?_
  obtain ⟨q3, hq2, h⟩ := bnd_some h
  refine s_callS (As := [VI day_]) X cw_X11_140 dX11_vehiclesByMatching_1 (L_C_needDay G day_ m q3 hq2) rfl ⟨Nat.le_of_ble_eq_true rfl, Nat.le_of_ble_eq_true rfl⟩ ⟨Nat.le_of_ble_eq_true rfl, Nat.le_of_ble_eq_true rfl⟩ (Nat.le_of_ble_eq_true rfl) (thr_up hO h) (kkT fun u_ m_ e9 => ?_)
  subst e9
  replace h := tbd_inl h
  refine s_load0 X 0 rfl dX11_vehiclesByMatching_4 ?_
  refine s_getR (id := 431) X fk_X11_79 SHC_0 rfl dX11_vehiclesByMatching_5 ?_
  refine s_load0 X 0 rfl dX11_vehiclesByMatching_8 ?_
  refine s_getR (id := 29) X fk_X11_19 SHC_0 rfl dX11_vehiclesByMatching_9 ?_
  refine s_load0 X 0 rfl dX11_vehiclesByMatching_12 ?_
  refine s_getR (id := 31) X fk_X11_26 SHC_0 rfl dX11_vehiclesByMatching_13 ?_
  refine s_iload_n X 1 rfl dX11_vehiclesByMatching_16 ?_
  obtain ⟨m_2, hq6, h⟩ := bnd_some h
  refine s_callV (As := [VR 29, VR 31, VI day_]) X cw_X11_398 SHC_431 rfl dX11_vehiclesByMatching_17 (L_C_Fleet_gather G day_ m_ m_2 hq6) rfl ⟨Nat.le_of_ble_eq_true rfl, Nat.le_of_ble_eq_true rfl⟩ ⟨Nat.le_of_ble_eq_true rfl, Nat.le_of_ble_eq_true rfl⟩ (Nat.le_of_ble_eq_true rfl) noT (kkU ?_)
  refine s_load0 X 0 rfl dX11_vehiclesByMatching_20 ?_
  refine s_getR (id := 431) X fk_X11_79 SHC_0 rfl dX11_vehiclesByMatching_21 ?_
  obtain ⟨r_, m_3, hq10, h⟩ := bq2_some h
  refine s_callV (As := []) X cw_X11_405 SHC_431 rfl dX11_vehiclesByMatching_24 (L_C_Fleet_countByMatching G m_2 (r_, m_3) hq10) rfl ⟨Nat.le_of_ble_eq_true rfl, Nat.le_of_ble_eq_true rfl⟩ ⟨Nat.le_of_ble_eq_true rfl, Nat.le_of_ble_eq_true rfl⟩ (Nat.le_of_ble_eq_true rfl) noT (kkR ?_)
  exact s_iret X (Nat.le_of_ble_eq_true rfl) (Nat.le_of_ble_eq_true rfl) (by cases h; exact hO) dX11_vehiclesByMatching_27
set_option maxRecDepth 20000 in
set_option maxHeartbeats 4000000 in
theorem L_C_lastIsSound (G : Gl) (stop_ : Int) (by_ : Int) (m : Mem) (r : (Int × Mem))  (h : C_lastIsSound stop_ by_ m = some r) : Con SHC G yX11_lastIsSound cX11_lastIsSound 5 (some .boolean) rm_X11_lastIsSound [VR 0, VI stop_, VI by_] m (((.inl (some (VI r.1)), r.2) : Res × Mem)) := by
  refine con_of (own := "Lastbus") (by decide) rfl (Nat.le_of_ble_eq_true rfl) (fun C X => ?_)
  obtain ⟨O, hO⟩ : ∃ O : Res × Mem, O = (((.inl (some (VI r.1)), r.2) : Res × Mem)) := ⟨_, rfl⟩
  rw [← hO]
  show J SHC G rm_X11_lastIsSound (.inl O) C 0 0 0 [(0, VR 0), (1, VI stop_), (2, VI by_)] [] m
  unfold C_lastIsSound at h
  refine s_load0 X 0 rfl dX11_lastIsSound_0 ?_
  refine s_getR (id := 345) X fk_X11_58 SHC_0 rfl dX11_lastIsSound_1 ?_
  refine s_const X (by unfold InR; omega) dX11_lastIsSound_4 ?_
  refine s_iload_n X 1 rfl dX11_lastIsSound_5 ?_
  refine s_iload_n X 2 rfl dX11_lastIsSound_6 ?_
  obtain ⟨r_, m_, hq2, h⟩ := bq2_some h
  refine s_callV (As := [VI 0, VI stop_, VI by_]) X cw_X11_303 SHC_345 rfl dX11_lastIsSound_7 (L_C_Search_lastLeave G 0 stop_ by_ m (r_, m_) hq2) rfl ⟨Nat.le_of_ble_eq_true rfl, Nat.le_of_ble_eq_true rfl⟩ ⟨Nat.le_of_ble_eq_true rfl, Nat.le_of_ble_eq_true rfl⟩ (Nat.le_of_ble_eq_true rfl) noT (kkR ?_)
  obtain ⟨leave_, e5, h⟩ := ltv_elim h
  refine s_istore_n X e5 rfl (by omega) dX11_lastIsSound_10 ?_
  refine s_iload_n X 0 rfl dX11_lastIsSound_11 ?_
  refine s_ifge_f (tgt := 17) X dX11_lastIsSound_12 (by omega) (fun c9 => ?_) (fun c10 => ?_)
  · replace h := ite_neg h c9
    refine s_load0 X 1 rfl dX11_lastIsSound_17 ?_
    refine s_getR (id := 345) X fk_X11_58 SHC_0 rfl dX11_lastIsSound_18 ?_
    refine s_const X (by unfold InR; omega) dX11_lastIsSound_21 ?_
    refine s_iload_n X 0 rfl dX11_lastIsSound_22 ?_
    obtain ⟨m_2, hq12, h⟩ := bnd_some h
    refine s_callV (As := [VI 0, VI leave_]) X cw_X11_283 SHC_345 rfl dX11_lastIsSound_23 (L_C_Search_scan G 0 leave_ m_ m_2 hq12) rfl ⟨Nat.le_of_ble_eq_true rfl, Nat.le_of_ble_eq_true rfl⟩ ⟨Nat.le_of_ble_eq_true rfl, Nat.le_of_ble_eq_true rfl⟩ (Nat.le_of_ble_eq_true rfl) noT (kkU ?_)
    obtain ⟨kj_, hk16, h⟩ := ltv_elim h
    have K17 : ∀ (v_ : Int), kj_ v_ = some r → J SHC G rm_X11_lastIsSound (.inl O) C 0 0 46 [(3, VI leave_), (0, VR 0), (1, VI stop_), (2, VI by_)] [VI v_] m_2 := by
      intro v_ h
      subst hk16
      dsimp only at h
      obtain ⟨isInTime_, e26, h⟩ := ltv_elim h
      refine s_istore X e26 rfl (by omega) dX11_lastIsSound_46 ?_
      obtain ⟨g27, h⟩ := grd_some h
      refine s_load0 X 2 rfl dX11_lastIsSound_48 ?_
      refine s_getR (id := 345) X fk_X11_58 SHC_0 rfl dX11_lastIsSound_49 ?_
      refine s_const X (by unfold InR; omega) dX11_lastIsSound_52 ?_
      refine s_iload_n X 1 rfl dX11_lastIsSound_53 ?_
      refine s_const X (by unfold InR; omega) dX11_lastIsSound_54 ?_
      refine s_iadd X g27 dX11_lastIsSound_55 ?_
      obtain ⟨m_3, hq28, h⟩ := bnd_some h
      refine s_callV (As := [VI 0, VI (leave_ + 1)]) X cw_X11_283 SHC_345 rfl dX11_lastIsSound_56 (L_C_Search_scan G 0 (leave_ + 1) m_2 m_3 hq28) rfl ⟨Nat.le_of_ble_eq_true rfl, Nat.le_of_ble_eq_true rfl⟩ ⟨Nat.le_of_ble_eq_true rfl, Nat.le_of_ble_eq_true rfl⟩ (Nat.le_of_ble_eq_true rfl) noT (kkU ?_)
      refine s_iload X 0 rfl dX11_lastIsSound_59 ?_
      refine s_ifeq_f (tgt := 83) X dX11_lastIsSound_61 (by omega) (fun c34 => ?_) (fun c35 => ?_)
      · replace h := ite_neg h c34
        refine s_const X (by unfold InR; omega) dX11_lastIsSound_83 ?_
        exact s_zret X (Or.inl rfl) (Nat.le_of_ble_eq_true rfl) (Nat.le_of_ble_eq_true rfl) (by cases h; exact hO) dX11_lastIsSound_84
      · replace h := ite_pos h c35
        refine s_load0 X 2 rfl dX11_lastIsSound_64 ?_
        refine s_getR (id := 345) X fk_X11_58 SHC_0 rfl dX11_lastIsSound_65 ?_
        refine s_getR (id := 352) X fk_X11_286 SHC_345 rfl dX11_lastIsSound_68 ?_
        refine s_iload_n X 3 rfl dX11_lastIsSound_71 ?_
        obtain ⟨r_3, hq38, h⟩ := bnd_some h
        refine s_callV (As := [VI stop_]) X cw_X11_290 (shLab labS) rfl dX11_lastIsSound_72 (L_C_Labels_at G 352 stop_ m_3 r_3 labS hq38) rfl ⟨Nat.le_of_ble_eq_true rfl, Nat.le_of_ble_eq_true rfl⟩ ⟨Nat.le_of_ble_eq_true rfl, Nat.le_of_ble_eq_true rfl⟩ (Nat.le_of_ble_eq_true rfl) noT (kkR ?_)
        refine s_iload_n X 4 rfl dX11_lastIsSound_75 ?_
        refine s_icmple_f (tgt := 83) X dX11_lastIsSound_76 (by omega) (fun c41 => ?_) (fun c42 => ?_)
        · replace h := ite_neg h c41
          refine s_const X (by unfold InR; omega) dX11_lastIsSound_83 ?_
          exact s_zret X (Or.inl rfl) (Nat.le_of_ble_eq_true rfl) (Nat.le_of_ble_eq_true rfl) (by cases h; exact hO) dX11_lastIsSound_84
        · replace h := ite_pos h c42
          refine s_const X (by unfold InR; omega) dX11_lastIsSound_79 ?_
          refine s_goto (tgt := 84) X dX11_lastIsSound_80 (by omega) ?_
          exact s_zret X (Or.inr rfl) (Nat.le_of_ble_eq_true rfl) (Nat.le_of_ble_eq_true rfl) (by cases h; exact hO) dX11_lastIsSound_84
    refine s_load0 X 1 rfl dX11_lastIsSound_26 ?_
    refine s_getR (id := 345) X fk_X11_58 SHC_0 rfl dX11_lastIsSound_27 ?_
    refine s_getR (id := 352) X fk_X11_286 SHC_345 rfl dX11_lastIsSound_30 ?_
    refine s_iload_n X 2 rfl dX11_lastIsSound_33 ?_
    obtain ⟨r_2, hq18, h⟩ := bnd_some h
    refine s_callV (As := [VI stop_]) X cw_X11_290 (shLab labS) rfl dX11_lastIsSound_34 (L_C_Labels_at G 352 stop_ m_2 r_2 labS hq18) rfl ⟨Nat.le_of_ble_eq_true rfl, Nat.le_of_ble_eq_true rfl⟩ ⟨Nat.le_of_ble_eq_true rfl, Nat.le_of_ble_eq_true rfl⟩ (Nat.le_of_ble_eq_true rfl) noT (kkR ?_)
    refine s_iload_n X 3 rfl dX11_lastIsSound_37 ?_
    refine s_icmpgt_f (tgt := 45) X dX11_lastIsSound_38 (by omega) (fun c21 => ?_) (fun c22 => ?_)
    · replace h := ite_neg h c21
      refine s_const X (by unfold InR; omega) dX11_lastIsSound_45 ?_
      exact s_kn rfl rfl (K17 _ h)
    · replace h := ite_pos h c22
      refine s_const X (by unfold InR; omega) dX11_lastIsSound_41 ?_
      refine s_goto (tgt := 46) X dX11_lastIsSound_42 (by omega) ?_
      exact s_kn rfl rfl (K17 _ h)
  · replace h := ite_pos h c10
    refine s_const X (by unfold InR; omega) dX11_lastIsSound_15 ?_
    exact s_zret X (Or.inl rfl) (Nat.le_of_ble_eq_true rfl) (Nat.le_of_ble_eq_true rfl) (by cases h; exact hO) dX11_lastIsSound_16
set_option maxRecDepth 20000 in
set_option maxHeartbeats 4000000 in
theorem L_C_waysAreSound (G : Gl)  (m : Mem) (r : (Int × Mem))  (h : C_waysAreSound  m = some r) : Con SHC G yX11_waysAreSound cX11_waysAreSound 3 (some .boolean) rm_X11_waysAreSound [VR 0] m (((.inl (some (VI r.1)), r.2) : Res × Mem)) := by
  refine con_of (own := "Lastbus") (by decide) rfl (Nat.le_of_ble_eq_true rfl) (fun C X => ?_)
  obtain ⟨O, hO⟩ : ∃ O : Res × Mem, O = (((.inl (some (VI r.1)), r.2) : Res × Mem)) := ⟨_, rfl⟩
  rw [← hO]
  show J SHC G rm_X11_waysAreSound (.inl O) C 0 0 0 [(0, VR 0)] [] m
  unfold C_waysAreSound at h
  refine s_load0 X 0 rfl dX11_waysAreSound_0 ?_
  refine s_getR (id := 345) X fk_X11_58 SHC_0 rfl dX11_waysAreSound_1 ?_
  refine s_const X (by unfold InR; omega) dX11_waysAreSound_4 ?_
  refine s_sipush X (by omega) dX11_waysAreSound_5 ?_
  obtain ⟨m_, hq2, h⟩ := bnd_some h
  refine s_callV (As := [VI 0, VI 480]) X cw_X11_283 SHC_345 rfl dX11_waysAreSound_8 (L_C_Search_scan G 0 480 m m_ hq2) rfl ⟨Nat.le_of_ble_eq_true rfl, Nat.le_of_ble_eq_true rfl⟩ ⟨Nat.le_of_ble_eq_true rfl, Nat.le_of_ble_eq_true rfl⟩ (Nat.le_of_ble_eq_true rfl) noT (kkU ?_)
  refine s_load0 X 0 rfl dX11_waysAreSound_11 ?_
  refine s_getR (id := 442) X fk_X11_85 SHC_0 rfl dX11_waysAreSound_12 ?_
  refine s_const X (by unfold InR; omega) dX11_waysAreSound_15 ?_
  refine s_aaldI (id := 443) X (by omega) (Or.inl rfl) SHC_442 (by omega) (by omega) dX11_waysAreSound_16 ?_
  refine s_astore_n X rfl rfl (by omega) dX11_waysAreSound_17 ?_
  refine s_const X (by unfold InR; omega) dX11_waysAreSound_18 ?_
  obtain ⟨stop_, e7, h⟩ := ltv_elim h
  refine s_istore_n X e7 rfl (by omega) dX11_waysAreSound_19 ?_
  obtain ⟨stop_4, m_4, hl17, h⟩ := bq2_some h
  obtain ⟨fu80, hl18⟩ := loop_iter hl17
  have KX14 : ∀ q9 : Int × Mem, q9 = (stop_4, m_4) → J SHC G rm_X11_waysAreSound (.inl O) C 0 0 51 [(2, VI q9.1), (1, VR 443), (0, VR 0)] [] (q9.2) := by
    intro q9 e9
    subst e9
    show J SHC G rm_X11_waysAreSound (.inl O) C 0 0 51 [(2, VI stop_4), (1, VR 443), (0, VR 0)] [] m_4
    refine s_load0 X 2 rfl dX11_waysAreSound_51 ?_
    refine s_getR (id := 345) X fk_X11_58 SHC_0 rfl dX11_waysAreSound_52 ?_
    refine s_const X (by unfold InR; omega) dX11_waysAreSound_55 ?_
    refine s_sipush X (by omega) dX11_waysAreSound_56 ?_
    obtain ⟨m_5, hq32, h⟩ := bnd_some h
    refine s_callV (As := [VI 0, VI 480]) X cw_X11_294 SHC_345 rfl dX11_waysAreSound_59 (L_C_Search_goOnFromNearest G 0 480 m_4 m_5 hq32) rfl ⟨Nat.le_of_ble_eq_true rfl, Nat.le_of_ble_eq_true rfl⟩ ⟨Nat.le_of_ble_eq_true rfl, Nat.le_of_ble_eq_true rfl⟩ (Nat.le_of_ble_eq_true rfl) noT (kkU ?_)
    refine s_load0 X 2 rfl dX11_waysAreSound_62 ?_
    refine s_getR (id := 355) X fk_X11_65 SHC_0 rfl dX11_waysAreSound_63 ?_
    refine s_const X (by unfold InR; omega) dX11_waysAreSound_66 ?_
    refine s_sipush X (by omega) dX11_waysAreSound_67 ?_
    obtain ⟨m_6, hq36, h⟩ := bnd_some h
    refine s_callV (As := [VI 0, VI 480]) X cw_X11_297 SHC_355 rfl dX11_waysAreSound_70 (L_C_Rounds_fill G 0 480 m_5 m_6 hq36) rfl ⟨Nat.le_of_ble_eq_true rfl, Nat.le_of_ble_eq_true rfl⟩ ⟨Nat.le_of_ble_eq_true rfl, Nat.le_of_ble_eq_true rfl⟩ (Nat.le_of_ble_eq_true rfl) noT (kkU ?_)
    refine s_const X (by unfold InR; omega) dX11_waysAreSound_73 ?_
    obtain ⟨stop_5, e40, h⟩ := ltv_elim h
    refine s_istore_n X e40 rfl (by omega) dX11_waysAreSound_74 ?_
    obtain ⟨s48, hl50, h⟩ := br1_some h
    obtain ⟨fu410, hl51⟩ := loop_iter hl50
    have KR49 : ∀ q9 : (Int × Mem), .inr q9 = s48 → O = ((.inl (some (VI q9.1)), q9.2) : Res × Mem) := by
      intro q9 e9
      subst e9
      replace h := brm1_inr h
      exact (by cases h; exact hO)
    have KX47 : ∀ q9 : Int, .inl q9 = s48 → J SHC G rm_X11_waysAreSound (.inl O) C 0 0 125 [(2, VI q9), (1, VR 443), (0, VR 0)] [] m_6 := by
      intro q9 e9
      subst e9
      replace h := brm1_inl h
      obtain ⟨stop_8, e8⟩ : ∃ z, z = q9 := ⟨_, rfl⟩
      subst e8
      show J SHC G rm_X11_waysAreSound (.inl O) C 0 0 125 [(2, VI stop_8), (1, VR 443), (0, VR 0)] [] m_6
      refine s_const X (by unfold InR; omega) dX11_waysAreSound_125 ?_
      obtain ⟨stop_9, e74, h⟩ := ltv_elim h
      refine s_istore_n X e74 rfl (by omega) dX11_waysAreSound_126 ?_
      obtain ⟨s82, hl84, h⟩ := br2_some h
      obtain ⟨fu750, hl85⟩ := loop_iter hl84
      have KR83 : ∀ q9 : (Int × Mem), .inr q9 = s82 → O = ((.inl (some (VI q9.1)), q9.2) : Res × Mem) := by
        intro q9 e9
        subst e9
        replace h := brm2_inr h
        exact (by cases h; exact hO)
      have KX81 : ∀ q9 : Int × Mem, .inl q9 = s82 → J SHC G rm_X11_waysAreSound (.inl O) C 0 0 166 [(2, VI q9.1), (1, VR 443), (0, VR 0)] [] (q9.2) := by
        intro q9 e9
        subst e9
        obtain ⟨stop_13, m_9⟩ := q9
        replace h := brm2_inl h
        show J SHC G rm_X11_waysAreSound (.inl O) C 0 0 166 [(2, VI stop_13), (1, VR 443), (0, VR 0)] [] m_9
        refine s_const X (by unfold InR; omega) dX11_waysAreSound_166 ?_
        exact s_zret X (Or.inr rfl) (Nat.le_of_ble_eq_true rfl) (Nat.le_of_ble_eq_true rfl) (by cases h; exact hO) dX11_waysAreSound_167
      have LP80 : ∀ (fu75 : Nat) (stop_10 : Int) (m_7 : Mem), iter (fun s => C_waysAreSound_b3 s.1 s.2) fu75 (stop_10, m_7) = some s82 → J SHC G rm_X11_waysAreSound (.inl O) C 0 0 127 [(2, VI stop_10), (1, VR 443), (0, VR 0)] [] m_7 := by
        intro fu75
        induction fu75 with
        | zero => intro stop_10 m_7 hn76; exact absurd hn76 (by simp [iter])
        | succ fu75 ih79 =>
          intro stop_10 m_7 hn76
          obtain ⟨x77, h, hc78⟩ := iter_succ hn76
          replace h : C_waysAreSound_b3 stop_10 m_7 = some x77 := h
          unfold C_waysAreSound_b3 at h
          refine s_iload_n X 0 rfl dX11_waysAreSound_127 ?_
          refine s_load0 X 2 rfl dX11_waysAreSound_128 ?_
          refine s_getR (id := 1) X fk_X11_12 SHC_0 rfl dX11_waysAreSound_129 ?_
          refine s_getI X fk_X11_92 SHC_1 rfl dX11_waysAreSound_132 ?_
          refine s_icmpge_f (tgt := 166) X dX11_waysAreSound_135 (by omega) (fun c89 => ?_) (fun c90 => ?_)
          · replace h := ite_neg h c89
            exact KX81 _ (iter_exit h hc78)
          · replace h := ite_pos h c90
            obtain ⟨g91, h⟩ := grd_some h
            refine s_load0 X 1 rfl dX11_waysAreSound_138 ?_
            refine s_iload_n X 0 rfl dX11_waysAreSound_139 ?_
            refine s_iald X SHC_443 g91.1 g91.2 dX11_waysAreSound_140 ?_
            refine s_ldcW (z := 1000000) X (by unfold InR; omega) kc_X11_420 dX11_waysAreSound_141 ?_
            refine s_icmpge_f (tgt := 160) X dX11_waysAreSound_144 (by omega) (fun c94 => ?_) (fun c95 => ?_)
            · replace h := ite_neg h c94
              obtain ⟨g96, h⟩ := grd_some h
              obtain ⟨stop_11, e97, h⟩ := ltv_elim h
              refine s_iinc X 0 rfl g96 e97 rfl (by omega) dX11_waysAreSound_160 ?_
              refine s_goto (tgt := 127) X dX11_waysAreSound_163 (by omega) ?_
              exact ih79 _ _ (iter_next h hc78)
            · replace h := ite_pos h c95
              refine s_load0 X 2 rfl dX11_waysAreSound_147 ?_
              refine s_iload_n X 0 rfl dX11_waysAreSound_148 ?_
              refine s_load0 X 1 rfl dX11_waysAreSound_149 ?_
              refine s_iload_n X 0 rfl dX11_waysAreSound_150 ?_
              refine s_iald X SHC_443 g91.1 g91.2 dX11_waysAreSound_151 ?_
              obtain ⟨r_4, m_8, hq99, h⟩ := bq2_some h
              refine s_callV (As := [VI stop_10, VI (m_7 443 stop_10.toNat)]) X cw_X11_483 SHC_0 rfl dX11_waysAreSound_152 (L_C_lastIsSound G stop_10 (m_7 443 stop_10.toNat) m_7 (r_4, m_8) hq99) rfl ⟨Nat.le_of_ble_eq_true rfl, Nat.le_of_ble_eq_true rfl⟩ ⟨Nat.le_of_ble_eq_true rfl, Nat.le_of_ble_eq_true rfl⟩ (Nat.le_of_ble_eq_true rfl) noT (kkR ?_)
              refine s_ifne_t (tgt := 160) X dX11_waysAreSound_155 (by omega) (fun c102 => ?_) (fun c103 => ?_)
              · replace h := ite_pos h c102
                obtain ⟨g104, h⟩ := grd_some h
                obtain ⟨stop_12, e105, h⟩ := ltv_elim h
                refine s_iinc X 0 rfl g104 e105 rfl (by omega) dX11_waysAreSound_160 ?_
                refine s_goto (tgt := 127) X dX11_waysAreSound_163 (by omega) ?_
                exact ih79 _ _ (iter_next h hc78)
              · replace h := ite_neg h c103
                refine s_const X (by unfold InR; omega) dX11_waysAreSound_158 ?_
                exact s_zret X (Or.inl rfl) (Nat.le_of_ble_eq_true rfl) (Nat.le_of_ble_eq_true rfl) (KR83 _ (iter_exit h hc78)) dX11_waysAreSound_159
      exact LP80 _ _ _ hl85
    have LP46 : ∀ (fu41 : Nat) (stop_6 : Int), iter (fun s => C_waysAreSound_b2 m_6 s) fu41 stop_6 = some s48 → J SHC G rm_X11_waysAreSound (.inl O) C 0 0 75 [(2, VI stop_6), (1, VR 443), (0, VR 0)] [] m_6 := by
      intro fu41
      induction fu41 with
      | zero => intro stop_6 hn42; exact absurd hn42 (by simp [iter])
      | succ fu41 ih45 =>
        intro stop_6 hn42
        obtain ⟨x43, h, hc44⟩ := iter_succ hn42
        replace h : C_waysAreSound_b2 m_6 stop_6 = some x43 := h
        unfold C_waysAreSound_b2 at h
        refine s_iload_n X 0 rfl dX11_waysAreSound_75 ?_
        refine s_load0 X 2 rfl dX11_waysAreSound_76 ?_
        refine s_getR (id := 1) X fk_X11_12 SHC_0 rfl dX11_waysAreSound_77 ?_
        refine s_getI X fk_X11_92 SHC_1 rfl dX11_waysAreSound_80 ?_
        refine s_icmpge_f (tgt := 125) X dX11_waysAreSound_83 (by omega) (fun c55 => ?_) (fun c56 => ?_)
        · replace h := ite_neg h c55
          exact KX47 _ (iter_exit h hc44)
        · replace h := ite_pos h c56
          refine s_load0 X 2 rfl dX11_waysAreSound_86 ?_
          refine s_getR (id := 345) X fk_X11_58 SHC_0 rfl dX11_waysAreSound_87 ?_
          refine s_getR (id := 352) X fk_X11_286 SHC_345 rfl dX11_waysAreSound_90 ?_
          refine s_iload_n X 0 rfl dX11_waysAreSound_93 ?_
          obtain ⟨r_2, hq58, h⟩ := bnd_some h
          refine s_callV (As := [VI stop_6]) X cw_X11_290 (shLab labS) rfl dX11_waysAreSound_94 (L_C_Labels_at G 352 stop_6 m_6 r_2 labS hq58) rfl ⟨Nat.le_of_ble_eq_true rfl, Nat.le_of_ble_eq_true rfl⟩ ⟨Nat.le_of_ble_eq_true rfl, Nat.le_of_ble_eq_true rfl⟩ (Nat.le_of_ble_eq_true rfl) noT (kkR ?_)
          obtain ⟨g60, h⟩ := grd_some h
          refine s_load0 X 1 rfl dX11_waysAreSound_97 ?_
          refine s_iload_n X 0 rfl dX11_waysAreSound_98 ?_
          refine s_iald X SHC_443 g60.1 g60.2 dX11_waysAreSound_99 ?_
          refine s_icmpne_t (tgt := 117) X dX11_waysAreSound_100 (by omega) (fun c61 => ?_) (fun c62 => ?_)
          · replace h := ite_pos h c61
            refine s_const X (by unfold InR; omega) dX11_waysAreSound_117 ?_
            exact s_zret X (Or.inl rfl) (Nat.le_of_ble_eq_true rfl) (Nat.le_of_ble_eq_true rfl) (KR49 _ (iter_exit h hc44)) dX11_waysAreSound_118
          · replace h := ite_neg h c62
            refine s_load0 X 2 rfl dX11_waysAreSound_103 ?_
            refine s_getR (id := 355) X fk_X11_65 SHC_0 rfl dX11_waysAreSound_104 ?_
            refine s_iload_n X 0 rfl dX11_waysAreSound_107 ?_
            obtain ⟨r_3, hq65, h⟩ := bnd_some h
            refine s_callV (As := [VI stop_6]) X cw_X11_300 SHC_355 rfl dX11_waysAreSound_108 (L_C_Rounds_least G stop_6 m_6 r_3 hq65) rfl ⟨Nat.le_of_ble_eq_true rfl, Nat.le_of_ble_eq_true rfl⟩ ⟨Nat.le_of_ble_eq_true rfl, Nat.le_of_ble_eq_true rfl⟩ (Nat.le_of_ble_eq_true rfl) noT (kkR ?_)
            refine s_load0 X 1 rfl dX11_waysAreSound_111 ?_
            refine s_iload_n X 0 rfl dX11_waysAreSound_112 ?_
            refine s_iald X SHC_443 g60.1 g60.2 dX11_waysAreSound_113 ?_
            refine s_icmpeq_f (tgt := 119) X dX11_waysAreSound_114 (by omega) (fun c68 => ?_) (fun c69 => ?_)
            · replace h := ite_neg h c68
              obtain ⟨g70, h⟩ := grd_some h
              obtain ⟨stop_7, e71, h⟩ := ltv_elim h
              refine s_iinc X 0 rfl g70 e71 rfl (by omega) dX11_waysAreSound_119 ?_
              refine s_goto (tgt := 75) X dX11_waysAreSound_122 (by omega) ?_
              exact ih45 _ (iter_next h hc44)
            · replace h := ite_pos h c69
              refine s_const X (by unfold InR; omega) dX11_waysAreSound_117 ?_
              exact s_zret X (Or.inl rfl) (Nat.le_of_ble_eq_true rfl) (Nat.le_of_ble_eq_true rfl) (KR49 _ (iter_exit h hc44)) dX11_waysAreSound_118
    exact LP46 _ _ hl51
  have LP13 : ∀ (fu8 : Nat) (stop_2 : Int) (m_2 : Mem), iter (fun s => C_waysAreSound_b1 s.1 s.2) fu8 (stop_2, m_2) = some (stop_4, m_4) → J SHC G rm_X11_waysAreSound (.inl O) C 0 0 20 [(2, VI stop_2), (1, VR 443), (0, VR 0)] [] m_2 := by
    intro fu8
    induction fu8 with
    | zero => intro stop_2 m_2 hn9; exact absurd hn9 (by simp [iter])
    | succ fu8 ih12 =>
      intro stop_2 m_2 hn9
      obtain ⟨x10, h, hc11⟩ := iter_succ hn9
      replace h : C_waysAreSound_b1 stop_2 m_2 = some x10 := h
      unfold C_waysAreSound_b1 at h
      refine s_iload_n X 0 rfl dX11_waysAreSound_20 ?_
      refine s_load0 X 2 rfl dX11_waysAreSound_21 ?_
      refine s_getR (id := 1) X fk_X11_12 SHC_0 rfl dX11_waysAreSound_22 ?_
      refine s_getI X fk_X11_92 SHC_1 rfl dX11_waysAreSound_25 ?_
      refine s_icmpge_f (tgt := 51) X dX11_waysAreSound_28 (by omega) (fun c22 => ?_) (fun c23 => ?_)
      · replace h := ite_neg h c22
        exact KX14 _ (iter_exit h hc11)
      · replace h := ite_pos h c23
        obtain ⟨g24, h⟩ := grd_some h
        refine s_load0 X 1 rfl dX11_waysAreSound_31 ?_
        refine s_iload_n X 0 rfl dX11_waysAreSound_32 ?_
        refine s_load0 X 2 rfl dX11_waysAreSound_33 ?_
        refine s_getR (id := 345) X fk_X11_58 SHC_0 rfl dX11_waysAreSound_34 ?_
        refine s_getR (id := 352) X fk_X11_286 SHC_345 rfl dX11_waysAreSound_37 ?_
        refine s_iload_n X 0 rfl dX11_waysAreSound_40 ?_
        obtain ⟨r_, hq25, h⟩ := bnd_some h
        refine s_callV (As := [VI stop_2]) X cw_X11_290 (shLab labS) rfl dX11_waysAreSound_41 (L_C_Labels_at G 352 stop_2 m_2 r_ labS hq25) rfl ⟨Nat.le_of_ble_eq_true rfl, Nat.le_of_ble_eq_true rfl⟩ ⟨Nat.le_of_ble_eq_true rfl, Nat.le_of_ble_eq_true rfl⟩ (Nat.le_of_ble_eq_true rfl) noT (kkR ?_)
        obtain ⟨m_3, e28, h⟩ := ltv_elim h
        refine s_iast X e28 SHC_443 g24.1 g24.2 dX11_waysAreSound_44 ?_
        obtain ⟨g29, h⟩ := grd_some h
        obtain ⟨stop_3, e30, h⟩ := ltv_elim h
        refine s_iinc X 0 rfl g29 e30 rfl (by omega) dX11_waysAreSound_45 ?_
        refine s_goto (tgt := 20) X dX11_waysAreSound_48 (by omega) ?_
        exact ih12 _ _ (iter_next h hc11)
  exact LP13 _ _ _ hl18
set_option maxRecDepth 20000 in
set_option maxHeartbeats 4000000 in
theorem L_C_pairsAreSound (G : Gl) (to_ : Int) (m : Mem) (r : (Int × Mem))  (h : C_pairsAreSound to_ m = some r) : Con SHC G yX11_pairsAreSound cX11_pairsAreSound 4 (some .boolean) rm_X11_pairsAreSound [VR 0, VI to_] m (((.inl (some (VI r.1)), r.2) : Res × Mem)) := by
  refine con_of (own := "Lastbus") (by decide) rfl (Nat.le_of_ble_eq_true rfl) (fun C X => ?_)
  obtain ⟨O, hO⟩ : ∃ O : Res × Mem, O = (((.inl (some (VI r.1)), r.2) : Res × Mem)) := ⟨_, rfl⟩
  rw [← hO]
  show J SHC G rm_X11_pairsAreSound (.inl O) C 0 0 0 [(0, VR 0), (1, VI to_)] [] m
  unfold C_pairsAreSound at h
  refine s_load0 X 0 rfl dX11_pairsAreSound_0 ?_
  refine s_getR (id := 345) X fk_X11_58 SHC_0 rfl dX11_pairsAreSound_1 ?_
  refine s_const X (by unfold InR; omega) dX11_pairsAreSound_4 ?_
  refine s_iload_n X 1 rfl dX11_pairsAreSound_5 ?_
  obtain ⟨m_, hq2, h⟩ := bnd_some h
  refine s_callV (As := [VI 0, VI to_]) X cw_X11_352 SHC_345 rfl dX11_pairsAreSound_6 (L_C_Search_collectPairs G 0 to_ m m_ hq2) rfl ⟨Nat.le_of_ble_eq_true rfl, Nat.le_of_ble_eq_true rfl⟩ ⟨Nat.le_of_ble_eq_true rfl, Nat.le_of_ble_eq_true rfl⟩ (Nat.le_of_ble_eq_true rfl) noT (kkU ?_)
  refine s_const X (by unfold InR; omega) dX11_pairsAreSound_9 ?_
  obtain ⟨index_, e6, h⟩ := ltv_elim h
  refine s_istore_n X e6 rfl (by omega) dX11_pairsAreSound_10 ?_
  obtain ⟨s14, hl16, h⟩ := br1_some h
  obtain ⟨fu70, hl17⟩ := loop_iter hl16
  have KR15 : ∀ q9 : (Int × Mem), .inr q9 = s14 → O = ((.inl (some (VI q9.1)), q9.2) : Res × Mem) := by
    intro q9 e9
    subst e9
    replace h := brm1_inr h
    exact (by cases h; exact hO)
  have KX13 : ∀ q9 : Int, .inl q9 = s14 → J SHC G rm_X11_pairsAreSound (.inl O) C 0 0 86 [(2, VI q9), (0, VR 0), (1, VI to_)] [] m_ := by
    intro q9 e9
    subst e9
    replace h := brm1_inl h
    obtain ⟨index_4, e8⟩ : ∃ z, z = q9 := ⟨_, rfl⟩
    subst e8
    show J SHC G rm_X11_pairsAreSound (.inl O) C 0 0 86 [(2, VI index_4), (0, VR 0), (1, VI to_)] [] m_
    refine s_load0 X 1 rfl dX11_pairsAreSound_86 ?_
    refine s_getR (id := 345) X fk_X11_58 SHC_0 rfl dX11_pairsAreSound_87 ?_
    refine s_sipush X (by omega) dX11_pairsAreSound_90 ?_
    obtain ⟨r_, hq41, h⟩ := bnd_some h
    refine s_callV (As := [VI 480]) X cw_X11_355 SHC_345 rfl dX11_pairsAreSound_93 (L_C_Search_pairArrivalFrom G 480 m_ r_ hq41) rfl ⟨Nat.le_of_ble_eq_true rfl, Nat.le_of_ble_eq_true rfl⟩ ⟨Nat.le_of_ble_eq_true rfl, Nat.le_of_ble_eq_true rfl⟩ (Nat.le_of_ble_eq_true rfl) noT (kkR ?_)
    obtain ⟨byPair_, e44, h⟩ := ltv_elim h
    refine s_istore_n X e44 rfl (by omega) dX11_pairsAreSound_96 ?_
    refine s_load0 X 1 rfl dX11_pairsAreSound_97 ?_
    refine s_getR (id := 345) X fk_X11_58 SHC_0 rfl dX11_pairsAreSound_98 ?_
    refine s_const X (by unfold InR; omega) dX11_pairsAreSound_101 ?_
    refine s_sipush X (by omega) dX11_pairsAreSound_102 ?_
    obtain ⟨m_2, hq46, h⟩ := bnd_some h
    refine s_callV (As := [VI 0, VI 480]) X cw_X11_283 SHC_345 rfl dX11_pairsAreSound_105 (L_C_Search_scan G 0 480 m_ m_2 hq46) rfl ⟨Nat.le_of_ble_eq_true rfl, Nat.le_of_ble_eq_true rfl⟩ ⟨Nat.le_of_ble_eq_true rfl, Nat.le_of_ble_eq_true rfl⟩ (Nat.le_of_ble_eq_true rfl) noT (kkU ?_)
    obtain ⟨g49, h⟩ := grd_some h
    refine s_iload_n X 0 rfl dX11_pairsAreSound_108 ?_
    refine s_sipush X (by omega) dX11_pairsAreSound_109 ?_
    refine s_load0 X 1 rfl dX11_pairsAreSound_112 ?_
    refine s_getR (id := 1) X fk_X11_12 SHC_0 rfl dX11_pairsAreSound_113 ?_
    refine s_getR (id := 16) X fk_X11_125 SHC_1 rfl dX11_pairsAreSound_116 ?_
    refine s_const X (by unfold InR; omega) dX11_pairsAreSound_119 ?_
    refine s_aaldI (id := 17) X (by omega) (Or.inl rfl) SHC_16 (by omega) (by omega) dX11_pairsAreSound_120 ?_
    refine s_iload_n X 2 rfl dX11_pairsAreSound_121 ?_
    refine s_iald X SHC_17 g49.1 g49.2.1 dX11_pairsAreSound_122 ?_
    refine s_iadd X g49.2.2 dX11_pairsAreSound_123 ?_
    refine s_min X mm_X11_358 (Nat.le_of_ble_eq_true rfl) (Nat.le_of_ble_eq_true rfl) ⟨Nat.le_of_ble_eq_true rfl, Nat.le_of_ble_eq_true rfl⟩ dX11_pairsAreSound_124 ?_
    refine s_load0 X 1 rfl dX11_pairsAreSound_127 ?_
    refine s_getR (id := 345) X fk_X11_58 SHC_0 rfl dX11_pairsAreSound_128 ?_
    refine s_getR (id := 352) X fk_X11_286 SHC_345 rfl dX11_pairsAreSound_131 ?_
    refine s_iload_n X 2 rfl dX11_pairsAreSound_134 ?_
    obtain ⟨r_2, hq50, h⟩ := bnd_some h
    refine s_callV (As := [VI to_]) X cw_X11_290 (shLab labS) rfl dX11_pairsAreSound_135 (L_C_Labels_at G 352 to_ m_2 r_2 labS hq50) rfl ⟨Nat.le_of_ble_eq_true rfl, Nat.le_of_ble_eq_true rfl⟩ ⟨Nat.le_of_ble_eq_true rfl, Nat.le_of_ble_eq_true rfl⟩ (Nat.le_of_ble_eq_true rfl) noT (kkR ?_)
    refine s_icmpeq_t (tgt := 165) X dX11_pairsAreSound_138 (by omega) (fun c53 => ?_) (fun c54 => ?_)
    · replace h := ite_pos h c53
      refine s_const X (by unfold InR; omega) dX11_pairsAreSound_165 ?_
      refine s_goto (tgt := 170) X dX11_pairsAreSound_166 (by omega) ?_
      exact s_zret X (Or.inr rfl) (Nat.le_of_ble_eq_true rfl) (Nat.le_of_ble_eq_true rfl) (by cases h; exact hO) dX11_pairsAreSound_170
    · replace h := ite_neg h c54
      refine s_iload_n X 0 rfl dX11_pairsAreSound_141 ?_
      refine s_ldcW (z := 1000000) X (by unfold InR; omega) kc_X11_420 dX11_pairsAreSound_142 ?_
      refine s_icmplt_f (tgt := 169) X dX11_pairsAreSound_145 (by omega) (fun c59 => ?_) (fun c60 => ?_)
      · replace h := ite_neg h c59
        refine s_const X (by unfold InR; omega) dX11_pairsAreSound_169 ?_
        exact s_zret X (Or.inl rfl) (Nat.le_of_ble_eq_true rfl) (Nat.le_of_ble_eq_true rfl) (by cases h; exact hO) dX11_pairsAreSound_170
      · replace h := ite_pos h c60
        refine s_load0 X 1 rfl dX11_pairsAreSound_148 ?_
        refine s_getR (id := 345) X fk_X11_58 SHC_0 rfl dX11_pairsAreSound_149 ?_
        refine s_getR (id := 352) X fk_X11_286 SHC_345 rfl dX11_pairsAreSound_152 ?_
        refine s_iload_n X 2 rfl dX11_pairsAreSound_155 ?_
        obtain ⟨r_3, hq63, h⟩ := bnd_some h
        refine s_callV (As := [VI to_]) X cw_X11_290 (shLab labS) rfl dX11_pairsAreSound_156 (L_C_Labels_at G 352 to_ m_2 r_3 labS hq63) rfl ⟨Nat.le_of_ble_eq_true rfl, Nat.le_of_ble_eq_true rfl⟩ ⟨Nat.le_of_ble_eq_true rfl, Nat.le_of_ble_eq_true rfl⟩ (Nat.le_of_ble_eq_true rfl) noT (kkR ?_)
        refine s_ldcW (z := 1000000) X (by unfold InR; omega) kc_X11_420 dX11_pairsAreSound_159 ?_
        refine s_icmplt_f (tgt := 169) X dX11_pairsAreSound_162 (by omega) (fun c66 => ?_) (fun c67 => ?_)
        · replace h := ite_neg h c66
          refine s_const X (by unfold InR; omega) dX11_pairsAreSound_169 ?_
          exact s_zret X (Or.inl rfl) (Nat.le_of_ble_eq_true rfl) (Nat.le_of_ble_eq_true rfl) (by cases h; exact hO) dX11_pairsAreSound_170
        · replace h := ite_pos h c67
          refine s_const X (by unfold InR; omega) dX11_pairsAreSound_165 ?_
          refine s_goto (tgt := 170) X dX11_pairsAreSound_166 (by omega) ?_
          exact s_zret X (Or.inr rfl) (Nat.le_of_ble_eq_true rfl) (Nat.le_of_ble_eq_true rfl) (by cases h; exact hO) dX11_pairsAreSound_170
  have LP12 : ∀ (fu7 : Nat) (index_2 : Int), iter (fun s => C_pairsAreSound_b1 m_ s) fu7 index_2 = some s14 → J SHC G rm_X11_pairsAreSound (.inl O) C 0 0 11 [(2, VI index_2), (0, VR 0), (1, VI to_)] [] m_ := by
    intro fu7
    induction fu7 with
    | zero => intro index_2 hn8; exact absurd hn8 (by simp [iter])
    | succ fu7 ih11 =>
      intro index_2 hn8
      obtain ⟨x9, h, hc10⟩ := iter_succ hn8
      replace h : C_pairsAreSound_b1 m_ index_2 = some x9 := h
      unfold C_pairsAreSound_b1 at h
      refine s_iload_n X 0 rfl dX11_pairsAreSound_11 ?_
      refine s_load0 X 1 rfl dX11_pairsAreSound_12 ?_
      refine s_getR (id := 345) X fk_X11_58 SHC_0 rfl dX11_pairsAreSound_13 ?_
      refine s_getI X fk_X11_341 SHC_345 rfl dX11_pairsAreSound_16 ?_
      refine s_icmpge_f (tgt := 86) X dX11_pairsAreSound_19 (by omega) (fun c21 => ?_) (fun c22 => ?_)
      · replace h := ite_neg h c21
        exact KX13 _ (iter_exit h hc10)
      · replace h := ite_pos h c22
        obtain ⟨g23, h⟩ := grd_some h
        have kM24 : J SHC G rm_X11_pairsAreSound (.inl O) C 0 0 50 [(2, VI index_2), (0, VR 0), (1, VI to_)] [VI (if m_ 350 (index_2 - 1).toNat < m_ 350 index_2.toNat then 1 else 0)] m_ := by
          obtain ⟨leavesLater_, e27, h⟩ := ltv_elim h
          refine s_istore_n X e27 rfl (by omega) dX11_pairsAreSound_50 ?_
          obtain ⟨g28, h⟩ := grd_some h
          have kT29 : (leavesLater_ = 0) ∨ (m_ 351 index_2.toNat ≤ m_ 351 (index_2 - 1).toNat) → J SHC G rm_X11_pairsAreSound (.inl O) C 0 0 78 [(3, VI leavesLater_), (2, VI index_2), (0, VR 0), (1, VI to_)] [] m_ := by
            intro c34
            replace h := ite_pos h c34
            refine s_const X (by unfold InR; omega) dX11_pairsAreSound_78 ?_
            exact s_zret X (Or.inl rfl) (Nat.le_of_ble_eq_true rfl) (Nat.le_of_ble_eq_true rfl) (KR15 _ (iter_exit h hc10)) dX11_pairsAreSound_79
          refine s_iload_n X 0 rfl dX11_pairsAreSound_51 ?_
          refine s_ifeq_t (tgt := 78) X dX11_pairsAreSound_52 (by omega) (fun c31 => ?_) (fun c32 => ?_)
          · exact kT29 (Or.inl c31)
          · have a35 : ¬ (leavesLater_ = 0) := c32
            refine s_load0 X 2 rfl dX11_pairsAreSound_55 ?_
            refine s_getR (id := 345) X fk_X11_58 SHC_0 rfl dX11_pairsAreSound_56 ?_
            refine s_getR (id := 351) X fk_X11_346 SHC_345 rfl dX11_pairsAreSound_59 ?_
            refine s_iload_n X 1 rfl dX11_pairsAreSound_62 ?_
            refine s_iald X SHC_351 (g28.1 a35) (g28.2.1 a35) dX11_pairsAreSound_63 ?_
            refine s_load0 X 2 rfl dX11_pairsAreSound_64 ?_
            refine s_getR (id := 345) X fk_X11_58 SHC_0 rfl dX11_pairsAreSound_65 ?_
            refine s_getR (id := 351) X fk_X11_346 SHC_345 rfl dX11_pairsAreSound_68 ?_
            refine s_iload_n X 1 rfl dX11_pairsAreSound_71 ?_
            refine s_const X (by unfold InR; omega) dX11_pairsAreSound_72 ?_
            refine s_isub X (g28.2.2.1 a35) dX11_pairsAreSound_73 ?_
            refine s_iald X SHC_351 (g28.2.2.2.1 a35) (g28.2.2.2.2 a35) dX11_pairsAreSound_74 ?_
            refine s_icmpgt_f (tgt := 80) X dX11_pairsAreSound_75 (by omega) (fun c36 => ?_) (fun c37 => ?_)
            · replace h := ite_neg h (fun q => q.elim a35 c36)
              obtain ⟨g38, h⟩ := grd_some h
              obtain ⟨index_3, e39, h⟩ := ltv_elim h
              refine s_iinc X 1 rfl g38 e39 rfl (by omega) dX11_pairsAreSound_80 ?_
              refine s_goto (tgt := 11) X dX11_pairsAreSound_83 (by omega) ?_
              refine s_loc [0, 2, 3] rfl ?_
              exact ih11 _ (iter_next h hc10)
            · exact kT29 (Or.inr c37)
        refine s_load0 X 1 rfl dX11_pairsAreSound_22 ?_
        refine s_getR (id := 345) X fk_X11_58 SHC_0 rfl dX11_pairsAreSound_23 ?_
        refine s_getR (id := 350) X fk_X11_349 SHC_345 rfl dX11_pairsAreSound_26 ?_
        refine s_iload_n X 0 rfl dX11_pairsAreSound_29 ?_
        refine s_iald X SHC_350 g23.1 g23.2.1 dX11_pairsAreSound_30 ?_
        refine s_load0 X 1 rfl dX11_pairsAreSound_31 ?_
        refine s_getR (id := 345) X fk_X11_58 SHC_0 rfl dX11_pairsAreSound_32 ?_
        refine s_getR (id := 350) X fk_X11_349 SHC_345 rfl dX11_pairsAreSound_35 ?_
        refine s_iload_n X 0 rfl dX11_pairsAreSound_38 ?_
        refine s_const X (by unfold InR; omega) dX11_pairsAreSound_39 ?_
        refine s_isub X g23.2.2.1 dX11_pairsAreSound_40 ?_
        refine s_iald X SHC_350 g23.2.2.2.1 g23.2.2.2.2 dX11_pairsAreSound_41 ?_
        refine s_icmple_f (tgt := 49) X dX11_pairsAreSound_42 (by omega) (fun c25 => ?_) (fun c26 => ?_)
        · refine s_const X (by unfold InR; omega) dX11_pairsAreSound_49 ?_
          exact s_eqt (if_neg c25) kM24
        · refine s_const X (by unfold InR; omega) dX11_pairsAreSound_45 ?_
          refine s_goto (tgt := 50) X dX11_pairsAreSound_46 (by omega) ?_
          exact s_eqt (if_pos c26) kM24
  exact LP12 _ _ hl17
