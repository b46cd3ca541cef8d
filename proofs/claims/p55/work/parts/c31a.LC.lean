/-! ===== printed by a program out of the Java source and the decode rows: 31a.LC ===== -/
set_option maxRecDepth 20000 in
set_option maxHeartbeats 4000000 in
theorem L_C_needNumber (G : Gl) (number_ : Int) (least_ : Int) (greatest_ : Int) (m : Mem) (r : ((Unit ⊕ Nat) × Mem))  (h : C_needNumber number_ least_ greatest_ m = some r) : Con SHC G yX11_needNumber cX11_needNumber 3 none rm_X11_needNumber [VI number_, VI least_, VI greatest_] m (oT wU r) := by
  refine con_of (own := "Lastbus") (by decide) rfl (Nat.le_of_ble_eq_true rfl) (fun C X => ?_)
  obtain ⟨O, hO⟩ : ∃ O : Res × Mem, O = (oT wU r) := ⟨_, rfl⟩
  rw [← hO]
  show J SHC G rm_X11_needNumber (.inl O) C 0 0 0 [(0, VI number_), (1, VI least_), (2, VI greatest_)] [] m
  unfold C_needNumber at h
  have kT2 : (number_ < least_) ∨ (greatest_ < number_) → J SHC G rm_X11_needNumber (.inl O) C 0 0 10 [(0, VI number_), (1, VI least_), (2, VI greatest_)] [] m := by
    intro c6
    replace h := ite_pos h c6
    exact s_throwW X th_X11_143_442_147 (by cases h; exact hO) (Nat.le_of_ble_eq_true rfl) (Nat.le_of_ble_eq_true rfl) (Nat.le_of_ble_eq_true rfl) (Nat.le_of_ble_eq_true rfl) dX11_needNumber_10 dX11_needNumber_13 dX11_needNumber_14 dX11_needNumber_17 dX11_needNumber_20
  refine s_iload_n X 0 rfl dX11_needNumber_0 ?_
  refine s_iload_n X 1 rfl dX11_needNumber_1 ?_
  refine s_icmplt_t (tgt := 10) X dX11_needNumber_2 (by omega) (fun c4 => ?_) (fun c5 => ?_)
  · exact kT2 (Or.inl c4)
  · have a7 : ¬ (number_ < least_) := c5
    refine s_iload_n X 0 rfl dX11_needNumber_5 ?_
    refine s_iload_n X 2 rfl dX11_needNumber_6 ?_
    refine s_icmple_f (tgt := 21) X dX11_needNumber_7 (by omega) (fun c8 => ?_) (fun c9 => ?_)
    · replace h := ite_neg h (fun q => q.elim a7 c8)
      exact s_vret X (Nat.le_of_ble_eq_true rfl) (Nat.le_of_ble_eq_true rfl) (by cases h; exact hO) dX11_needNumber_21
    · exact kT2 (Or.inr c9)
set_option maxRecDepth 20000 in
set_option maxHeartbeats 4000000 in
theorem L_C_Stops_add (G : Gl) (minutes_ : Int) (m : Mem) (r : (Int × Mem))  (h : C_Stops_add minutes_ m = some r) : Con SHC G yX8_add cX8_add 2 (some .int) rm_X8_add [VR 1, VI minutes_] m (((.inl (some (VI r.1)), r.2) : Res × Mem)) := by
  refine con_of (own := "Lastbus$Stops") (by decide) rfl (Nat.le_of_ble_eq_true rfl) (fun C X => ?_)
  obtain ⟨O, hO⟩ : ∃ O : Res × Mem, O = (((.inl (some (VI r.1)), r.2) : Res × Mem)) := ⟨_, rfl⟩
  rw [← hO]
  show J SHC G rm_X8_add (.inl O) C 0 0 0 [(0, VR 1), (1, VI minutes_)] [] m
  unfold C_Stops_add at h
  obtain ⟨g1, h⟩ := grd_some h
  refine s_load0 X 0 rfl dX8_add_0 ?_
  refine s_getR (id := 2) X fk_X8_9 SHC_1 rfl dX8_add_1 ?_
  refine s_load0 X 0 rfl dX8_add_4 ?_
  refine s_getI X fk_X8_27 SHC_1 rfl dX8_add_5 ?_
  refine s_iload_n X 1 rfl dX8_add_8 ?_
  obtain ⟨m_, e2, h⟩ := ltv_elim h
  refine s_iast X e2 SHC_2 g1.1 g1.2 dX8_add_9 ?_
  obtain ⟨g3, h⟩ := grd_some h
  refine s_load0 X 0 rfl dX8_add_10 ?_
  refine s_dup X rfl dX8_add_11 ?_
  refine s_getI X fk_X8_27 SHC_1 rfl dX8_add_12 ?_
  refine s_const X (by unfold InR; omega) dX8_add_15 ?_
  refine s_iadd X g3 dX8_add_16 ?_
  obtain ⟨m_2, e4, h⟩ := ltv_elim h
  refine s_putI X e4 fp_X8_27 SHC_1 rfl trivial dX8_add_17 ?_
  obtain ⟨g5, h⟩ := grd_some h
  refine s_load0 X 0 rfl dX8_add_20 ?_
  refine s_getI X fk_X8_27 SHC_1 rfl dX8_add_21 ?_
  refine s_const X (by unfold InR; omega) dX8_add_24 ?_
  refine s_isub X g5 dX8_add_25 ?_
  exact s_iret X (Nat.le_of_ble_eq_true rfl) (Nat.le_of_ble_eq_true rfl) (by cases h; exact hO) dX8_add_26
set_option maxRecDepth 20000 in
set_option maxHeartbeats 4000000 in
theorem L_C_stop (G : Gl) (change_ : Int) (m : Mem) (r : ((Int ⊕ Nat) × Mem))  (h : C_stop change_ m = some r) : Con SHC G yX11_stop cX11_stop 2 (some .int) rm_X11_stop [VR 0, VI change_] m (oT wI r) := by
  refine con_of (own := "Lastbus") (by decide) rfl (Nat.le_of_ble_eq_true rfl) (fun C X => ?_)
  obtain ⟨O, hO⟩ : ∃ O : Res × Mem, O = (oT wI r) := ⟨_, rfl⟩
  rw [← hO]
  show J SHC G rm_X11_stop (.inl O) C 0 0 0 [(0, VR 0), (1, VI change_)] [] m
  unfold C_stop at h
  refine s_iload_n X 1 rfl dX11_stop_0 ?_
  refine s_const X (by unfold InR; omega) dX11_stop_1 ?_
  refine s_bipush X (by omega) dX11_stop_2 ?_
  obtain ⟨q3, hq2, h⟩ := bnd_some h
  refine s_callS (As := [VI change_, VI 0, VI 30]) X cw_X11_88 dX11_stop_4 (L_C_needNumber G change_ 0 30 m q3 hq2) rfl ⟨Nat.le_of_ble_eq_true rfl, Nat.le_of_ble_eq_true rfl⟩ ⟨Nat.le_of_ble_eq_true rfl, Nat.le_of_ble_eq_true rfl⟩ (Nat.le_of_ble_eq_true rfl) (thr_up hO h) (kkT fun u_ m_ e9 => ?_)
  subst e9
  replace h := tbd_inl h
  refine s_load0 X 0 rfl dX11_stop_7 ?_
  refine s_getR (id := 1) X fk_X11_12 SHC_0 rfl dX11_stop_8 ?_
  refine s_getI X fk_X11_92 SHC_1 rfl dX11_stop_11 ?_
  refine s_bipush X (by omega) dX11_stop_14 ?_
  refine s_icmplt_f (tgt := 29) X dX11_stop_16 (by omega) (fun c8 => ?_) (fun c9 => ?_)
  · replace h := ite_neg h c8
    refine s_load0 X 0 rfl dX11_stop_29 ?_
    refine s_getR (id := 1) X fk_X11_12 SHC_0 rfl dX11_stop_30 ?_
    refine s_iload_n X 1 rfl dX11_stop_33 ?_
    obtain ⟨r_, m_2, hq11, h⟩ := bq2_some h
    refine s_callV (As := [VI change_]) X cw_X11_103 SHC_1 rfl dX11_stop_34 (L_C_Stops_add G change_ m_ (r_, m_2) hq11) rfl ⟨Nat.le_of_ble_eq_true rfl, Nat.le_of_ble_eq_true rfl⟩ ⟨Nat.le_of_ble_eq_true rfl, Nat.le_of_ble_eq_true rfl⟩ (Nat.le_of_ble_eq_true rfl) noT (kkR ?_)
    exact s_iret X (Nat.le_of_ble_eq_true rfl) (Nat.le_of_ble_eq_true rfl) (by cases h; exact hO) dX11_stop_37
  · replace h := ite_pos h c9
    exact s_throw X th_X11_96_98_100 (by cases h; exact hO) (Nat.le_of_ble_eq_true rfl) (Nat.le_of_ble_eq_true rfl) (Nat.le_of_ble_eq_true rfl) (Nat.le_of_ble_eq_true rfl) dX11_stop_19 dX11_stop_22 dX11_stop_23 dX11_stop_25 dX11_stop_28
set_option maxRecDepth 20000 in
set_option maxHeartbeats 4000000 in
theorem L_C_Stops_has (G : Gl) (stop_ : Int) (m : Mem) (r : Int)  (h : C_Stops_has stop_ m = some r) : Con SHC G yX8_has cX8_has 2 (some .boolean) rm_X8_has [VR 1, VI stop_] m (((.inl (some (VI r)), m) : Res × Mem)) := by
  refine con_of (own := "Lastbus$Stops") (by decide) rfl (Nat.le_of_ble_eq_true rfl) (fun C X => ?_)
  obtain ⟨O, hO⟩ : ∃ O : Res × Mem, O = (((.inl (some (VI r)), m) : Res × Mem)) := ⟨_, rfl⟩
  rw [← hO]
  show J SHC G rm_X8_has (.inl O) C 0 0 0 [(0, VR 1), (1, VI stop_)] [] m
  unfold C_Stops_has at h
  have kM2 : J SHC G rm_X8_has (.inl O) C 0 0 17 [(0, VR 1), (1, VI stop_)] [VI (if (0 ≤ stop_) ∧ (stop_ < m 1 0) then 1 else 0)] m := by
    exact s_zret X okT_ite (Nat.le_of_ble_eq_true rfl) (Nat.le_of_ble_eq_true rfl) (by cases h; exact hO) dX8_has_17
  refine s_iload_n X 1 rfl dX8_has_0 ?_
  refine s_iflt_f (tgt := 16) X dX8_has_1 (by omega) (fun c3 => ?_) (fun c4 => ?_)
  · refine s_const X (by unfold InR; omega) dX8_has_16 ?_
    exact s_eqt (if_neg (fun q => c3 q.1)) kM2
  · have a5 : 0 ≤ stop_ := c4
    refine s_iload_n X 1 rfl dX8_has_4 ?_
    refine s_load0 X 0 rfl dX8_has_5 ?_
    refine s_getI X fk_X8_27 SHC_1 rfl dX8_has_6 ?_
    refine s_icmpge_f (tgt := 16) X dX8_has_9 (by omega) (fun c6 => ?_) (fun c7 => ?_)
    · refine s_const X (by unfold InR; omega) dX8_has_16 ?_
      exact s_eqt (if_neg (fun q => c6 q.2)) kM2
    · refine s_const X (by unfold InR; omega) dX8_has_12 ?_
      refine s_goto (tgt := 17) X dX8_has_13 (by omega) ?_
      exact s_eqt (if_pos ⟨a5, c7⟩) kM2
set_option maxRecDepth 20000 in
set_option maxHeartbeats 4000000 in
theorem L_C_needStop (G : Gl) (stop_ : Int) (m : Mem) (r : ((Unit ⊕ Nat) × Mem))  (h : C_needStop stop_ m = some r) : Con SHC G yX11_needStop cX11_needStop 2 none rm_X11_needStop [VR 0, VI stop_] m (oT wU r) := by
  refine con_of (own := "Lastbus") (by decide) rfl (Nat.le_of_ble_eq_true rfl) (fun C X => ?_)
  obtain ⟨O, hO⟩ : ∃ O : Res × Mem, O = (oT wU r) := ⟨_, rfl⟩
  rw [← hO]
  show J SHC G rm_X11_needStop (.inl O) C 0 0 0 [(0, VR 0), (1, VI stop_)] [] m
  unfold C_needStop at h
  refine s_load0 X 0 rfl dX11_needStop_0 ?_
  refine s_getR (id := 1) X fk_X11_12 SHC_0 rfl dX11_needStop_1 ?_
  refine s_iload_n X 1 rfl dX11_needStop_4 ?_
  obtain ⟨r_, hq2, h⟩ := bnd_some h
  refine s_callV (As := [VI stop_]) X cw_X11_448 SHC_1 rfl dX11_needStop_5 (L_C_Stops_has G stop_ m r_ hq2) rfl ⟨Nat.le_of_ble_eq_true rfl, Nat.le_of_ble_eq_true rfl⟩ ⟨Nat.le_of_ble_eq_true rfl, Nat.le_of_ble_eq_true rfl⟩ (Nat.le_of_ble_eq_true rfl) noT (kkR ?_)
  refine s_ifne_t (tgt := 22) X dX11_needStop_8 (by omega) (fun c5 => ?_) (fun c6 => ?_)
  · replace h := ite_pos h c5
    exact s_vret X (Nat.le_of_ble_eq_true rfl) (Nat.le_of_ble_eq_true rfl) (by cases h; exact hO) dX11_needStop_22
  · replace h := ite_neg h c6
    exact s_throwW X th_X11_451_453_455 (by cases h; exact hO) (Nat.le_of_ble_eq_true rfl) (Nat.le_of_ble_eq_true rfl) (Nat.le_of_ble_eq_true rfl) (Nat.le_of_ble_eq_true rfl) dX11_needStop_11 dX11_needStop_14 dX11_needStop_15 dX11_needStop_18 dX11_needStop_21
set_option maxRecDepth 20000 in
set_option maxHeartbeats 4000000 in
theorem L_C_needUnlike (G : Gl) (one_ : Int) (other_ : Int) (m : Mem) (r : ((Unit ⊕ Nat) × Mem))  (h : C_needUnlike one_ other_ m = some r) : Con SHC G yX11_needUnlike cX11_needUnlike 2 none rm_X11_needUnlike [VI one_, VI other_] m (oT wU r) := by
  refine con_of (own := "Lastbus") (by decide) rfl (Nat.le_of_ble_eq_true rfl) (fun C X => ?_)
  obtain ⟨O, hO⟩ : ∃ O : Res × Mem, O = (oT wU r) := ⟨_, rfl⟩
  rw [← hO]
  show J SHC G rm_X11_needUnlike (.inl O) C 0 0 0 [(0, VI one_), (1, VI other_)] [] m
  unfold C_needUnlike at h
  refine s_iload_n X 0 rfl dX11_needUnlike_0 ?_
  refine s_iload_n X 1 rfl dX11_needUnlike_1 ?_
  refine s_icmpne_f (tgt := 16) X dX11_needUnlike_2 (by omega) (fun c4 => ?_) (fun c5 => ?_)
  · replace h := ite_neg h c4
    exact s_vret X (Nat.le_of_ble_eq_true rfl) (Nat.le_of_ble_eq_true rfl) (by cases h; exact hO) dX11_needUnlike_16
  · replace h := ite_pos h c5
    exact s_throwW X th_X11_143_444_147 (by cases h; exact hO) (Nat.le_of_ble_eq_true rfl) (Nat.le_of_ble_eq_true rfl) (Nat.le_of_ble_eq_true rfl) (Nat.le_of_ble_eq_true rfl) dX11_needUnlike_5 dX11_needUnlike_8 dX11_needUnlike_9 dX11_needUnlike_12 dX11_needUnlike_15
set_option maxRecDepth 20000 in
set_option maxHeartbeats 4000000 in
theorem L_C_walk (G : Gl) (stop_ : Int) (other_ : Int) (minutes_ : Int) (m : Mem) (r : ((Int ⊕ Nat) × Mem))  (h : C_walk stop_ other_ minutes_ m = some r) : Con SHC G yX11_walk cX11_walk 5 (some .int) rm_X11_walk [VR 0, VI stop_, VI other_, VI minutes_] m (oT wI r) := by
  refine con_of (own := "Lastbus") (by decide) rfl (Nat.le_of_ble_eq_true rfl) (fun C X => ?_)
  obtain ⟨O, hO⟩ : ∃ O : Res × Mem, O = (oT wI r) := ⟨_, rfl⟩
  rw [← hO]
  show J SHC G rm_X11_walk (.inl O) C 0 0 0 [(0, VR 0), (1, VI stop_), (2, VI other_), (3, VI minutes_)] [] m
  unfold C_walk at h
  refine s_load0 X 0 rfl dX11_walk_0 ?_
  refine s_iload_n X 1 rfl dX11_walk_1 ?_
  obtain ⟨q3, hq2, h⟩ := bnd_some h
  refine s_callV (As := [VI stop_]) X cw_X11_107 SHC_0 rfl dX11_walk_2 (L_C_needStop G stop_ m q3 hq2) rfl ⟨Nat.le_of_ble_eq_true rfl, Nat.le_of_ble_eq_true rfl⟩ ⟨Nat.le_of_ble_eq_true rfl, Nat.le_of_ble_eq_true rfl⟩ (Nat.le_of_ble_eq_true rfl) (thr_up hO h) (kkT fun u_ m_ e9 => ?_)
  subst e9
  replace h := tbd_inl h
  refine s_load0 X 0 rfl dX11_walk_5 ?_
  refine s_iload_n X 2 rfl dX11_walk_6 ?_
  obtain ⟨q7, hq6, h⟩ := bnd_some h
  refine s_callV (As := [VI other_]) X cw_X11_107 SHC_0 rfl dX11_walk_7 (L_C_needStop G other_ m_ q7 hq6) rfl ⟨Nat.le_of_ble_eq_true rfl, Nat.le_of_ble_eq_true rfl⟩ ⟨Nat.le_of_ble_eq_true rfl, Nat.le_of_ble_eq_true rfl⟩ (Nat.le_of_ble_eq_true rfl) (thr_up hO h) (kkT fun u_2 m_2 e9 => ?_)
  subst e9
  replace h := tbd_inl h
  refine s_iload_n X 1 rfl dX11_walk_10 ?_
  refine s_iload_n X 2 rfl dX11_walk_11 ?_
  obtain ⟨q11, hq10, h⟩ := bnd_some h
  refine s_callS (As := [VI stop_, VI other_]) X cw_X11_115 dX11_walk_12 (L_C_needUnlike G stop_ other_ m_2 q11 hq10) rfl ⟨Nat.le_of_ble_eq_true rfl, Nat.le_of_ble_eq_true rfl⟩ ⟨Nat.le_of_ble_eq_true rfl, Nat.le_of_ble_eq_true rfl⟩ (Nat.le_of_ble_eq_true rfl) (thr_up hO h) (kkT fun u_3 m_3 e9 => ?_)
  subst e9
  replace h := tbd_inl h
  refine s_iload_n X 3 rfl dX11_walk_15 ?_
  refine s_const X (by unfold InR; omega) dX11_walk_16 ?_
  refine s_bipush X (by omega) dX11_walk_17 ?_
  obtain ⟨q15, hq14, h⟩ := bnd_some h
  refine s_callS (As := [VI minutes_, VI 0, VI 60]) X cw_X11_88 dX11_walk_19 (L_C_needNumber G minutes_ 0 60 m_3 q15 hq14) rfl ⟨Nat.le_of_ble_eq_true rfl, Nat.le_of_ble_eq_true rfl⟩ ⟨Nat.le_of_ble_eq_true rfl, Nat.le_of_ble_eq_true rfl⟩ (Nat.le_of_ble_eq_true rfl) (thr_up hO h) (kkT fun u_4 m_4 e9 => ?_)
  subst e9
  replace h := tbd_inl h
  obtain ⟨g17, h⟩ := grd_some h
  refine s_load0 X 0 rfl dX11_walk_22 ?_
  refine s_getR (id := 1) X fk_X11_12 SHC_0 rfl dX11_walk_23 ?_
  refine s_getR (id := 3) X fk_X11_119 SHC_1 rfl dX11_walk_26 ?_
  refine s_iload_n X 1 rfl dX11_walk_29 ?_
  refine s_aaldI (id := (4 + stop_.toNat)) X (by omega) (Or.inl rfl) SHC_3 g17.1 g17.2.1 dX11_walk_30 ?_
  refine s_iload_n X 2 rfl dX11_walk_31 ?_
  refine s_iald X (SHC_r4 g17.1 g17.2.1) g17.2.2.1 g17.2.2.2 dX11_walk_32 ?_
  obtain ⟨ahead_, e18, h⟩ := ltv_elim h
  refine s_istore X e18 rfl (by omega) dX11_walk_33 ?_
  refine s_load0 X 1 rfl dX11_walk_35 ?_
  refine s_getR (id := 1) X fk_X11_12 SHC_0 rfl dX11_walk_36 ?_
  refine s_getR (id := 3) X fk_X11_119 SHC_1 rfl dX11_walk_39 ?_
  refine s_iload_n X 2 rfl dX11_walk_42 ?_
  refine s_aaldI (id := (4 + stop_.toNat)) X (by omega) (Or.inl rfl) SHC_3 g17.1 g17.2.1 dX11_walk_43 ?_
  refine s_iload_n X 3 rfl dX11_walk_44 ?_
  refine s_iload_n X 4 rfl dX11_walk_45 ?_
  obtain ⟨m_5, e20, h⟩ := ltv_elim h
  refine s_iast X e20 (SHC_r4 g17.1 g17.2.1) g17.2.2.1 g17.2.2.2 dX11_walk_46 ?_
  refine s_load0 X 1 rfl dX11_walk_47 ?_
  refine s_getR (id := 1) X fk_X11_12 SHC_0 rfl dX11_walk_48 ?_
  refine s_getR (id := 3) X fk_X11_119 SHC_1 rfl dX11_walk_51 ?_
  refine s_iload_n X 3 rfl dX11_walk_54 ?_
  refine s_aaldI (id := (4 + other_.toNat)) X (by omega) (Or.inl rfl) SHC_3 g17.2.2.1 g17.2.2.2 dX11_walk_55 ?_
  refine s_iload_n X 2 rfl dX11_walk_56 ?_
  refine s_iload_n X 4 rfl dX11_walk_57 ?_
  obtain ⟨m_6, e22, h⟩ := ltv_elim h
  refine s_iast X e22 (SHC_r4 g17.2.2.1 g17.2.2.2) g17.1 g17.2.1 dX11_walk_58 ?_
  refine s_iload X 0 rfl dX11_walk_59 ?_
  exact s_iret X (Nat.le_of_ble_eq_true rfl) (Nat.le_of_ble_eq_true rfl) (by cases h; exact hO) dX11_walk_61
set_option maxRecDepth 20000 in
set_option maxHeartbeats 4000000 in
theorem L_C_Stops_linkVia (G : Gl) (stop_ : Int) (via_ : Int) (m : Mem) (r : Mem)  (h : C_Stops_linkVia stop_ via_ m = some r) : Con SHC G yX8_linkVia cX8_linkVia 5 none rm_X8_linkVia [VR 1, VI stop_, VI via_] m (((.inl none, r) : Res × Mem)) := by
  refine con_of (own := "Lastbus$Stops") (by decide) rfl (Nat.le_of_ble_eq_true rfl) (fun C X => ?_)
  obtain ⟨O, hO⟩ : ∃ O : Res × Mem, O = (((.inl none, r) : Res × Mem)) := ⟨_, rfl⟩
  rw [← hO]
  show J SHC G rm_X8_linkVia (.inl O) C 0 0 0 [(0, VR 1), (1, VI stop_), (2, VI via_)] [] m
  unfold C_Stops_linkVia at h
  refine s_const X (by unfold InR; omega) dX8_linkVia_0 ?_
  obtain ⟨other_, e2, h⟩ := ltv_elim h
  refine s_istore_n X e2 rfl (by omega) dX8_linkVia_1 ?_
  obtain ⟨other_5, m_3, hl12, h⟩ := bq2_some h
  obtain ⟨fu30, hl13⟩ := loop_iter hl12
  have KX9 : ∀ q9 : Int × Mem, q9 = (other_5, m_3) → J SHC G rm_X8_linkVia (.inl O) C 0 0 63 [(3, VI q9.1), (0, VR 1), (1, VI stop_), (2, VI via_)] [] (q9.2) := by
    intro q9 e9
    subst e9
    show J SHC G rm_X8_linkVia (.inl O) C 0 0 63 [(3, VI other_5), (0, VR 1), (1, VI stop_), (2, VI via_)] [] m_3
    exact s_vret X (Nat.le_of_ble_eq_true rfl) (Nat.le_of_ble_eq_true rfl) (by cases h; exact hO) dX8_linkVia_63
  have LP8 : ∀ (fu3 : Nat) (other_2 : Int) (m_ : Mem), iter (fun s => C_Stops_linkVia_b1 stop_ via_ s.1 s.2) fu3 (other_2, m_) = some (other_5, m_3) → J SHC G rm_X8_linkVia (.inl O) C 0 0 2 [(3, VI other_2), (0, VR 1), (1, VI stop_), (2, VI via_)] [] m_ := by
    intro fu3
    induction fu3 with
    | zero => intro other_2 m_ hn4; exact absurd hn4 (by simp [iter])
    | succ fu3 ih7 =>
      intro other_2 m_ hn4
      obtain ⟨x5, h, hc6⟩ := iter_succ hn4
      replace h : C_Stops_linkVia_b1 stop_ via_ other_2 m_ = some x5 := h
      unfold C_Stops_linkVia_b1 at h
      refine s_iload_n X 0 rfl dX8_linkVia_2 ?_
      refine s_load0 X 1 rfl dX8_linkVia_3 ?_
      refine s_getI X fk_X8_27 SHC_1 rfl dX8_linkVia_4 ?_
      refine s_icmpge_f (tgt := 63) X dX8_linkVia_7 (by omega) (fun c17 => ?_) (fun c18 => ?_)
      · replace h := ite_neg h c17
        exact KX9 _ (iter_exit h hc6)
      · replace h := ite_pos h c18
        obtain ⟨g19, h⟩ := grd_some h
        refine s_load0 X 1 rfl dX8_linkVia_10 ?_
        refine s_getR (id := 16) X fk_X8_20 SHC_1 rfl dX8_linkVia_11 ?_
        refine s_iload_n X 2 rfl dX8_linkVia_14 ?_
        refine s_aaldI (id := (17 + stop_.toNat)) X (by omega) (Or.inl rfl) SHC_16 g19.1 g19.2.1 dX8_linkVia_15 ?_
        refine s_iload_n X 3 rfl dX8_linkVia_16 ?_
        refine s_iald X (SHC_r17 g19.1 g19.2.1) g19.2.2.1 g19.2.2.2.1 dX8_linkVia_17 ?_
        refine s_load0 X 1 rfl dX8_linkVia_18 ?_
        refine s_getR (id := 16) X fk_X8_20 SHC_1 rfl dX8_linkVia_19 ?_
        refine s_iload_n X 3 rfl dX8_linkVia_22 ?_
        refine s_aaldI (id := (17 + via_.toNat)) X (by omega) (Or.inl rfl) SHC_16 g19.2.2.1 g19.2.2.2.1 dX8_linkVia_23 ?_
        refine s_iload_n X 0 rfl dX8_linkVia_24 ?_
        refine s_iald X (SHC_r17 g19.2.2.1 g19.2.2.2.1) g19.2.2.2.2.1 g19.2.2.2.2.2.1 dX8_linkVia_25 ?_
        refine s_iadd X g19.2.2.2.2.2.2 dX8_linkVia_26 ?_
        obtain ⟨sum_, e20, h⟩ := ltv_elim h
        refine s_istore X e20 rfl (by omega) dX8_linkVia_27 ?_
        have kF23 : ¬ ((¬ other_2 = stop_) ∧ (sum_ < m_ (17 + stop_.toNat) other_2.toNat)) → J SHC G rm_X8_linkVia (.inl O) C 0 0 57 [(4, VI sum_), (3, VI other_2), (0, VR 1), (1, VI stop_), (2, VI via_)] [] m_ := by
          intro c28
          replace h := ite_neg h c28
          obtain ⟨g26, h⟩ := grd_some h
          obtain ⟨other_3, e27, h⟩ := ltv_elim h
          refine s_iinc X 1 rfl g26 e27 rfl (by omega) dX8_linkVia_57 ?_
          refine s_goto (tgt := 2) X dX8_linkVia_60 (by omega) ?_
          refine s_loc [0, 2, 3, 4] rfl ?_
          exact ih7 _ _ (iter_next h hc6)
        refine s_iload_n X 1 rfl dX8_linkVia_29 ?_
        refine s_iload_n X 3 rfl dX8_linkVia_30 ?_
        refine s_icmpeq_f (tgt := 57) X dX8_linkVia_31 (by omega) (fun c24 => ?_) (fun c25 => ?_)
        · exact kF23 (fun q => c24 q.1)
        · have a29 : ¬ other_2 = stop_ := c25
          refine s_iload X 0 rfl dX8_linkVia_34 ?_
          refine s_load0 X 2 rfl dX8_linkVia_36 ?_
          refine s_getR (id := 16) X fk_X8_20 SHC_1 rfl dX8_linkVia_37 ?_
          refine s_iload_n X 3 rfl dX8_linkVia_40 ?_
          refine s_aaldI (id := (17 + stop_.toNat)) X (by omega) (Or.inl rfl) SHC_16 g19.1 g19.2.1 dX8_linkVia_41 ?_
          refine s_iload_n X 1 rfl dX8_linkVia_42 ?_
          refine s_iald X (SHC_r17 g19.1 g19.2.1) g19.2.2.2.2.1 g19.2.2.2.2.2.1 dX8_linkVia_43 ?_
          refine s_icmpge_f (tgt := 57) X dX8_linkVia_44 (by omega) (fun c30 => ?_) (fun c31 => ?_)
          · exact kF23 (fun q => c30 q.2)
          · replace h := ite_pos h ⟨a29, c31⟩
            refine s_load0 X 2 rfl dX8_linkVia_47 ?_
            refine s_getR (id := 16) X fk_X8_20 SHC_1 rfl dX8_linkVia_48 ?_
            refine s_iload_n X 3 rfl dX8_linkVia_51 ?_
            refine s_aaldI (id := (17 + stop_.toNat)) X (by omega) (Or.inl rfl) SHC_16 g19.1 g19.2.1 dX8_linkVia_52 ?_
            refine s_iload_n X 1 rfl dX8_linkVia_53 ?_
            refine s_iload X 0 rfl dX8_linkVia_54 ?_
            obtain ⟨m_2, e33, h⟩ := ltv_elim h
            refine s_iast X e33 (SHC_r17 g19.1 g19.2.1) g19.2.2.2.2.1 g19.2.2.2.2.2.1 dX8_linkVia_56 ?_
            obtain ⟨g34, h⟩ := grd_some h
            obtain ⟨other_4, e35, h⟩ := ltv_elim h
            refine s_iinc X 1 rfl g34 e35 rfl (by omega) dX8_linkVia_57 ?_
            refine s_goto (tgt := 2) X dX8_linkVia_60 (by omega) ?_
            refine s_loc [0, 2, 3, 4] rfl ?_
            exact ih7 _ _ (iter_next h hc6)
  exact LP8 _ _ _ hl13
set_option maxRecDepth 20000 in
set_option maxHeartbeats 4000000 in
theorem L_C_Stops_link (G : Gl) (without_ : Int) (m : Mem) (r : Mem)  (h : C_Stops_link without_ m = some r) : Con SHC G yX8_link cX8_link 5 none rm_X8_link [VR 1, VI without_] m (((.inl none, r) : Res × Mem)) := by
  refine con_of (own := "Lastbus$Stops") (by decide) rfl (Nat.le_of_ble_eq_true rfl) (fun C X => ?_)
  obtain ⟨O, hO⟩ : ∃ O : Res × Mem, O = (((.inl none, r) : Res × Mem)) := ⟨_, rfl⟩
  rw [← hO]
  show J SHC G rm_X8_link (.inl O) C 0 0 0 [(0, VR 1), (1, VI without_)] [] m
  unfold C_Stops_link at h
  refine s_load0 X 0 rfl dX8_link_0 ?_
  refine s_iload_n X 1 rfl dX8_link_1 ?_
  obtain ⟨m_, e2, h⟩ := ltv_elim h
  refine s_putI X e2 fp_X8_23 SHC_1 rfl trivial dX8_link_2 ?_
  refine s_const X (by unfold InR; omega) dX8_link_5 ?_
  obtain ⟨stop_, e4, h⟩ := ltv_elim h
  refine s_istore_n X e4 rfl (by omega) dX8_link_6 ?_
  obtain ⟨stop_4, m_6, hl14, h⟩ := bq2_some h
  obtain ⟨fu50, hl15⟩ := loop_iter hl14
  have KX11 : ∀ q9 : Int × Mem, q9 = (stop_4, m_6) → J SHC G rm_X8_link (.inl O) C 0 0 97 [(2, VI q9.1), (0, VR 1), (1, VI without_)] [] (q9.2) := by
    intro q9 e9
    subst e9
    show J SHC G rm_X8_link (.inl O) C 0 0 97 [(2, VI stop_4), (0, VR 1), (1, VI without_)] [] m_6
    refine s_const X (by unfold InR; omega) dX8_link_97 ?_
    obtain ⟨via_, e60, h⟩ := ltv_elim h
    refine s_istore_n X e60 rfl (by omega) dX8_link_98 ?_
    obtain ⟨via_4, m_11, hl70, h⟩ := bq2_some h
    obtain ⟨fu610, hl71⟩ := loop_iter hl70
    have KX67 : ∀ q9 : Int × Mem, q9 = (via_4, m_11) → J SHC G rm_X8_link (.inl O) C 0 0 148 [(2, VI q9.1), (0, VR 1), (1, VI without_)] [] (q9.2) := by
      intro q9 e9
      subst e9
      show J SHC G rm_X8_link (.inl O) C 0 0 148 [(2, VI via_4), (0, VR 1), (1, VI without_)] [] m_11
      exact s_vret X (Nat.le_of_ble_eq_true rfl) (Nat.le_of_ble_eq_true rfl) (by cases h; exact hO) dX8_link_148
    have LP66 : ∀ (fu61 : Nat) (via_2 : Int) (m_7 : Mem), iter (fun s => C_Stops_link_b3 s.1 s.2) fu61 (via_2, m_7) = some (via_4, m_11) → J SHC G rm_X8_link (.inl O) C 0 0 99 [(2, VI via_2), (0, VR 1), (1, VI without_)] [] m_7 := by
      intro fu61
      induction fu61 with
      | zero => intro via_2 m_7 hn62; exact absurd hn62 (by simp [iter])
      | succ fu61 ih65 =>
        intro via_2 m_7 hn62
        obtain ⟨x63, h, hc64⟩ := iter_succ hn62
        replace h : C_Stops_link_b3 via_2 m_7 = some x63 := h
        unfold C_Stops_link_b3 at h
        refine s_iload_n X 0 rfl dX8_link_99 ?_
        refine s_load0 X 1 rfl dX8_link_100 ?_
        refine s_getI X fk_X8_27 SHC_1 rfl dX8_link_101 ?_
        refine s_icmpge_f (tgt := 148) X dX8_link_104 (by omega) (fun c75 => ?_) (fun c76 => ?_)
        · replace h := ite_neg h c75
          exact KX67 _ (iter_exit h hc64)
        · replace h := ite_pos h c76
          refine s_const X (by unfold InR; omega) dX8_link_107 ?_
          obtain ⟨stop_5, e78, h⟩ := ltv_elim h
          refine s_istore_n X e78 rfl (by omega) dX8_link_108 ?_
          obtain ⟨stop_9, m_10, hl88, h⟩ := bq2_some h
          obtain ⟨fu790, hl89⟩ := loop_iter hl88
          have KX85 : ∀ q9 : Int × Mem, q9 = (stop_9, m_10) → J SHC G rm_X8_link (.inl O) C 0 0 142 [(3, VI q9.1), (2, VI via_2), (0, VR 1), (1, VI without_)] [] (q9.2) := by
            intro q9 e9
            subst e9
            show J SHC G rm_X8_link (.inl O) C 0 0 142 [(3, VI stop_9), (2, VI via_2), (0, VR 1), (1, VI without_)] [] m_10
            obtain ⟨g108, h⟩ := grd_some h
            obtain ⟨via_3, e109, h⟩ := ltv_elim h
            refine s_iinc X 1 rfl g108 e109 rfl (by omega) dX8_link_142 ?_
            refine s_goto (tgt := 99) X dX8_link_145 (by omega) ?_
            refine s_loc [0, 2, 3] rfl ?_
            exact ih65 _ _ (iter_next h hc64)
          have LP84 : ∀ (fu79 : Nat) (stop_6 : Int) (m_8 : Mem), iter (fun s => C_Stops_link_b4 via_2 s.1 s.2) fu79 (stop_6, m_8) = some (stop_9, m_10) → J SHC G rm_X8_link (.inl O) C 0 0 109 [(3, VI stop_6), (2, VI via_2), (0, VR 1), (1, VI without_)] [] m_8 := by
            intro fu79
            induction fu79 with
            | zero => intro stop_6 m_8 hn80; exact absurd hn80 (by simp [iter])
            | succ fu79 ih83 =>
              intro stop_6 m_8 hn80
              obtain ⟨x81, h, hc82⟩ := iter_succ hn80
              replace h : C_Stops_link_b4 via_2 stop_6 m_8 = some x81 := h
              unfold C_Stops_link_b4 at h
              refine s_iload_n X 0 rfl dX8_link_109 ?_
              refine s_load0 X 2 rfl dX8_link_110 ?_
              refine s_getI X fk_X8_27 SHC_1 rfl dX8_link_111 ?_
              refine s_icmpge_f (tgt := 142) X dX8_link_114 (by omega) (fun c93 => ?_) (fun c94 => ?_)
              · replace h := ite_neg h c93
                exact KX85 _ (iter_exit h hc82)
              · replace h := ite_pos h c94
                obtain ⟨g95, h⟩ := grd_some h
                refine s_load0 X 2 rfl dX8_link_117 ?_
                refine s_getR (id := 16) X fk_X8_20 SHC_1 rfl dX8_link_118 ?_
                refine s_iload_n X 0 rfl dX8_link_121 ?_
                refine s_aaldI (id := (17 + stop_6.toNat)) X (by omega) (Or.inl rfl) SHC_16 g95.1 g95.2.1 dX8_link_122 ?_
                refine s_iload_n X 1 rfl dX8_link_123 ?_
                refine s_iald X (SHC_r17 g95.1 g95.2.1) g95.2.2.1 g95.2.2.2 dX8_link_124 ?_
                refine s_ldc (z := 1000000) X (by unfold InR; omega) kc_X8_30 dX8_link_125 ?_
                refine s_icmpge_f (tgt := 136) X dX8_link_127 (by omega) (fun c98 => ?_) (fun c99 => ?_)
                · replace h := ite_neg h c98
                  obtain ⟨g100, h⟩ := grd_some h
                  obtain ⟨stop_7, e101, h⟩ := ltv_elim h
                  refine s_iinc X 0 rfl g100 e101 rfl (by omega) dX8_link_136 ?_
                  refine s_goto (tgt := 109) X dX8_link_139 (by omega) ?_
                  exact ih83 _ _ (iter_next h hc82)
                · replace h := ite_pos h c99
                  refine s_load0 X 2 rfl dX8_link_130 ?_
                  refine s_iload_n X 0 rfl dX8_link_131 ?_
                  refine s_iload_n X 1 rfl dX8_link_132 ?_
                  obtain ⟨m_9, hq103, h⟩ := bnd_some h
                  refine s_callV (As := [VI stop_6, VI via_2]) X cw_X8_31 SHC_1 rfl dX8_link_133 (L_C_Stops_linkVia G stop_6 via_2 m_8 m_9 hq103) rfl ⟨Nat.le_of_ble_eq_true rfl, Nat.le_of_ble_eq_true rfl⟩ ⟨Nat.le_of_ble_eq_true rfl, Nat.le_of_ble_eq_true rfl⟩ (Nat.le_of_ble_eq_true rfl) noT (kkU ?_)
                  obtain ⟨g106, h⟩ := grd_some h
                  obtain ⟨stop_8, e107, h⟩ := ltv_elim h
                  refine s_iinc X 0 rfl g106 e107 rfl (by omega) dX8_link_136 ?_
                  refine s_goto (tgt := 109) X dX8_link_139 (by omega) ?_
                  exact ih83 _ _ (iter_next h hc82)
          exact LP84 _ _ _ hl89
    exact LP66 _ _ _ hl71
  have LP10 : ∀ (fu5 : Nat) (stop_2 : Int) (m_2 : Mem), iter (fun s => C_Stops_link_b1 s.1 s.2) fu5 (stop_2, m_2) = some (stop_4, m_6) → J SHC G rm_X8_link (.inl O) C 0 0 7 [(2, VI stop_2), (0, VR 1), (1, VI without_)] [] m_2 := by
    intro fu5
    induction fu5 with
    | zero => intro stop_2 m_2 hn6; exact absurd hn6 (by simp [iter])
    | succ fu5 ih9 =>
      intro stop_2 m_2 hn6
      obtain ⟨x7, h, hc8⟩ := iter_succ hn6
      replace h : C_Stops_link_b1 stop_2 m_2 = some x7 := h
      unfold C_Stops_link_b1 at h
      refine s_iload_n X 0 rfl dX8_link_7 ?_
      refine s_load0 X 1 rfl dX8_link_8 ?_
      refine s_getI X fk_X8_27 SHC_1 rfl dX8_link_9 ?_
      refine s_icmpge_f (tgt := 97) X dX8_link_12 (by omega) (fun c19 => ?_) (fun c20 => ?_)
      · replace h := ite_neg h c19
        exact KX11 _ (iter_exit h hc8)
      · replace h := ite_pos h c20
        refine s_const X (by unfold InR; omega) dX8_link_15 ?_
        obtain ⟨other_, e22, h⟩ := ltv_elim h
        refine s_istore_n X e22 rfl (by omega) dX8_link_16 ?_
        obtain ⟨other_4, m_5, hl32, h⟩ := bq2_some h
        obtain ⟨fu230, hl33⟩ := loop_iter hl32
        have KX29 : ∀ q9 : Int × Mem, q9 = (other_4, m_5) → J SHC G rm_X8_link (.inl O) C 0 0 91 [(3, VI q9.1), (2, VI stop_2), (0, VR 1), (1, VI without_)] [] (q9.2) := by
          intro q9 e9
          subst e9
          show J SHC G rm_X8_link (.inl O) C 0 0 91 [(3, VI other_4), (2, VI stop_2), (0, VR 1), (1, VI without_)] [] m_5
          obtain ⟨g57, h⟩ := grd_some h
          obtain ⟨stop_3, e58, h⟩ := ltv_elim h
          refine s_iinc X 1 rfl g57 e58 rfl (by omega) dX8_link_91 ?_
          refine s_goto (tgt := 7) X dX8_link_94 (by omega) ?_
          refine s_loc [0, 2, 3] rfl ?_
          exact ih9 _ _ (iter_next h hc8)
        have LP28 : ∀ (fu23 : Nat) (other_2 : Int) (m_3 : Mem), iter (fun s => C_Stops_link_b2 stop_2 s.1 s.2) fu23 (other_2, m_3) = some (other_4, m_5) → J SHC G rm_X8_link (.inl O) C 0 0 17 [(3, VI other_2), (2, VI stop_2), (0, VR 1), (1, VI without_)] [] m_3 := by
          intro fu23
          induction fu23 with
          | zero => intro other_2 m_3 hn24; exact absurd hn24 (by simp [iter])
          | succ fu23 ih27 =>
            intro other_2 m_3 hn24
            obtain ⟨x25, h, hc26⟩ := iter_succ hn24
            replace h : C_Stops_link_b2 stop_2 other_2 m_3 = some x25 := h
            unfold C_Stops_link_b2 at h
            refine s_iload_n X 0 rfl dX8_link_17 ?_
            refine s_load0 X 2 rfl dX8_link_18 ?_
            refine s_getI X fk_X8_27 SHC_1 rfl dX8_link_19 ?_
            refine s_icmpge_f (tgt := 91) X dX8_link_22 (by omega) (fun c37 => ?_) (fun c38 => ?_)
            · replace h := ite_neg h c37
              exact KX29 _ (iter_exit h hc26)
            · replace h := ite_pos h c38
              obtain ⟨g39, h⟩ := grd_some h
              have kM40 : J SHC G rm_X8_link (.inl O) C 0 0 57 [(3, VI other_2), (2, VI stop_2), (0, VR 1), (1, VI without_)] [VI (if ((0 < m_3 (4 + stop_2.toNat) other_2.toNat) ∧ (¬ stop_2 = m_3 1 4)) ∧ (¬ other_2 = m_3 1 4) then 1 else 0)] m_3 := by
                obtain ⟨isTold_, e49, h⟩ := ltv_elim h
                refine s_istore X e49 rfl (by omega) dX8_link_57 ?_
                obtain ⟨g50, h⟩ := grd_some h
                refine s_load0 X 3 rfl dX8_link_59 ?_
                refine s_getR (id := 16) X fk_X8_20 SHC_1 rfl dX8_link_60 ?_
                refine s_iload_n X 2 rfl dX8_link_63 ?_
                refine s_aaldI (id := (17 + stop_2.toNat)) X (by omega) (Or.inl rfl) SHC_16 g50.1 g50.2.1 dX8_link_64 ?_
                refine s_iload_n X 1 rfl dX8_link_65 ?_
                have kM51 : J SHC G rm_X8_link (.inl O) C 0 0 84 [(4, VI isTold_), (3, VI other_2), (2, VI stop_2), (0, VR 1), (1, VI without_)] [VI (if ¬ isTold_ = 0 then m_3 (4 + stop_2.toNat) other_2.toNat else 1000000), VI other_2, VR (17 + stop_2.toNat)] m_3 := by
                  obtain ⟨m_4, e54, h⟩ := ltv_elim h
                  refine s_iast X e54 (SHC_r17 g50.1 g50.2.1) g50.2.2.1 g50.2.2.2 dX8_link_84 ?_
                  obtain ⟨g55, h⟩ := grd_some h
                  obtain ⟨other_3, e56, h⟩ := ltv_elim h
                  refine s_iinc X 1 rfl g55 e56 rfl (by omega) dX8_link_85 ?_
                  refine s_goto (tgt := 17) X dX8_link_88 (by omega) ?_
                  refine s_loc [0, 2, 3, 4] rfl ?_
                  exact ih27 _ _ (iter_next h hc26)
                refine s_iload X 0 rfl dX8_link_66 ?_
                refine s_ifeq_f (tgt := 82) X dX8_link_68 (by omega) (fun c52 => ?_) (fun c53 => ?_)
                · refine s_ldc (z := 1000000) X (by unfold InR; omega) kc_X8_30 dX8_link_82 ?_
                  exact s_eqt (if_neg c52) kM51
                · refine s_load0 X 3 rfl dX8_link_71 ?_
                  refine s_getR (id := 3) X fk_X8_17 SHC_1 rfl dX8_link_72 ?_
                  refine s_iload_n X 2 rfl dX8_link_75 ?_
                  refine s_aaldI (id := (4 + stop_2.toNat)) X (by omega) (Or.inl rfl) SHC_3 g50.1 g50.2.1 dX8_link_76 ?_
                  refine s_iload_n X 1 rfl dX8_link_77 ?_
                  refine s_iald X (SHC_r4 g50.1 g50.2.1) g50.2.2.1 g50.2.2.2 dX8_link_78 ?_
                  refine s_goto (tgt := 84) X dX8_link_79 (by omega) ?_
                  exact s_eqt (if_pos c53) kM51
              refine s_load0 X 2 rfl dX8_link_25 ?_
              refine s_getR (id := 3) X fk_X8_17 SHC_1 rfl dX8_link_26 ?_
              refine s_iload_n X 1 rfl dX8_link_29 ?_
              refine s_aaldI (id := (4 + stop_2.toNat)) X (by omega) (Or.inl rfl) SHC_3 g39.1 g39.2.1 dX8_link_30 ?_
              refine s_iload_n X 0 rfl dX8_link_31 ?_
              refine s_iald X (SHC_r4 g39.1 g39.2.1) g39.2.2.1 g39.2.2.2 dX8_link_32 ?_
              refine s_ifle_f (tgt := 56) X dX8_link_33 (by omega) (fun c41 => ?_) (fun c42 => ?_)
              · refine s_const X (by unfold InR; omega) dX8_link_56 ?_
                exact s_eqt (if_neg (fun q => (fun q => c41 q.1) q.1)) kM40
              · have a43 : 0 < m_3 (4 + stop_2.toNat) other_2.toNat := c42
                refine s_iload_n X 1 rfl dX8_link_36 ?_
                refine s_load0 X 2 rfl dX8_link_37 ?_
                refine s_getI X fk_X8_23 SHC_1 rfl dX8_link_38 ?_
                refine s_icmpeq_f (tgt := 56) X dX8_link_41 (by omega) (fun c44 => ?_) (fun c45 => ?_)
                · refine s_const X (by unfold InR; omega) dX8_link_56 ?_
                  exact s_eqt (if_neg (fun q => (fun q => c44 q.2) q.1)) kM40
                · have a46 : (0 < m_3 (4 + stop_2.toNat) other_2.toNat) ∧ (¬ stop_2 = m_3 1 4) := ⟨a43, c45⟩
                  refine s_iload_n X 0 rfl dX8_link_44 ?_
                  refine s_load0 X 2 rfl dX8_link_45 ?_
                  refine s_getI X fk_X8_23 SHC_1 rfl dX8_link_46 ?_
                  refine s_icmpeq_f (tgt := 56) X dX8_link_49 (by omega) (fun c47 => ?_) (fun c48 => ?_)
                  · refine s_const X (by unfold InR; omega) dX8_link_56 ?_
                    exact s_eqt (if_neg (fun q => c47 q.2)) kM40
                  · refine s_const X (by unfold InR; omega) dX8_link_52 ?_
                    refine s_goto (tgt := 57) X dX8_link_53 (by omega) ?_
                    exact s_eqt (if_pos ⟨a46, c48⟩) kM40
        exact LP28 _ _ _ hl33
  exact LP10 _ _ _ hl15
set_option maxRecDepth 20000 in
set_option maxHeartbeats 4000000 in
theorem L_C_needFound (G : Gl) (found_ : Int) (m : Mem) (r : ((Unit ⊕ Nat) × Mem))  (h : C_needFound found_ m = some r) : Con SHC G yX11_needFound cX11_needFound 1 none rm_X11_needFound [VI found_] m (oT wU r) := by
  refine con_of (own := "Lastbus") (by decide) rfl (Nat.le_of_ble_eq_true rfl) (fun C X => ?_)
  obtain ⟨O, hO⟩ : ∃ O : Res × Mem, O = (oT wU r) := ⟨_, rfl⟩
  rw [← hO]
  show J SHC G rm_X11_needFound (.inl O) C 0 0 0 [(0, VI found_)] [] m
  unfold C_needFound at h
  refine s_iload_n X 0 rfl dX11_needFound_0 ?_
  refine s_ldcW (z := 1000000) X (by unfold InR; omega) kc_X11_420 dX11_needFound_1 ?_
  refine s_icmplt_f (tgt := 18) X dX11_needFound_4 (by omega) (fun c4 => ?_) (fun c5 => ?_)
  · replace h := ite_neg h c4
    exact s_vret X (Nat.le_of_ble_eq_true rfl) (Nat.le_of_ble_eq_true rfl) (by cases h; exact hO) dX11_needFound_18
  · replace h := ite_pos h c5
    exact s_throwNW X th_X11_168_446_172 (by cases h; exact hO) (Nat.le_of_ble_eq_true rfl) (Nat.le_of_ble_eq_true rfl) (Nat.le_of_ble_eq_true rfl) (Nat.le_of_ble_eq_true rfl) dX11_needFound_7 dX11_needFound_10 dX11_needFound_11 dX11_needFound_14 dX11_needFound_17
set_option maxRecDepth 20000 in
set_option maxHeartbeats 4000000 in
theorem L_C_Services_add (G : Gl)  (m : Mem) (r : (Int × Mem))  (h : C_Services_add  m = some r) : Con SHC G yX7_add cX7_add 1 (some .int) rm_X7_add [VR 29] m (((.inl (some (VI r.1)), r.2) : Res × Mem)) := by
  refine con_of (own := "Lastbus$Services") (by decide) rfl (Nat.le_of_ble_eq_true rfl) (fun C X => ?_)
  obtain ⟨O, hO⟩ : ∃ O : Res × Mem, O = (((.inl (some (VI r.1)), r.2) : Res × Mem)) := ⟨_, rfl⟩
  rw [← hO]
  show J SHC G rm_X7_add (.inl O) C 0 0 0 [(0, VR 29)] [] m
  unfold C_Services_add at h
  obtain ⟨g1, h⟩ := grd_some h
  refine s_load0 X 0 rfl dX7_add_0 ?_
  refine s_getR (id := 30) X fk_X7_9 SHC_29 rfl dX7_add_1 ?_
  refine s_load0 X 0 rfl dX7_add_4 ?_
  refine s_getI X fk_X7_15 SHC_29 rfl dX7_add_5 ?_
  refine s_const X (by unfold InR; omega) dX7_add_8 ?_
  obtain ⟨m_, e2, h⟩ := ltv_elim h
  refine s_iast X e2 SHC_30 g1.1 g1.2 dX7_add_9 ?_
  obtain ⟨g3, h⟩ := grd_some h
  refine s_load0 X 0 rfl dX7_add_10 ?_
  refine s_dup X rfl dX7_add_11 ?_
  refine s_getI X fk_X7_15 SHC_29 rfl dX7_add_12 ?_
  refine s_const X (by unfold InR; omega) dX7_add_15 ?_
  refine s_iadd X g3 dX7_add_16 ?_
  obtain ⟨m_2, e4, h⟩ := ltv_elim h
  refine s_putI X e4 fp_X7_15 SHC_29 rfl trivial dX7_add_17 ?_
  obtain ⟨g5, h⟩ := grd_some h
  refine s_load0 X 0 rfl dX7_add_20 ?_
  refine s_getI X fk_X7_15 SHC_29 rfl dX7_add_21 ?_
  refine s_const X (by unfold InR; omega) dX7_add_24 ?_
  refine s_isub X g5 dX7_add_25 ?_
  exact s_iret X (Nat.le_of_ble_eq_true rfl) (Nat.le_of_ble_eq_true rfl) (by cases h; exact hO) dX7_add_26
set_option maxRecDepth 20000 in
set_option maxHeartbeats 4000000 in
theorem L_C_service (G : Gl)  (m : Mem) (r : ((Int ⊕ Nat) × Mem))  (h : C_service  m = some r) : Con SHC G yX11_service cX11_service 1 (some .int) rm_X11_service [VR 0] m (oT wI r) := by
  refine con_of (own := "Lastbus") (by decide) rfl (Nat.le_of_ble_eq_true rfl) (fun C X => ?_)
  obtain ⟨O, hO⟩ : ∃ O : Res × Mem, O = (oT wI r) := ⟨_, rfl⟩
  rw [← hO]
  show J SHC G rm_X11_service (.inl O) C 0 0 0 [(0, VR 0)] [] m
  unfold C_service at h
  refine s_load0 X 0 rfl dX11_service_0 ?_
  refine s_getR (id := 29) X fk_X11_19 SHC_0 rfl dX11_service_1 ?_
  refine s_getI X fk_X11_131 SHC_29 rfl dX11_service_4 ?_
  refine s_bipush X (by omega) dX11_service_7 ?_
  refine s_icmplt_f (tgt := 22) X dX11_service_9 (by omega) (fun c4 => ?_) (fun c5 => ?_)
  · replace h := ite_neg h c4
    refine s_load0 X 0 rfl dX11_service_22 ?_
    refine s_getR (id := 29) X fk_X11_19 SHC_0 rfl dX11_service_23 ?_
    obtain ⟨r_, m_, hq7, h⟩ := bq2_some h
    refine s_callV (As := []) X cw_X11_134 SHC_29 rfl dX11_service_26 (L_C_Services_add G m (r_, m_) hq7) rfl ⟨Nat.le_of_ble_eq_true rfl, Nat.le_of_ble_eq_true rfl⟩ ⟨Nat.le_of_ble_eq_true rfl, Nat.le_of_ble_eq_true rfl⟩ (Nat.le_of_ble_eq_true rfl) noT (kkR ?_)
    exact s_iret X (Nat.le_of_ble_eq_true rfl) (Nat.le_of_ble_eq_true rfl) (by cases h; exact hO) dX11_service_29
  · replace h := ite_pos h c5
    exact s_throw X th_X11_96_132_100 (by cases h; exact hO) (Nat.le_of_ble_eq_true rfl) (Nat.le_of_ble_eq_true rfl) (Nat.le_of_ble_eq_true rfl) (Nat.le_of_ble_eq_true rfl) dX11_service_12 dX11_service_15 dX11_service_16 dX11_service_18 dX11_service_21
set_option maxRecDepth 20000 in
set_option maxHeartbeats 4000000 in
theorem L_C_Services_has (G : Gl) (service_ : Int) (m : Mem) (r : Int)  (h : C_Services_has service_ m = some r) : Con SHC G yX7_has cX7_has 2 (some .boolean) rm_X7_has [VR 29, VI service_] m (((.inl (some (VI r)), m) : Res × Mem)) := by
  refine con_of (own := "Lastbus$Services") (by decide) rfl (Nat.le_of_ble_eq_true rfl) (fun C X => ?_)
  obtain ⟨O, hO⟩ : ∃ O : Res × Mem, O = (((.inl (some (VI r)), m) : Res × Mem)) := ⟨_, rfl⟩
  rw [← hO]
  show J SHC G rm_X7_has (.inl O) C 0 0 0 [(0, VR 29), (1, VI service_)] [] m
  unfold C_Services_has at h
  have kM2 : J SHC G rm_X7_has (.inl O) C 0 0 17 [(0, VR 29), (1, VI service_)] [VI (if (0 ≤ service_) ∧ (service_ < m 29 0) then 1 else 0)] m := by
    exact s_zret X okT_ite (Nat.le_of_ble_eq_true rfl) (Nat.le_of_ble_eq_true rfl) (by cases h; exact hO) dX7_has_17
  refine s_iload_n X 1 rfl dX7_has_0 ?_
  refine s_iflt_f (tgt := 16) X dX7_has_1 (by omega) (fun c3 => ?_) (fun c4 => ?_)
  · refine s_const X (by unfold InR; omega) dX7_has_16 ?_
    exact s_eqt (if_neg (fun q => c3 q.1)) kM2
  · have a5 : 0 ≤ service_ := c4
    refine s_iload_n X 1 rfl dX7_has_4 ?_
    refine s_load0 X 0 rfl dX7_has_5 ?_
    refine s_getI X fk_X7_15 SHC_29 rfl dX7_has_6 ?_
    refine s_icmpge_f (tgt := 16) X dX7_has_9 (by omega) (fun c6 => ?_) (fun c7 => ?_)
    · refine s_const X (by unfold InR; omega) dX7_has_16 ?_
      exact s_eqt (if_neg (fun q => c6 q.2)) kM2
    · refine s_const X (by unfold InR; omega) dX7_has_12 ?_
      refine s_goto (tgt := 17) X dX7_has_13 (by omega) ?_
      exact s_eqt (if_pos ⟨a5, c7⟩) kM2
set_option maxRecDepth 20000 in
set_option maxHeartbeats 4000000 in
theorem L_C_needService (G : Gl) (service_ : Int) (m : Mem) (r : ((Unit ⊕ Nat) × Mem))  (h : C_needService service_ m = some r) : Con SHC G yX11_needService cX11_needService 2 none rm_X11_needService [VR 0, VI service_] m (oT wU r) := by
  refine con_of (own := "Lastbus") (by decide) rfl (Nat.le_of_ble_eq_true rfl) (fun C X => ?_)
  obtain ⟨O, hO⟩ : ∃ O : Res × Mem, O = (oT wU r) := ⟨_, rfl⟩
  rw [← hO]
  show J SHC G rm_X11_needService (.inl O) C 0 0 0 [(0, VR 0), (1, VI service_)] [] m
  unfold C_needService at h
  refine s_load0 X 0 rfl dX11_needService_0 ?_
  refine s_getR (id := 29) X fk_X11_19 SHC_0 rfl dX11_needService_1 ?_
  refine s_iload_n X 1 rfl dX11_needService_4 ?_
  obtain ⟨r_, hq2, h⟩ := bnd_some h
  refine s_callV (As := [VI service_]) X cw_X11_456 SHC_29 rfl dX11_needService_5 (L_C_Services_has G service_ m r_ hq2) rfl ⟨Nat.le_of_ble_eq_true rfl, Nat.le_of_ble_eq_true rfl⟩ ⟨Nat.le_of_ble_eq_true rfl, Nat.le_of_ble_eq_true rfl⟩ (Nat.le_of_ble_eq_true rfl) noT (kkR ?_)
  refine s_ifne_t (tgt := 22) X dX11_needService_8 (by omega) (fun c5 => ?_) (fun c6 => ?_)
  · replace h := ite_pos h c5
    exact s_vret X (Nat.le_of_ble_eq_true rfl) (Nat.le_of_ble_eq_true rfl) (by cases h; exact hO) dX11_needService_22
  · replace h := ite_neg h c6
    exact s_throwW X th_X11_451_457_455 (by cases h; exact hO) (Nat.le_of_ble_eq_true rfl) (Nat.le_of_ble_eq_true rfl) (Nat.le_of_ble_eq_true rfl) (Nat.le_of_ble_eq_true rfl) dX11_needService_11 dX11_needService_14 dX11_needService_15 dX11_needService_18 dX11_needService_21
set_option maxRecDepth 20000 in
set_option maxHeartbeats 4000000 in
theorem L_C_needDay (G : Gl) (day_ : Int) (m : Mem) (r : ((Unit ⊕ Nat) × Mem))  (h : C_needDay day_ m = some r) : Con SHC G yX11_needDay cX11_needDay 1 none rm_X11_needDay [VI day_] m (oT wU r) := by
  refine con_of (own := "Lastbus") (by decide) rfl (Nat.le_of_ble_eq_true rfl) (fun C X => ?_)
  obtain ⟨O, hO⟩ : ∃ O : Res × Mem, O = (oT wU r) := ⟨_, rfl⟩
  rw [← hO]
  show J SHC G rm_X11_needDay (.inl O) C 0 0 0 [(0, VI day_)] [] m
  unfold C_needDay at h
  refine s_iload_n X 0 rfl dX11_needDay_0 ?_
  refine s_const X (by unfold InR; omega) dX11_needDay_1 ?_
  refine s_bipush X (by omega) dX11_needDay_2 ?_
  obtain ⟨q3, hq2, h⟩ := bnd_some h
  refine s_callS (As := [VI day_, VI 0, VI 27]) X cw_X11_88 dX11_needDay_4 (L_C_needNumber G day_ 0 27 m q3 hq2) rfl ⟨Nat.le_of_ble_eq_true rfl, Nat.le_of_ble_eq_true rfl⟩ ⟨Nat.le_of_ble_eq_true rfl, Nat.le_of_ble_eq_true rfl⟩ (Nat.le_of_ble_eq_true rfl) (thr_up hO h) (kkT fun u_ m_ e9 => ?_)
  subst e9
  replace h := tbd_inl h
  exact s_vret X (Nat.le_of_ble_eq_true rfl) (Nat.le_of_ble_eq_true rfl) (by cases h; exact hO) dX11_needDay_7
set_option maxRecDepth 20000 in
set_option maxHeartbeats 4000000 in
theorem L_C_Services_put (G : Gl) (service_ : Int) (day_ : Int) (isOn_ : Int) (m : Mem) (r : Mem)  (h : C_Services_put service_ day_ isOn_ m = some r) : Con SHC G yX7_put cX7_put 5 none rm_X7_put [VR 29, VI service_, VI day_, VI isOn_] m (((.inl none, r) : Res × Mem)) := by
  refine con_of (own := "Lastbus$Services") (by decide) rfl (Nat.le_of_ble_eq_true rfl) (fun C X => ?_)
  obtain ⟨O, hO⟩ : ∃ O : Res × Mem, O = (((.inl none, r) : Res × Mem)) := ⟨_, rfl⟩
  rw [← hO]
  show J SHC G rm_X7_put (.inl O) C 0 0 0 [(0, VR 29), (1, VI service_), (2, VI day_), (3, VI isOn_)] [] m
  unfold C_Services_put at h
  refine s_const X (by unfold InR; omega) dX7_put_0 ?_
  refine s_iload_n X 2 rfl dX7_put_1 ?_
  refine s_ishl X dX7_put_2 ?_
  obtain ⟨bit_, e2, h⟩ := ltv_elim h
  refine s_istore X e2 rfl (by omega) dX7_put_3 ?_
  obtain ⟨g3, h⟩ := grd_some h
  refine s_load0 X 1 rfl dX7_put_5 ?_
  refine s_getR (id := 30) X fk_X7_9 SHC_29 rfl dX7_put_6 ?_
  refine s_iload_n X 2 rfl dX7_put_9 ?_
  have kM4 : J SHC G rm_X7_put (.inl O) C 0 0 37 [(4, VI bit_), (0, VR 29), (1, VI service_), (2, VI day_), (3, VI isOn_)] [VI (if ¬ isOn_ = 0 then jior (m 30 service_.toNat) bit_ else jiand (m 30 service_.toNat) (jixor bit_ (-1))), VI service_, VR 30] m := by
    obtain ⟨m_, e7, h⟩ := ltv_elim h
    refine s_iast X e7 SHC_30 g3.1 g3.2 dX7_put_37 ?_
    exact s_vret X (Nat.le_of_ble_eq_true rfl) (Nat.le_of_ble_eq_true rfl) (by cases h; exact hO) dX7_put_38
  refine s_iload_n X 4 rfl dX7_put_10 ?_
  refine s_ifeq_f (tgt := 26) X dX7_put_11 (by omega) (fun c5 => ?_) (fun c6 => ?_)
  · refine s_load0 X 1 rfl dX7_put_26 ?_
    refine s_getR (id := 30) X fk_X7_9 SHC_29 rfl dX7_put_27 ?_
    refine s_iload_n X 2 rfl dX7_put_30 ?_
    refine s_iald X SHC_30 g3.1 g3.2 dX7_put_31 ?_
    refine s_iload X 0 rfl dX7_put_32 ?_
    refine s_const X (by unfold InR; omega) dX7_put_34 ?_
    refine s_ixor X dX7_put_35 ?_
    refine s_iand X dX7_put_36 ?_
    exact s_eqt (if_neg c5) kM4
  · refine s_load0 X 1 rfl dX7_put_14 ?_
    refine s_getR (id := 30) X fk_X7_9 SHC_29 rfl dX7_put_15 ?_
    refine s_iload_n X 2 rfl dX7_put_18 ?_
    refine s_iald X SHC_30 g3.1 g3.2 dX7_put_19 ?_
    refine s_iload X 0 rfl dX7_put_20 ?_
    refine s_ior X dX7_put_22 ?_
    refine s_goto (tgt := 37) X dX7_put_23 (by omega) ?_
    exact s_eqt (if_pos c6) kM4
set_option maxRecDepth 20000 in
set_option maxHeartbeats 4000000 in
theorem L_C_week (G : Gl) (service_ : Int) (days_ : Int) (from_ : Int) (to_ : Int) (m : Mem) (r : ((Int ⊕ Nat) × Mem))  (h : C_week service_ days_ from_ to_ m = some r) : Con SHC G yX11_week cX11_week 6 (some .int) rm_X11_week [VR 0, VI service_, VI days_, VI from_, VI to_] m (oT wI r) := by
  refine con_of (own := "Lastbus") (by decide) rfl (Nat.le_of_ble_eq_true rfl) (fun C X => ?_)
  obtain ⟨O, hO⟩ : ∃ O : Res × Mem, O = (oT wI r) := ⟨_, rfl⟩
  rw [← hO]
  show J SHC G rm_X11_week (.inl O) C 0 0 0 [(0, VR 0), (1, VI service_), (2, VI days_), (3, VI from_), (4, VI to_)] [] m
  unfold C_week at h
  refine s_load0 X 0 rfl dX11_week_0 ?_
  refine s_iload_n X 1 rfl dX11_week_1 ?_
  obtain ⟨q3, hq2, h⟩ := bnd_some h
  refine s_callV (As := [VI service_]) X cw_X11_137 SHC_0 rfl dX11_week_2 (L_C_needService G service_ m q3 hq2) rfl ⟨Nat.le_of_ble_eq_true rfl, Nat.le_of_ble_eq_true rfl⟩ ⟨Nat.le_of_ble_eq_true rfl, Nat.le_of_ble_eq_true rfl⟩ (Nat.le_of_ble_eq_true rfl) (thr_up hO h) (kkT fun u_ m_ e9 => ?_)
  subst e9
  replace h := tbd_inl h
  refine s_iload_n X 2 rfl dX11_week_5 ?_
  refine s_const X (by unfold InR; omega) dX11_week_6 ?_
  refine s_bipush X (by omega) dX11_week_7 ?_
  obtain ⟨q7, hq6, h⟩ := bnd_some h
  refine s_callS (As := [VI days_, VI 0, VI 127]) X cw_X11_88 dX11_week_9 (L_C_needNumber G days_ 0 127 m_ q7 hq6) rfl ⟨Nat.le_of_ble_eq_true rfl, Nat.le_of_ble_eq_true rfl⟩ ⟨Nat.le_of_ble_eq_true rfl, Nat.le_of_ble_eq_true rfl⟩ (Nat.le_of_ble_eq_true rfl) (thr_up hO h) (kkT fun u_2 m_2 e9 => ?_)
  subst e9
  replace h := tbd_inl h
  refine s_iload_n X 3 rfl dX11_week_12 ?_
  obtain ⟨q11, hq10, h⟩ := bnd_some h
  refine s_callS (As := [VI from_]) X cw_X11_140 dX11_week_13 (L_C_needDay G from_ m_2 q11 hq10) rfl ⟨Nat.le_of_ble_eq_true rfl, Nat.le_of_ble_eq_true rfl⟩ ⟨Nat.le_of_ble_eq_true rfl, Nat.le_of_ble_eq_true rfl⟩ (Nat.le_of_ble_eq_true rfl) (thr_up hO h) (kkT fun u_3 m_3 e9 => ?_)
  subst e9
  replace h := tbd_inl h
  refine s_iload X 4 rfl dX11_week_16 ?_
  obtain ⟨q15, hq14, h⟩ := bnd_some h
  refine s_callS (As := [VI to_]) X cw_X11_140 dX11_week_18 (L_C_needDay G to_ m_3 q15 hq14) rfl ⟨Nat.le_of_ble_eq_true rfl, Nat.le_of_ble_eq_true rfl⟩ ⟨Nat.le_of_ble_eq_true rfl, Nat.le_of_ble_eq_true rfl⟩ (Nat.le_of_ble_eq_true rfl) (thr_up hO h) (kkT fun u_4 m_4 e9 => ?_)
  subst e9
  replace h := tbd_inl h
  refine s_iload X 4 rfl dX11_week_21 ?_
  refine s_iload_n X 3 rfl dX11_week_23 ?_
  refine s_icmpge_f (tgt := 37) X dX11_week_24 (by omega) (fun c20 => ?_) (fun c21 => ?_)
  · replace h := ite_neg h c20
    refine s_iload_n X 3 rfl dX11_week_37 ?_
    obtain ⟨day_, e23, h⟩ := ltv_elim h
    refine s_istore X e23 rfl (by omega) dX11_week_38 ?_
    obtain ⟨day_5, m_7, hl33, h⟩ := bq2_some h
    obtain ⟨fu240, hl34⟩ := loop_iter hl33
    have KX30 : ∀ q9 : Int × Mem, q9 = (day_5, m_7) → J SHC G rm_X11_week (.inl O) C 4 24 77 [(5, VI q9.1), (0, VR 0), (1, VI service_), (2, VI days_), (3, VI from_), (4, VI to_)] [] (q9.2) := by
      intro q9 e9
      subst e9
      show J SHC G rm_X11_week (.inl O) C 4 24 77 [(5, VI day_5), (0, VR 0), (1, VI service_), (2, VI days_), (3, VI from_), (4, VI to_)] [] m_7
      obtain ⟨g53, h⟩ := grd_some h
      refine s_load0 X 1 rfl dX11_week_77 ?_
      refine s_getR (id := 29) X fk_X11_19 SHC_0 rfl dX11_week_78 ?_
      refine s_getR (id := 30) X fk_X11_152 SHC_29 rfl dX11_week_81 ?_
      refine s_iload_n X 2 rfl dX11_week_84 ?_
      refine s_iald X SHC_30 g53.1 g53.2 dX11_week_85 ?_
      refine s_callS (As := [VI (m_7 30 service_.toNat)]) X bc_X11_155 dX11_week_86 (L_bits SHC G (m_7 30 service_.toNat) m_7) rfl ⟨Nat.le_of_ble_eq_true rfl, Nat.le_of_ble_eq_true rfl⟩ ⟨Nat.le_of_ble_eq_true rfl, Nat.le_of_ble_eq_true rfl⟩ (Nat.le_of_ble_eq_true rfl) noT (kkR ?_)
      exact s_iret X (Nat.le_of_ble_eq_true rfl) (Nat.le_of_ble_eq_true rfl) (by cases h; exact hO) dX11_week_89
    have LP29 : ∀ (fu24 : Nat) (day_2 : Int) (m_5 : Mem), iter (fun s => C_week_b1 service_ days_ to_ s.1 s.2) fu24 (day_2, m_5) = some (day_5, m_7) → J SHC G rm_X11_week (.inl O) C 4 24 40 [(5, VI day_2), (0, VR 0), (1, VI service_), (2, VI days_), (3, VI from_), (4, VI to_)] [] m_5 := by
      intro fu24
      induction fu24 with
      | zero => intro day_2 m_5 hn25; exact absurd hn25 (by simp [iter])
      | succ fu24 ih28 =>
        intro day_2 m_5 hn25
        obtain ⟨x26, h, hc27⟩ := iter_succ hn25
        replace h : C_week_b1 service_ days_ to_ day_2 m_5 = some x26 := h
        unfold C_week_b1 at h
        refine s_iload X 0 rfl dX11_week_40 ?_
        refine s_iload X 5 rfl dX11_week_42 ?_
        refine s_icmpgt_f (tgt := 77) X dX11_week_44 (by omega) (fun c38 => ?_) (fun c39 => ?_)
        · replace h := ite_neg h c38
          exact KX30 _ (iter_exit h hc27)
        · replace h := ite_pos h c39
          refine s_iload_n X 3 rfl dX11_week_47 ?_
          refine s_iload X 0 rfl dX11_week_48 ?_
          refine s_bipush X (by omega) dX11_week_50 ?_
          refine s_irem X (by omega) dX11_week_52 ?_
          refine s_ishr X dX11_week_53 ?_
          refine s_const X (by unfold InR; omega) dX11_week_54 ?_
          refine s_iand X dX11_week_55 ?_
          refine s_const X (by unfold InR; omega) dX11_week_56 ?_
          refine s_icmpne_f (tgt := 71) X dX11_week_57 (by omega) (fun c43 => ?_) (fun c44 => ?_)
          · replace h := ite_neg h c43
            obtain ⟨g45, h⟩ := grd_some h
            obtain ⟨day_3, e46, h⟩ := ltv_elim h
            refine s_iinc X 0 rfl g45 e46 rfl (by omega) dX11_week_71 ?_
            refine s_goto (tgt := 40) X dX11_week_74 (by omega) ?_
            exact ih28 _ _ (iter_next h hc27)
          · replace h := ite_pos h c44
            refine s_load0 X 1 rfl dX11_week_60 ?_
            refine s_getR (id := 29) X fk_X11_19 SHC_0 rfl dX11_week_61 ?_
            refine s_iload_n X 2 rfl dX11_week_64 ?_
            refine s_iload X 0 rfl dX11_week_65 ?_
            refine s_const X (by unfold InR; omega) dX11_week_67 ?_
            obtain ⟨m_6, hq48, h⟩ := bnd_some h
            refine s_callV (As := [VI service_, VI day_2, VI 1]) X cw_X11_148 SHC_29 rfl dX11_week_68 (L_C_Services_put G service_ day_2 1 m_5 m_6 hq48) rfl ⟨Nat.le_of_ble_eq_true rfl, Nat.le_of_ble_eq_true rfl⟩ ⟨Nat.le_of_ble_eq_true rfl, Nat.le_of_ble_eq_true rfl⟩ (Nat.le_of_ble_eq_true rfl) noT (kkU ?_)
            obtain ⟨g51, h⟩ := grd_some h
            obtain ⟨day_4, e52, h⟩ := ltv_elim h
            refine s_iinc X 0 rfl g51 e52 rfl (by omega) dX11_week_71 ?_
            refine s_goto (tgt := 40) X dX11_week_74 (by omega) ?_
            exact ih28 _ _ (iter_next h hc27)
    exact LP29 _ _ _ hl34
  · replace h := ite_pos h c21
    exact s_throw X th_X11_143_145_147 (by cases h; exact hO) (Nat.le_of_ble_eq_true rfl) (Nat.le_of_ble_eq_true rfl) (Nat.le_of_ble_eq_true rfl) (Nat.le_of_ble_eq_true rfl) dX11_week_27 dX11_week_30 dX11_week_31 dX11_week_33 dX11_week_36
set_option maxRecDepth 20000 in
set_option maxHeartbeats 4000000 in
theorem L_C_Services_isOn (G : Gl) (service_ : Int) (day_ : Int) (m : Mem) (r : Int)  (h : C_Services_isOn service_ day_ m = some r) : Con SHC G yX7_isOn cX7_isOn 3 (some .boolean) rm_X7_isOn [VR 29, VI service_, VI day_] m (((.inl (some (VI r)), m) : Res × Mem)) := by
  refine con_of (own := "Lastbus$Services") (by decide) rfl (Nat.le_of_ble_eq_true rfl) (fun C X => ?_)
  obtain ⟨O, hO⟩ : ∃ O : Res × Mem, O = (((.inl (some (VI r)), m) : Res × Mem)) := ⟨_, rfl⟩
  rw [← hO]
  show J SHC G rm_X7_isOn (.inl O) C 0 0 0 [(0, VR 29), (1, VI service_), (2, VI day_)] [] m
  unfold C_Services_isOn at h
  obtain ⟨g1, h⟩ := grd_some h
  have kM2 : J SHC G rm_X7_isOn (.inl O) C 0 0 29 [(0, VR 29), (1, VI service_), (2, VI day_)] [VI (if ((0 ≤ day_) ∧ (day_ < 28)) ∧ (jiand (jishr (m 30 service_.toNat) day_) 1 = 1) then 1 else 0)] m := by
    exact s_zret X okT_ite (Nat.le_of_ble_eq_true rfl) (Nat.le_of_ble_eq_true rfl) (by cases h; exact hO) dX7_isOn_29
  refine s_iload_n X 2 rfl dX7_isOn_0 ?_
  refine s_iflt_f (tgt := 28) X dX7_isOn_1 (by omega) (fun c3 => ?_) (fun c4 => ?_)
  · refine s_const X (by unfold InR; omega) dX7_isOn_28 ?_
    exact s_eqt (if_neg (fun q => (fun q => c3 q.1) q.1)) kM2
  · have a5 : 0 ≤ day_ := c4
    refine s_iload_n X 2 rfl dX7_isOn_4 ?_
    refine s_bipush X (by omega) dX7_isOn_5 ?_
    refine s_icmpge_f (tgt := 28) X dX7_isOn_7 (by omega) (fun c6 => ?_) (fun c7 => ?_)
    · refine s_const X (by unfold InR; omega) dX7_isOn_28 ?_
      exact s_eqt (if_neg (fun q => (fun q => c6 q.2) q.1)) kM2
    · have a8 : (0 ≤ day_) ∧ (day_ < 28) := ⟨a5, c7⟩
      refine s_load0 X 0 rfl dX7_isOn_10 ?_
      refine s_getR (id := 30) X fk_X7_9 SHC_29 rfl dX7_isOn_11 ?_
      refine s_iload_n X 1 rfl dX7_isOn_14 ?_
      refine s_iald X SHC_30 (g1.1 a8) (g1.2 a8) dX7_isOn_15 ?_
      refine s_iload_n X 2 rfl dX7_isOn_16 ?_
      refine s_ishr X dX7_isOn_17 ?_
      refine s_const X (by unfold InR; omega) dX7_isOn_18 ?_
      refine s_iand X dX7_isOn_19 ?_
      refine s_const X (by unfold InR; omega) dX7_isOn_20 ?_
      refine s_icmpne_f (tgt := 28) X dX7_isOn_21 (by omega) (fun c9 => ?_) (fun c10 => ?_)
      · refine s_const X (by unfold InR; omega) dX7_isOn_28 ?_
        exact s_eqt (if_neg (fun q => c9 q.2)) kM2
      · refine s_const X (by unfold InR; omega) dX7_isOn_24 ?_
        refine s_goto (tgt := 29) X dX7_isOn_25 (by omega) ?_
        exact s_eqt (if_pos ⟨a8, c10⟩) kM2
set_option maxRecDepth 20000 in
set_option maxHeartbeats 4000000 in
theorem L_C_putDay (G : Gl) (service_ : Int) (day_ : Int) (isOn_ : Int) (m : Mem) (r : ((Int ⊕ Nat) × Mem))  (h : C_putDay service_ day_ isOn_ m = some r) : Con SHC G yX11_putDay cX11_putDay 5 (some .boolean) rm_X11_putDay [VR 0, VI service_, VI day_, VI isOn_] m (oT wI r) := by
  refine con_of (own := "Lastbus") (by decide) rfl (Nat.le_of_ble_eq_true rfl) (fun C X => ?_)
  obtain ⟨O, hO⟩ : ∃ O : Res × Mem, O = (oT wI r) := ⟨_, rfl⟩
  rw [← hO]
  show J SHC G rm_X11_putDay (.inl O) C 0 0 0 [(0, VR 0), (1, VI service_), (2, VI day_), (3, VI isOn_)] [] m
  unfold C_putDay at h
  refine s_load0 X 0 rfl dX11_putDay_0 ?_
  refine s_iload_n X 1 rfl dX11_putDay_1 ?_
  obtain ⟨q3, hq2, h⟩ := bnd_some h
  refine s_callV (As := [VI service_]) X cw_X11_137 SHC_0 rfl dX11_putDay_2 (L_C_needService G service_ m q3 hq2) rfl ⟨Nat.le_of_ble_eq_true rfl, Nat.le_of_ble_eq_true rfl⟩ ⟨Nat.le_of_ble_eq_true rfl, Nat.le_of_ble_eq_true rfl⟩ (Nat.le_of_ble_eq_true rfl) (thr_up hO h) (kkT fun u_ m_ e9 => ?_)
  subst e9
  replace h := tbd_inl h
  refine s_iload_n X 2 rfl dX11_putDay_5 ?_
  obtain ⟨q7, hq6, h⟩ := bnd_some h
  refine s_callS (As := [VI day_]) X cw_X11_140 dX11_putDay_6 (L_C_needDay G day_ m_ q7 hq6) rfl ⟨Nat.le_of_ble_eq_true rfl, Nat.le_of_ble_eq_true rfl⟩ ⟨Nat.le_of_ble_eq_true rfl, Nat.le_of_ble_eq_true rfl⟩ (Nat.le_of_ble_eq_true rfl) (thr_up hO h) (kkT fun u_2 m_2 e9 => ?_)
  subst e9
  replace h := tbd_inl h
  refine s_load0 X 0 rfl dX11_putDay_9 ?_
  refine s_getR (id := 29) X fk_X11_19 SHC_0 rfl dX11_putDay_10 ?_
  refine s_iload_n X 1 rfl dX11_putDay_13 ?_
  refine s_iload_n X 2 rfl dX11_putDay_14 ?_
  obtain ⟨r_, hq10, h⟩ := bnd_some h
  refine s_callV (As := [VI service_, VI day_]) X cw_X11_160 SHC_29 rfl dX11_putDay_15 (L_C_Services_isOn G service_ day_ m_2 r_ hq10) rfl ⟨Nat.le_of_ble_eq_true rfl, Nat.le_of_ble_eq_true rfl⟩ ⟨Nat.le_of_ble_eq_true rfl, Nat.le_of_ble_eq_true rfl⟩ (Nat.le_of_ble_eq_true rfl) noT (kkR ?_)
  obtain ⟨ahead_, e13, h⟩ := ltv_elim h
  refine s_istore X e13 rfl (by omega) dX11_putDay_18 ?_
  refine s_load0 X 1 rfl dX11_putDay_20 ?_
  refine s_getR (id := 29) X fk_X11_19 SHC_0 rfl dX11_putDay_21 ?_
  refine s_iload_n X 2 rfl dX11_putDay_24 ?_
  refine s_iload_n X 3 rfl dX11_putDay_25 ?_
  refine s_iload_n X 4 rfl dX11_putDay_26 ?_
  obtain ⟨m_3, hq15, h⟩ := bnd_some h
  refine s_callV (As := [VI service_, VI day_, VI isOn_]) X cw_X11_148 SHC_29 rfl dX11_putDay_27 (L_C_Services_put G service_ day_ isOn_ m_2 m_3 hq15) rfl ⟨Nat.le_of_ble_eq_true rfl, Nat.le_of_ble_eq_true rfl⟩ ⟨Nat.le_of_ble_eq_true rfl, Nat.le_of_ble_eq_true rfl⟩ (Nat.le_of_ble_eq_true rfl) noT (kkU ?_)
  obtain ⟨g18, h⟩ := grd_some h
  refine s_iload X 0 rfl dX11_putDay_30 ?_
  exact s_zret X g18 (Nat.le_of_ble_eq_true rfl) (Nat.le_of_ble_eq_true rfl) (by cases h; exact hO) dX11_putDay_32
set_option maxRecDepth 20000 in
set_option maxHeartbeats 4000000 in
theorem L_C_needRoomForTrip (G : Gl)  (m : Mem) (r : ((Unit ⊕ Nat) × Mem))  (h : C_needRoomForTrip  m = some r) : Con SHC G yX11_needRoomForTrip cX11_needRoomForTrip 1 none rm_X11_needRoomForTrip [VR 0] m (oT wU r) := by
  refine con_of (own := "Lastbus") (by decide) rfl (Nat.le_of_ble_eq_true rfl) (fun C X => ?_)
  obtain ⟨O, hO⟩ : ∃ O : Res × Mem, O = (oT wU r) := ⟨_, rfl⟩
  rw [← hO]
  show J SHC G rm_X11_needRoomForTrip (.inl O) C 0 0 0 [(0, VR 0)] [] m
  unfold C_needRoomForTrip at h
  refine s_load0 X 0 rfl dX11_needRoomForTrip_0 ?_
  refine s_getR (id := 31) X fk_X11_26 SHC_0 rfl dX11_needRoomForTrip_1 ?_
  refine s_getI X fk_X11_203 SHC_31 rfl dX11_needRoomForTrip_4 ?_
  refine s_bipush X (by omega) dX11_needRoomForTrip_7 ?_
  refine s_icmplt_f (tgt := 23) X dX11_needRoomForTrip_9 (by omega) (fun c4 => ?_) (fun c5 => ?_)
  · replace h := ite_neg h c4
    exact s_vret X (Nat.le_of_ble_eq_true rfl) (Nat.le_of_ble_eq_true rfl) (by cases h; exact hO) dX11_needRoomForTrip_23
  · replace h := ite_pos h c5
    exact s_throwW X th_X11_96_470_100 (by cases h; exact hO) (Nat.le_of_ble_eq_true rfl) (Nat.le_of_ble_eq_true rfl) (Nat.le_of_ble_eq_true rfl) (Nat.le_of_ble_eq_true rfl) dX11_needRoomForTrip_12 dX11_needRoomForTrip_15 dX11_needRoomForTrip_16 dX11_needRoomForTrip_19 dX11_needRoomForTrip_22
set_option maxRecDepth 20000 in
set_option maxHeartbeats 4000000 in
theorem L_C_Trips_add (G : Gl) (trip_ : Int) (at_ : Int) (arrival_ : Int) (departure_ : Int) (m : Mem) (r : Mem)  (h : C_Trips_add trip_ at_ arrival_ departure_ m = some r) : Con SHC G yX9_add cX9_add 6 none rm_X9_add [VR 31, VI trip_, VI at_, VI arrival_, VI departure_] m (((.inl none, r) : Res × Mem)) := by
  refine con_of (own := "Lastbus$Trips") (by decide) rfl (Nat.le_of_ble_eq_true rfl) (fun C X => ?_)
  obtain ⟨O, hO⟩ : ∃ O : Res × Mem, O = (((.inl none, r) : Res × Mem)) := ⟨_, rfl⟩
  rw [← hO]
  show J SHC G rm_X9_add (.inl O) C 0 0 0 [(0, VR 31), (1, VI trip_), (2, VI at_), (3, VI arrival_), (4, VI departure_)] [] m
  unfold C_Trips_add at h
  obtain ⟨g1, h⟩ := grd_some h
  refine s_load0 X 0 rfl dX9_add_0 ?_
  refine s_getR (id := 33) X fk_X9_15 SHC_31 rfl dX9_add_1 ?_
  refine s_iload_n X 1 rfl dX9_add_4 ?_
  refine s_iald X SHC_33 g1.1 g1.2 dX9_add_5 ?_
  obtain ⟨call_, e2, h⟩ := ltv_elim h
  refine s_istore X e2 rfl (by omega) dX9_add_6 ?_
  obtain ⟨g3, h⟩ := grd_some h
  refine s_load0 X 1 rfl dX9_add_8 ?_
  refine s_getR (id := 34) X fk_X9_20 SHC_31 rfl dX9_add_9 ?_
  refine s_iload_n X 2 rfl dX9_add_12 ?_
  refine s_aaldI (id := (35 + trip_.toNat)) X (by omega) (Or.inl rfl) SHC_34 g1.1 g1.2 dX9_add_13 ?_
  refine s_iload X 0 rfl dX9_add_14 ?_
  refine s_iload_n X 3 rfl dX9_add_16 ?_
  obtain ⟨m_, e4, h⟩ := ltv_elim h
  refine s_iast X e4 (SHC_r35 g1.1 g1.2) g3.1 g3.2 dX9_add_17 ?_
  refine s_load0 X 1 rfl dX9_add_18 ?_
  refine s_getR (id := 59) X fk_X9_23 SHC_31 rfl dX9_add_19 ?_
  refine s_iload_n X 2 rfl dX9_add_22 ?_
  refine s_aaldI (id := (60 + trip_.toNat)) X (by omega) (Or.inl rfl) SHC_59 g1.1 g1.2 dX9_add_23 ?_
  refine s_iload X 0 rfl dX9_add_24 ?_
  refine s_iload_n X 4 rfl dX9_add_26 ?_
  obtain ⟨m_2, e6, h⟩ := ltv_elim h
  refine s_iast X e6 (SHC_r60 g1.1 g1.2) g3.1 g3.2 dX9_add_27 ?_
  refine s_load0 X 1 rfl dX9_add_28 ?_
  refine s_getR (id := 84) X fk_X9_26 SHC_31 rfl dX9_add_29 ?_
  refine s_iload_n X 2 rfl dX9_add_32 ?_
  refine s_aaldI (id := (85 + trip_.toNat)) X (by omega) (Or.inl rfl) SHC_84 g1.1 g1.2 dX9_add_33 ?_
  refine s_iload X 0 rfl dX9_add_34 ?_
  refine s_iload X 5 rfl dX9_add_36 ?_
  obtain ⟨m_3, e8, h⟩ := ltv_elim h
  refine s_iast X e8 (SHC_r85 g1.1 g1.2) g3.1 g3.2 dX9_add_38 ?_
  obtain ⟨g9, h⟩ := grd_some h
  refine s_load0 X 1 rfl dX9_add_39 ?_
  refine s_getR (id := 33) X fk_X9_15 SHC_31 rfl dX9_add_40 ?_
  refine s_iload_n X 2 rfl dX9_add_43 ?_
  refine s_dup2 X rfl rfl dX9_add_44 ?_
  refine s_iald X SHC_33 g1.1 g1.2 dX9_add_45 ?_
  refine s_const X (by unfold InR; omega) dX9_add_46 ?_
  refine s_iadd X g9 dX9_add_47 ?_
  obtain ⟨m_4, e10, h⟩ := ltv_elim h
  refine s_iast X e10 SHC_33 g1.1 g1.2 dX9_add_48 ?_
  exact s_vret X (Nat.le_of_ble_eq_true rfl) (Nat.le_of_ble_eq_true rfl) (by cases h; exact hO) dX9_add_49
set_option maxRecDepth 20000 in
set_option maxHeartbeats 4000000 in
theorem L_C_Trips_begin (G : Gl) (ofService_ : Int) (at_ : Int) (departure_ : Int) (m : Mem) (r : (Int × Mem))  (h : C_Trips_begin ofService_ at_ departure_ m = some r) : Con SHC G yX9_begin cX9_begin 4 (some .int) rm_X9_begin [VR 31, VI ofService_, VI at_, VI departure_] m (((.inl (some (VI r.1)), r.2) : Res × Mem)) := by
  refine con_of (own := "Lastbus$Trips") (by decide) rfl (Nat.le_of_ble_eq_true rfl) (fun C X => ?_)
  obtain ⟨O, hO⟩ : ∃ O : Res × Mem, O = (((.inl (some (VI r.1)), r.2) : Res × Mem)) := ⟨_, rfl⟩
  rw [← hO]
  show J SHC G rm_X9_begin (.inl O) C 0 0 0 [(0, VR 31), (1, VI ofService_), (2, VI at_), (3, VI departure_)] [] m
  unfold C_Trips_begin at h
  obtain ⟨g1, h⟩ := grd_some h
  refine s_load0 X 0 rfl dX9_begin_0 ?_
  refine s_getR (id := 32) X fk_X9_9 SHC_31 rfl dX9_begin_1 ?_
  refine s_load0 X 0 rfl dX9_begin_4 ?_
  refine s_getI X fk_X9_29 SHC_31 rfl dX9_begin_5 ?_
  refine s_iload_n X 1 rfl dX9_begin_8 ?_
  obtain ⟨m_, e2, h⟩ := ltv_elim h
  refine s_iast X e2 SHC_32 g1.1 g1.2 dX9_begin_9 ?_
  obtain ⟨g3, h⟩ := grd_some h
  refine s_load0 X 0 rfl dX9_begin_10 ?_
  refine s_getR (id := 33) X fk_X9_15 SHC_31 rfl dX9_begin_11 ?_
  refine s_load0 X 0 rfl dX9_begin_14 ?_
  refine s_getI X fk_X9_29 SHC_31 rfl dX9_begin_15 ?_
  refine s_const X (by unfold InR; omega) dX9_begin_18 ?_
  obtain ⟨m_2, e4, h⟩ := ltv_elim h
  refine s_iast X e4 SHC_33 g3.1 g3.2 dX9_begin_19 ?_
  refine s_load0 X 0 rfl dX9_begin_20 ?_
  refine s_load0 X 0 rfl dX9_begin_21 ?_
  refine s_getI X fk_X9_29 SHC_31 rfl dX9_begin_22 ?_
  refine s_iload_n X 2 rfl dX9_begin_25 ?_
  refine s_iload_n X 3 rfl dX9_begin_26 ?_
  refine s_iload_n X 3 rfl dX9_begin_27 ?_
  obtain ⟨m_3, hq6, h⟩ := bnd_some h
  refine s_callV (As := [VI (m_2 31 0), VI at_, VI departure_, VI departure_]) X cw_X9_33 SHC_31 rfl dX9_begin_28 (L_C_Trips_add G (m_2 31 0) at_ departure_ departure_ m_2 m_3 hq6) rfl ⟨Nat.le_of_ble_eq_true rfl, Nat.le_of_ble_eq_true rfl⟩ ⟨Nat.le_of_ble_eq_true rfl, Nat.le_of_ble_eq_true rfl⟩ (Nat.le_of_ble_eq_true rfl) noT (kkU ?_)
  obtain ⟨g9, h⟩ := grd_some h
  refine s_load0 X 0 rfl dX9_begin_31 ?_
  refine s_dup X rfl dX9_begin_32 ?_
  refine s_getI X fk_X9_29 SHC_31 rfl dX9_begin_33 ?_
  refine s_const X (by unfold InR; omega) dX9_begin_36 ?_
  refine s_iadd X g9 dX9_begin_37 ?_
  obtain ⟨m_4, e10, h⟩ := ltv_elim h
  refine s_putI X e10 fp_X9_29 SHC_31 rfl trivial dX9_begin_38 ?_
  obtain ⟨g11, h⟩ := grd_some h
  refine s_load0 X 0 rfl dX9_begin_41 ?_
  refine s_getI X fk_X9_29 SHC_31 rfl dX9_begin_42 ?_
  refine s_const X (by unfold InR; omega) dX9_begin_45 ?_
  refine s_isub X g11 dX9_begin_46 ?_
  exact s_iret X (Nat.le_of_ble_eq_true rfl) (Nat.le_of_ble_eq_true rfl) (by cases h; exact hO) dX9_begin_47
set_option maxRecDepth 20000 in
set_option maxHeartbeats 4000000 in
theorem L_C_trip (G : Gl) (service_ : Int) (stop_ : Int) (departure_ : Int) (m : Mem) (r : ((Int ⊕ Nat) × Mem))  (h : C_trip service_ stop_ departure_ m = some r) : Con SHC G yX11_trip cX11_trip 4 (some .int) rm_X11_trip [VR 0, VI service_, VI stop_, VI departure_] m (oT wI r) := by
  refine con_of (own := "Lastbus") (by decide) rfl (Nat.le_of_ble_eq_true rfl) (fun C X => ?_)
  obtain ⟨O, hO⟩ : ∃ O : Res × Mem, O = (oT wI r) := ⟨_, rfl⟩
  rw [← hO]
  show J SHC G rm_X11_trip (.inl O) C 0 0 0 [(0, VR 0), (1, VI service_), (2, VI stop_), (3, VI departure_)] [] m
  unfold C_trip at h
  refine s_load0 X 0 rfl dX11_trip_0 ?_
  refine s_iload_n X 1 rfl dX11_trip_1 ?_
  obtain ⟨q3, hq2, h⟩ := bnd_some h
  refine s_callV (As := [VI service_]) X cw_X11_137 SHC_0 rfl dX11_trip_2 (L_C_needService G service_ m q3 hq2) rfl ⟨Nat.le_of_ble_eq_true rfl, Nat.le_of_ble_eq_true rfl⟩ ⟨Nat.le_of_ble_eq_true rfl, Nat.le_of_ble_eq_true rfl⟩ (Nat.le_of_ble_eq_true rfl) (thr_up hO h) (kkT fun u_ m_ e9 => ?_)
  subst e9
  replace h := tbd_inl h
  refine s_load0 X 0 rfl dX11_trip_5 ?_
  refine s_iload_n X 2 rfl dX11_trip_6 ?_
  obtain ⟨q7, hq6, h⟩ := bnd_some h
  refine s_callV (As := [VI stop_]) X cw_X11_107 SHC_0 rfl dX11_trip_7 (L_C_needStop G stop_ m_ q7 hq6) rfl ⟨Nat.le_of_ble_eq_true rfl, Nat.le_of_ble_eq_true rfl⟩ ⟨Nat.le_of_ble_eq_true rfl, Nat.le_of_ble_eq_true rfl⟩ (Nat.le_of_ble_eq_true rfl) (thr_up hO h) (kkT fun u_2 m_2 e9 => ?_)
  subst e9
  replace h := tbd_inl h
  refine s_iload_n X 3 rfl dX11_trip_10 ?_
  refine s_const X (by unfold InR; omega) dX11_trip_11 ?_
  refine s_sipush X (by omega) dX11_trip_12 ?_
  obtain ⟨q11, hq10, h⟩ := bnd_some h
  refine s_callS (As := [VI departure_, VI 0, VI 2879]) X cw_X11_88 dX11_trip_15 (L_C_needNumber G departure_ 0 2879 m_2 q11 hq10) rfl ⟨Nat.le_of_ble_eq_true rfl, Nat.le_of_ble_eq_true rfl⟩ ⟨Nat.le_of_ble_eq_true rfl, Nat.le_of_ble_eq_true rfl⟩ (Nat.le_of_ble_eq_true rfl) (thr_up hO h) (kkT fun u_3 m_3 e9 => ?_)
  subst e9
  replace h := tbd_inl h
  refine s_load0 X 0 rfl dX11_trip_18 ?_
  obtain ⟨q15, hq14, h⟩ := bnd_some h
  refine s_callV (As := []) X cw_X11_173 SHC_0 rfl dX11_trip_19 (L_C_needRoomForTrip G m_3 q15 hq14) rfl ⟨Nat.le_of_ble_eq_true rfl, Nat.le_of_ble_eq_true rfl⟩ ⟨Nat.le_of_ble_eq_true rfl, Nat.le_of_ble_eq_true rfl⟩ (Nat.le_of_ble_eq_true rfl) (thr_up hO h) (kkT fun u_4 m_4 e9 => ?_)
  subst e9
  replace h := tbd_inl h
  refine s_load0 X 0 rfl dX11_trip_22 ?_
  refine s_getR (id := 31) X fk_X11_26 SHC_0 rfl dX11_trip_23 ?_
  refine s_iload_n X 1 rfl dX11_trip_26 ?_
  refine s_iload_n X 2 rfl dX11_trip_27 ?_
  refine s_iload_n X 3 rfl dX11_trip_28 ?_
  obtain ⟨r_, m_5, hq18, h⟩ := bq2_some h
  refine s_callV (As := [VI service_, VI stop_, VI departure_]) X cw_X11_176 SHC_31 rfl dX11_trip_29 (L_C_Trips_begin G service_ stop_ departure_ m_4 (r_, m_5) hq18) rfl ⟨Nat.le_of_ble_eq_true rfl, Nat.le_of_ble_eq_true rfl⟩ ⟨Nat.le_of_ble_eq_true rfl, Nat.le_of_ble_eq_true rfl⟩ (Nat.le_of_ble_eq_true rfl) noT (kkR ?_)
  exact s_iret X (Nat.le_of_ble_eq_true rfl) (Nat.le_of_ble_eq_true rfl) (by cases h; exact hO) dX11_trip_32
set_option maxRecDepth 20000 in
set_option maxHeartbeats 4000000 in
theorem L_C_Trips_has (G : Gl) (trip_ : Int) (m : Mem) (r : Int)  (h : C_Trips_has trip_ m = some r) : Con SHC G yX9_has cX9_has 2 (some .boolean) rm_X9_has [VR 31, VI trip_] m (((.inl (some (VI r)), m) : Res × Mem)) := by
  refine con_of (own := "Lastbus$Trips") (by decide) rfl (Nat.le_of_ble_eq_true rfl) (fun C X => ?_)
  obtain ⟨O, hO⟩ : ∃ O : Res × Mem, O = (((.inl (some (VI r)), m) : Res × Mem)) := ⟨_, rfl⟩
  rw [← hO]
  show J SHC G rm_X9_has (.inl O) C 0 0 0 [(0, VR 31), (1, VI trip_)] [] m
  unfold C_Trips_has at h
  have kM2 : J SHC G rm_X9_has (.inl O) C 0 0 17 [(0, VR 31), (1, VI trip_)] [VI (if (0 ≤ trip_) ∧ (trip_ < m 31 0) then 1 else 0)] m := by
    exact s_zret X okT_ite (Nat.le_of_ble_eq_true rfl) (Nat.le_of_ble_eq_true rfl) (by cases h; exact hO) dX9_has_17
  refine s_iload_n X 1 rfl dX9_has_0 ?_
  refine s_iflt_f (tgt := 16) X dX9_has_1 (by omega) (fun c3 => ?_) (fun c4 => ?_)
  · refine s_const X (by unfold InR; omega) dX9_has_16 ?_
    exact s_eqt (if_neg (fun q => c3 q.1)) kM2
  · have a5 : 0 ≤ trip_ := c4
    refine s_iload_n X 1 rfl dX9_has_4 ?_
    refine s_load0 X 0 rfl dX9_has_5 ?_
    refine s_getI X fk_X9_29 SHC_31 rfl dX9_has_6 ?_
    refine s_icmpge_f (tgt := 16) X dX9_has_9 (by omega) (fun c6 => ?_) (fun c7 => ?_)
    · refine s_const X (by unfold InR; omega) dX9_has_16 ?_
      exact s_eqt (if_neg (fun q => c6 q.2)) kM2
    · refine s_const X (by unfold InR; omega) dX9_has_12 ?_
      refine s_goto (tgt := 17) X dX9_has_13 (by omega) ?_
      exact s_eqt (if_pos ⟨a5, c7⟩) kM2
set_option maxRecDepth 20000 in
set_option maxHeartbeats 4000000 in
theorem L_C_needTrip (G : Gl) (trip_ : Int) (m : Mem) (r : ((Unit ⊕ Nat) × Mem))  (h : C_needTrip trip_ m = some r) : Con SHC G yX11_needTrip cX11_needTrip 2 none rm_X11_needTrip [VR 0, VI trip_] m (oT wU r) := by
  refine con_of (own := "Lastbus") (by decide) rfl (Nat.le_of_ble_eq_true rfl) (fun C X => ?_)
  obtain ⟨O, hO⟩ : ∃ O : Res × Mem, O = (oT wU r) := ⟨_, rfl⟩
  rw [← hO]
  show J SHC G rm_X11_needTrip (.inl O) C 0 0 0 [(0, VR 0), (1, VI trip_)] [] m
  unfold C_needTrip at h
  refine s_load0 X 0 rfl dX11_needTrip_0 ?_
  refine s_getR (id := 31) X fk_X11_26 SHC_0 rfl dX11_needTrip_1 ?_
  refine s_iload_n X 1 rfl dX11_needTrip_4 ?_
  obtain ⟨r_, hq2, h⟩ := bnd_some h
  refine s_callV (As := [VI trip_]) X cw_X11_459 SHC_31 rfl dX11_needTrip_5 (L_C_Trips_has G trip_ m r_ hq2) rfl ⟨Nat.le_of_ble_eq_true rfl, Nat.le_of_ble_eq_true rfl⟩ ⟨Nat.le_of_ble_eq_true rfl, Nat.le_of_ble_eq_true rfl⟩ (Nat.le_of_ble_eq_true rfl) noT (kkR ?_)
  refine s_ifne_t (tgt := 22) X dX11_needTrip_8 (by omega) (fun c5 => ?_) (fun c6 => ?_)
  · replace h := ite_pos h c5
    exact s_vret X (Nat.le_of_ble_eq_true rfl) (Nat.le_of_ble_eq_true rfl) (by cases h; exact hO) dX11_needTrip_22
  · replace h := ite_neg h c6
    exact s_throwW X th_X11_451_460_455 (by cases h; exact hO) (Nat.le_of_ble_eq_true rfl) (Nat.le_of_ble_eq_true rfl) (Nat.le_of_ble_eq_true rfl) (Nat.le_of_ble_eq_true rfl) dX11_needTrip_11 dX11_needTrip_14 dX11_needTrip_15 dX11_needTrip_18 dX11_needTrip_21
set_option maxRecDepth 20000 in
set_option maxHeartbeats 4000000 in
theorem L_C_goesOn (G : Gl) (ahead_ : Int) (arrival_ : Int) (departure_ : Int) (m : Mem) : Con SHC G yX11_goesOn cX11_goesOn 3 (some .boolean) rm_X11_goesOn [VI ahead_, VI arrival_, VI departure_] m ((.inl (some (VI (C_goesOn ahead_ arrival_ departure_))), m) : Res × Mem) := by
  refine con_of (own := "Lastbus") (by decide) rfl (Nat.le_of_ble_eq_true rfl) (fun C X => ?_)
  obtain ⟨O, hO⟩ : ∃ O : Res × Mem, O = ((.inl (some (VI (C_goesOn ahead_ arrival_ departure_))), m) : Res × Mem) := ⟨_, rfl⟩
  rw [← hO]
  show J SHC G rm_X11_goesOn (.inl O) C 0 0 0 [(0, VI ahead_), (1, VI arrival_), (2, VI departure_)] [] m
  have kM2 : J SHC G rm_X11_goesOn (.inl O) C 0 0 22 [(0, VI ahead_), (1, VI arrival_), (2, VI departure_)] [VI (if ((ahead_ < arrival_) ∧ (arrival_ ≤ departure_)) ∧ (departure_ < 2880) then 1 else 0)] m := by
    exact s_zret X okT_ite (Nat.le_of_ble_eq_true rfl) (Nat.le_of_ble_eq_true rfl) (by rw [hO]; rfl) dX11_goesOn_22
  refine s_iload_n X 1 rfl dX11_goesOn_0 ?_
  refine s_iload_n X 0 rfl dX11_goesOn_1 ?_
  refine s_icmple_f (tgt := 21) X dX11_goesOn_2 (by omega) (fun c3 => ?_) (fun c4 => ?_)
  · refine s_const X (by unfold InR; omega) dX11_goesOn_21 ?_
    exact s_eqt (if_neg (fun q => (fun q => c3 q.1) q.1)) kM2
  · have a5 : ahead_ < arrival_ := c4
    refine s_iload_n X 2 rfl dX11_goesOn_5 ?_
    refine s_iload_n X 1 rfl dX11_goesOn_6 ?_
    refine s_icmplt_f (tgt := 21) X dX11_goesOn_7 (by omega) (fun c6 => ?_) (fun c7 => ?_)
    · refine s_const X (by unfold InR; omega) dX11_goesOn_21 ?_
      exact s_eqt (if_neg (fun q => (fun q => c6 q.2) q.1)) kM2
    · have a8 : (ahead_ < arrival_) ∧ (arrival_ ≤ departure_) := ⟨a5, c7⟩
      refine s_iload_n X 2 rfl dX11_goesOn_10 ?_
      refine s_sipush X (by omega) dX11_goesOn_11 ?_
      refine s_icmpge_f (tgt := 21) X dX11_goesOn_14 (by omega) (fun c9 => ?_) (fun c10 => ?_)
      · refine s_const X (by unfold InR; omega) dX11_goesOn_21 ?_
        exact s_eqt (if_neg (fun q => c9 q.2)) kM2
      · refine s_const X (by unfold InR; omega) dX11_goesOn_17 ?_
        refine s_goto (tgt := 22) X dX11_goesOn_18 (by omega) ?_
        exact s_eqt (if_pos ⟨a8, c10⟩) kM2
set_option maxRecDepth 20000 in
set_option maxHeartbeats 4000000 in
theorem L_C_call (G : Gl) (trip_ : Int) (stop_ : Int) (arrival_ : Int) (departure_ : Int) (m : Mem) (r : ((Int ⊕ Nat) × Mem))  (h : C_call trip_ stop_ arrival_ departure_ m = some r) : Con SHC G yX11_call cX11_call 6 (some .int) rm_X11_call [VR 0, VI trip_, VI stop_, VI arrival_, VI departure_] m (oT wI r) := by
  refine con_of (own := "Lastbus") (by decide) rfl (Nat.le_of_ble_eq_true rfl) (fun C X => ?_)
  obtain ⟨O, hO⟩ : ∃ O : Res × Mem, O = (oT wI r) := ⟨_, rfl⟩
  rw [← hO]
  show J SHC G rm_X11_call (.inl O) C 0 0 0 [(0, VR 0), (1, VI trip_), (2, VI stop_), (3, VI arrival_), (4, VI departure_)] [] m
  unfold C_call at h
  refine s_load0 X 0 rfl dX11_call_0 ?_
  refine s_iload_n X 1 rfl dX11_call_1 ?_
  obtain ⟨q3, hq2, h⟩ := bnd_some h
  refine s_callV (As := [VI trip_]) X cw_X11_180 SHC_0 rfl dX11_call_2 (L_C_needTrip G trip_ m q3 hq2) rfl ⟨Nat.le_of_ble_eq_true rfl, Nat.le_of_ble_eq_true rfl⟩ ⟨Nat.le_of_ble_eq_true rfl, Nat.le_of_ble_eq_true rfl⟩ (Nat.le_of_ble_eq_true rfl) (thr_up hO h) (kkT fun u_ m_ e9 => ?_)
  subst e9
  replace h := tbd_inl h
  refine s_load0 X 0 rfl dX11_call_5 ?_
  refine s_iload_n X 2 rfl dX11_call_6 ?_
  obtain ⟨q7, hq6, h⟩ := bnd_some h
  refine s_callV (As := [VI stop_]) X cw_X11_107 SHC_0 rfl dX11_call_7 (L_C_needStop G stop_ m_ q7 hq6) rfl ⟨Nat.le_of_ble_eq_true rfl, Nat.le_of_ble_eq_true rfl⟩ ⟨Nat.le_of_ble_eq_true rfl, Nat.le_of_ble_eq_true rfl⟩ (Nat.le_of_ble_eq_true rfl) (thr_up hO h) (kkT fun u_2 m_2 e9 => ?_)
  subst e9
  replace h := tbd_inl h
  obtain ⟨g9, h⟩ := grd_some h
  refine s_load0 X 0 rfl dX11_call_10 ?_
  refine s_getR (id := 31) X fk_X11_26 SHC_0 rfl dX11_call_11 ?_
  refine s_getR (id := 33) X fk_X11_183 SHC_31 rfl dX11_call_14 ?_
  refine s_iload_n X 1 rfl dX11_call_17 ?_
  refine s_iald X SHC_33 g9.1 g9.2.1 dX11_call_18 ?_
  refine s_const X (by unfold InR; omega) dX11_call_19 ?_
  refine s_isub X g9.2.2 dX11_call_20 ?_
  obtain ⟨ahead_, e10, h⟩ := ltv_elim h
  refine s_istore X e10 rfl (by omega) dX11_call_21 ?_
  obtain ⟨g11, h⟩ := grd_some h
  refine s_load0 X 1 rfl dX11_call_23 ?_
  refine s_getR (id := 31) X fk_X11_26 SHC_0 rfl dX11_call_24 ?_
  refine s_getR (id := 84) X fk_X11_186 SHC_31 rfl dX11_call_27 ?_
  refine s_iload_n X 2 rfl dX11_call_30 ?_
  refine s_aaldI (id := (85 + trip_.toNat)) X (by omega) (Or.inl rfl) SHC_84 g9.1 g9.2.1 dX11_call_31 ?_
  refine s_iload X 0 rfl dX11_call_32 ?_
  refine s_iald X (SHC_r85 g9.1 g9.2.1) g11.1 g11.2 dX11_call_34 ?_
  refine s_iload_n X 4 rfl dX11_call_35 ?_
  refine s_iload X 5 rfl dX11_call_36 ?_
  refine s_callS (As := [VI (m_2 (85 + trip_.toNat) ahead_.toNat), VI arrival_, VI departure_]) X cw_X11_189 dX11_call_38 (L_C_goesOn G (m_2 (85 + trip_.toNat) ahead_.toNat) arrival_ departure_ m_2) rfl ⟨Nat.le_of_ble_eq_true rfl, Nat.le_of_ble_eq_true rfl⟩ ⟨Nat.le_of_ble_eq_true rfl, Nat.le_of_ble_eq_true rfl⟩ (Nat.le_of_ble_eq_true rfl) noT (kkR ?_)
  refine s_ifne_f (tgt := 54) X dX11_call_41 (by omega) (fun c14 => ?_) (fun c15 => ?_)
  · replace h := ite_neg h c14
    refine s_iload_n X 3 rfl dX11_call_54 ?_
    refine s_load0 X 1 rfl dX11_call_55 ?_
    refine s_getR (id := 31) X fk_X11_26 SHC_0 rfl dX11_call_56 ?_
    refine s_getR (id := 34) X fk_X11_195 SHC_31 rfl dX11_call_59 ?_
    refine s_iload_n X 2 rfl dX11_call_62 ?_
    refine s_aaldI (id := (35 + trip_.toNat)) X (by omega) (Or.inl rfl) SHC_34 g9.1 g9.2.1 dX11_call_63 ?_
    refine s_iload X 0 rfl dX11_call_64 ?_
    refine s_iald X (SHC_r35 g9.1 g9.2.1) g11.1 g11.2 dX11_call_66 ?_
    obtain ⟨q18, hq17, h⟩ := bnd_some h
    refine s_callS (As := [VI stop_, VI (m_2 (35 + trip_.toNat) ahead_.toNat)]) X cw_X11_115 dX11_call_67 (L_C_needUnlike G stop_ (m_2 (35 + trip_.toNat) ahead_.toNat) m_2 q18 hq17) rfl ⟨Nat.le_of_ble_eq_true rfl, Nat.le_of_ble_eq_true rfl⟩ ⟨Nat.le_of_ble_eq_true rfl, Nat.le_of_ble_eq_true rfl⟩ (Nat.le_of_ble_eq_true rfl) (thr_up hO h) (kkT fun u_3 m_3 e9 => ?_)
    subst e9
    replace h := tbd_inl h
    refine s_load0 X 1 rfl dX11_call_70 ?_
    refine s_getR (id := 31) X fk_X11_26 SHC_0 rfl dX11_call_71 ?_
    refine s_getR (id := 33) X fk_X11_183 SHC_31 rfl dX11_call_74 ?_
    refine s_iload_n X 2 rfl dX11_call_77 ?_
    refine s_iald X SHC_33 g9.1 g9.2.1 dX11_call_78 ?_
    refine s_bipush X (by omega) dX11_call_79 ?_
    refine s_icmplt_f (tgt := 94) X dX11_call_81 (by omega) (fun c23 => ?_) (fun c24 => ?_)
    · replace h := ite_neg h c23
      refine s_load0 X 1 rfl dX11_call_94 ?_
      refine s_getR (id := 31) X fk_X11_26 SHC_0 rfl dX11_call_95 ?_
      refine s_iload_n X 2 rfl dX11_call_98 ?_
      refine s_iload_n X 3 rfl dX11_call_99 ?_
      refine s_iload_n X 4 rfl dX11_call_100 ?_
      refine s_iload X 5 rfl dX11_call_101 ?_
      obtain ⟨m_4, hq26, h⟩ := bnd_some h
      refine s_callV (As := [VI trip_, VI stop_, VI arrival_, VI departure_]) X cw_X11_200 SHC_31 rfl dX11_call_103 (L_C_Trips_add G trip_ stop_ arrival_ departure_ m_3 m_4 hq26) rfl ⟨Nat.le_of_ble_eq_true rfl, Nat.le_of_ble_eq_true rfl⟩ ⟨Nat.le_of_ble_eq_true rfl, Nat.le_of_ble_eq_true rfl⟩ (Nat.le_of_ble_eq_true rfl) noT (kkU ?_)
      refine s_load0 X 1 rfl dX11_call_106 ?_
      refine s_getR (id := 31) X fk_X11_26 SHC_0 rfl dX11_call_107 ?_
      refine s_getR (id := 33) X fk_X11_183 SHC_31 rfl dX11_call_110 ?_
      refine s_iload_n X 2 rfl dX11_call_113 ?_
      refine s_iald X SHC_33 g9.1 g9.2.1 dX11_call_114 ?_
      exact s_iret X (Nat.le_of_ble_eq_true rfl) (Nat.le_of_ble_eq_true rfl) (by cases h; exact hO) dX11_call_115
    · replace h := ite_pos h c24
      exact s_throw X th_X11_96_198_100 (by cases h; exact hO) (Nat.le_of_ble_eq_true rfl) (Nat.le_of_ble_eq_true rfl) (Nat.le_of_ble_eq_true rfl) (Nat.le_of_ble_eq_true rfl) dX11_call_84 dX11_call_87 dX11_call_88 dX11_call_90 dX11_call_93
  · replace h := ite_pos h c15
    exact s_throw X th_X11_143_193_147 (by cases h; exact hO) (Nat.le_of_ble_eq_true rfl) (Nat.le_of_ble_eq_true rfl) (Nat.le_of_ble_eq_true rfl) (Nat.le_of_ble_eq_true rfl) dX11_call_44 dX11_call_47 dX11_call_48 dX11_call_50 dX11_call_53
set_option maxRecDepth 20000 in
set_option maxHeartbeats 4000000 in
theorem L_C_Delays_find (G : Gl) (onDay_ : Int) (ofTrip_ : Int) (m : Mem) (r : Int)  (h : C_Delays_find onDay_ ofTrip_ m = some r) : Con SHC G yX0_find cX0_find 4 (some .int) rm_X0_find [VR 109, VI onDay_, VI ofTrip_] m (((.inl (some (VI r)), m) : Res × Mem)) := by
  refine con_of (own := "Lastbus$Delays") (by decide) rfl (Nat.le_of_ble_eq_true rfl) (fun C X => ?_)
  obtain ⟨O, hO⟩ : ∃ O : Res × Mem, O = (((.inl (some (VI r)), m) : Res × Mem)) := ⟨_, rfl⟩
  rw [← hO]
  show J SHC G rm_X0_find (.inl O) C 0 0 0 [(0, VR 109), (1, VI onDay_), (2, VI ofTrip_)] [] m
  unfold C_Delays_find at h
  refine s_const X (by unfold InR; omega) dX0_find_0 ?_
  obtain ⟨entry_, e2, h⟩ := ltv_elim h
  refine s_istore_n X e2 rfl (by omega) dX0_find_1 ?_
  obtain ⟨s10, hl12, h⟩ := br1_some h
  obtain ⟨fu30, hl13⟩ := loop_iter hl12
  have KR11 : ∀ q9 : Int, .inr q9 = s10 → O = ((.inl (some (VI q9)), m) : Res × Mem) := by
    intro q9 e9
    subst e9
    replace h := brm1_inr h
    exact (by cases h; exact hO)
  have KX9 : ∀ q9 : Int, .inl q9 = s10 → J SHC G rm_X0_find (.inl O) C 0 0 38 [(3, VI q9), (0, VR 109), (1, VI onDay_), (2, VI ofTrip_)] [] m := by
    intro q9 e9
    subst e9
    replace h := brm1_inl h
    obtain ⟨entry_4, e8⟩ : ∃ z, z = q9 := ⟨_, rfl⟩
    subst e8
    show J SHC G rm_X0_find (.inl O) C 0 0 38 [(3, VI entry_4), (0, VR 109), (1, VI onDay_), (2, VI ofTrip_)] [] m
    refine s_const X (by unfold InR; omega) dX0_find_38 ?_
    exact s_iret X (Nat.le_of_ble_eq_true rfl) (Nat.le_of_ble_eq_true rfl) (by cases h; exact hO) dX0_find_39
  have LP8 : ∀ (fu3 : Nat) (entry_2 : Int), iter (fun s => C_Delays_find_b1 onDay_ ofTrip_ m s) fu3 entry_2 = some s10 → J SHC G rm_X0_find (.inl O) C 0 0 2 [(3, VI entry_2), (0, VR 109), (1, VI onDay_), (2, VI ofTrip_)] [] m := by
    intro fu3
    induction fu3 with
    | zero => intro entry_2 hn4; exact absurd hn4 (by simp [iter])
    | succ fu3 ih7 =>
      intro entry_2 hn4
      obtain ⟨x5, h, hc6⟩ := iter_succ hn4
      replace h : C_Delays_find_b1 onDay_ ofTrip_ m entry_2 = some x5 := h
      unfold C_Delays_find_b1 at h
      refine s_iload_n X 0 rfl dX0_find_2 ?_
      refine s_load0 X 1 rfl dX0_find_3 ?_
      refine s_getI X fk_X0_24 SHC_109 rfl dX0_find_4 ?_
      refine s_icmpge_f (tgt := 38) X dX0_find_7 (by omega) (fun c17 => ?_) (fun c18 => ?_)
      · replace h := ite_neg h c17
        exact KX9 _ (iter_exit h hc6)
      · replace h := ite_pos h c18
        obtain ⟨g19, h⟩ := grd_some h
        have kF21 : ¬ ((m 110 entry_2.toNat = onDay_) ∧ (m 111 entry_2.toNat = ofTrip_)) → J SHC G rm_X0_find (.inl O) C 0 0 32 [(3, VI entry_2), (0, VR 109), (1, VI onDay_), (2, VI ofTrip_)] [] m := by
          intro c26
          replace h := ite_neg h c26
          obtain ⟨g24, h⟩ := grd_some h
          obtain ⟨entry_3, e25, h⟩ := ltv_elim h
          refine s_iinc X 0 rfl g24 e25 rfl (by omega) dX0_find_32 ?_
          refine s_goto (tgt := 2) X dX0_find_35 (by omega) ?_
          exact ih7 _ (iter_next h hc6)
        refine s_load0 X 1 rfl dX0_find_10 ?_
        refine s_getR (id := 110) X fk_X0_9 SHC_109 rfl dX0_find_11 ?_
        refine s_iload_n X 0 rfl dX0_find_14 ?_
        refine s_iald X SHC_110 g19.1 g19.2 dX0_find_15 ?_
        refine s_iload_n X 2 rfl dX0_find_16 ?_
        refine s_icmpne_f (tgt := 32) X dX0_find_17 (by omega) (fun c22 => ?_) (fun c23 => ?_)
        · exact kF21 (fun q => c22 q.1)
        · have a27 : m 110 entry_2.toNat = onDay_ := c23
          refine s_load0 X 1 rfl dX0_find_20 ?_
          refine s_getR (id := 111) X fk_X0_15 SHC_109 rfl dX0_find_21 ?_
          refine s_iload_n X 0 rfl dX0_find_24 ?_
          refine s_iald X SHC_111 g19.1 g19.2 dX0_find_25 ?_
          refine s_iload_n X 3 rfl dX0_find_26 ?_
          refine s_icmpne_f (tgt := 32) X dX0_find_27 (by omega) (fun c28 => ?_) (fun c29 => ?_)
          · exact kF21 (fun q => c28 q.2)
          · replace h := ite_pos h ⟨a27, c29⟩
            refine s_iload_n X 0 rfl dX0_find_30 ?_
            exact s_iret X (Nat.le_of_ble_eq_true rfl) (Nat.le_of_ble_eq_true rfl) (KR11 _ (iter_exit h hc6)) dX0_find_31
  exact LP8 _ _ hl13
set_option maxRecDepth 20000 in
set_option maxHeartbeats 4000000 in
theorem L_C_Delays_at (G : Gl) (entry_ : Int) (ofCall_ : Int) (m : Mem) (r : Int)  (h : C_Delays_at entry_ ofCall_ m = some r) : Con SHC G yX0_at cX0_at 3 (some .int) rm_X0_at [VR 109, VI entry_, VI ofCall_] m (((.inl (some (VI r)), m) : Res × Mem)) := by
  refine con_of (own := "Lastbus$Delays") (by decide) rfl (Nat.le_of_ble_eq_true rfl) (fun C X => ?_)
  obtain ⟨O, hO⟩ : ∃ O : Res × Mem, O = (((.inl (some (VI r)), m) : Res × Mem)) := ⟨_, rfl⟩
  rw [← hO]
  show J SHC G rm_X0_at (.inl O) C 0 0 0 [(0, VR 109), (1, VI entry_), (2, VI ofCall_)] [] m
  unfold C_Delays_at at h
  obtain ⟨g1, h⟩ := grd_some h
  have kM2 : J SHC G rm_X0_at (.inl O) C 0 0 25 [(0, VR 109), (1, VI entry_), (2, VI ofCall_)] [VI (if (entry_ = (-1)) ∨ (ofCall_ < m 112 entry_.toNat) then 0 else m 113 entry_.toNat)] m := by
    exact s_iret X (Nat.le_of_ble_eq_true rfl) (Nat.le_of_ble_eq_true rfl) (by cases h; exact hO) dX0_at_25
  refine s_iload_n X 1 rfl dX0_at_0 ?_
  refine s_const X (by unfold InR; omega) dX0_at_1 ?_
  refine s_icmpeq_t (tgt := 15) X dX0_at_2 (by omega) (fun c3 => ?_) (fun c4 => ?_)
  · refine s_const X (by unfold InR; omega) dX0_at_15 ?_
    refine s_goto (tgt := 25) X dX0_at_16 (by omega) ?_
    exact s_eqt (if_pos (Or.inl c3)) kM2
  · have a5 : ¬ (entry_ = (-1)) := c4
    refine s_iload_n X 2 rfl dX0_at_5 ?_
    refine s_load0 X 0 rfl dX0_at_6 ?_
    refine s_getR (id := 112) X fk_X0_18 SHC_109 rfl dX0_at_7 ?_
    refine s_iload_n X 1 rfl dX0_at_10 ?_
    refine s_iald X SHC_112 (g1.1 a5) (g1.2.1 a5) dX0_at_11 ?_
    refine s_icmpge_f (tgt := 19) X dX0_at_12 (by omega) (fun c6 => ?_) (fun c7 => ?_)
    · refine s_load0 X 0 rfl dX0_at_19 ?_
      refine s_getR (id := 113) X fk_X0_21 SHC_109 rfl dX0_at_20 ?_
      refine s_iload_n X 1 rfl dX0_at_23 ?_
      refine s_iald X SHC_113 (g1.2.2.1 (fun q => q.elim a5 c6)) (g1.2.2.2 (fun q => q.elim a5 c6)) dX0_at_24 ?_
      exact s_eqt (if_neg (fun q => q.elim a5 c6)) kM2
    · refine s_const X (by unfold InR; omega) dX0_at_15 ?_
      refine s_goto (tgt := 25) X dX0_at_16 (by omega) ?_
      exact s_eqt (if_pos (Or.inr c7)) kM2
set_option maxRecDepth 20000 in
set_option maxHeartbeats 4000000 in
theorem L_C_needWay (G : Gl) (from_ : Int) (to_ : Int) (day_ : Int) (minute_ : Int) (m : Mem) (r : ((Unit ⊕ Nat) × Mem))  (h : C_needWay from_ to_ day_ minute_ m = some r) : Con SHC G yX11_needWay cX11_needWay 5 none rm_X11_needWay [VR 0, VI from_, VI to_, VI day_, VI minute_] m (oT wU r) := by
  refine con_of (own := "Lastbus") (by decide) rfl (Nat.le_of_ble_eq_true rfl) (fun C X => ?_)
  obtain ⟨O, hO⟩ : ∃ O : Res × Mem, O = (oT wU r) := ⟨_, rfl⟩
  rw [← hO]
  show J SHC G rm_X11_needWay (.inl O) C 0 0 0 [(0, VR 0), (1, VI from_), (2, VI to_), (3, VI day_), (4, VI minute_)] [] m
  unfold C_needWay at h
  refine s_load0 X 0 rfl dX11_needWay_0 ?_
  refine s_iload_n X 1 rfl dX11_needWay_1 ?_
  obtain ⟨q3, hq2, h⟩ := bnd_some h
  refine s_callV (As := [VI from_]) X cw_X11_107 SHC_0 rfl dX11_needWay_2 (L_C_needStop G from_ m q3 hq2) rfl ⟨Nat.le_of_ble_eq_true rfl, Nat.le_of_ble_eq_true rfl⟩ ⟨Nat.le_of_ble_eq_true rfl, Nat.le_of_ble_eq_true rfl⟩ (Nat.le_of_ble_eq_true rfl) (thr_up hO h) (kkT fun u_ m_ e9 => ?_)
  subst e9
  replace h := tbd_inl h
  refine s_load0 X 0 rfl dX11_needWay_5 ?_
  refine s_iload_n X 2 rfl dX11_needWay_6 ?_
  obtain ⟨q7, hq6, h⟩ := bnd_some h
  refine s_callV (As := [VI to_]) X cw_X11_107 SHC_0 rfl dX11_needWay_7 (L_C_needStop G to_ m_ q7 hq6) rfl ⟨Nat.le_of_ble_eq_true rfl, Nat.le_of_ble_eq_true rfl⟩ ⟨Nat.le_of_ble_eq_true rfl, Nat.le_of_ble_eq_true rfl⟩ (Nat.le_of_ble_eq_true rfl) (thr_up hO h) (kkT fun u_2 m_2 e9 => ?_)
  subst e9
  replace h := tbd_inl h
  refine s_iload_n X 3 rfl dX11_needWay_10 ?_
  obtain ⟨q11, hq10, h⟩ := bnd_some h
  refine s_callS (As := [VI day_]) X cw_X11_140 dX11_needWay_11 (L_C_needDay G day_ m_2 q11 hq10) rfl ⟨Nat.le_of_ble_eq_true rfl, Nat.le_of_ble_eq_true rfl⟩ ⟨Nat.le_of_ble_eq_true rfl, Nat.le_of_ble_eq_true rfl⟩ (Nat.le_of_ble_eq_true rfl) (thr_up hO h) (kkT fun u_3 m_3 e9 => ?_)
  subst e9
  replace h := tbd_inl h
  refine s_iload X 4 rfl dX11_needWay_14 ?_
  refine s_const X (by unfold InR; omega) dX11_needWay_16 ?_
  refine s_sipush X (by omega) dX11_needWay_17 ?_
  obtain ⟨q15, hq14, h⟩ := bnd_some h
  refine s_callS (As := [VI minute_, VI 0, VI 1439]) X cw_X11_88 dX11_needWay_20 (L_C_needNumber G minute_ 0 1439 m_3 q15 hq14) rfl ⟨Nat.le_of_ble_eq_true rfl, Nat.le_of_ble_eq_true rfl⟩ ⟨Nat.le_of_ble_eq_true rfl, Nat.le_of_ble_eq_true rfl⟩ (Nat.le_of_ble_eq_true rfl) (thr_up hO h) (kkT fun u_4 m_4 e9 => ?_)
  subst e9
  replace h := tbd_inl h
  exact s_vret X (Nat.le_of_ble_eq_true rfl) (Nat.le_of_ble_eq_true rfl) (by cases h; exact hO) dX11_needWay_23
set_option maxRecDepth 20000 in
set_option maxHeartbeats 4000000 in
theorem L_C_Net_addHop (G : Gl) (run_ : Int) (call_ : Int) (m : Mem) (r : Mem)  (h : C_Net_addHop run_ call_ m = some r) : Con SHC G yX3_addHop cX3_addHop 4 none rm_X3_addHop [VR 119, VI run_, VI call_] m (((.inl none, r) : Res × Mem)) := by
  refine con_of (own := "Lastbus$Net") (by decide) rfl (Nat.le_of_ble_eq_true rfl) (fun C X => ?_)
  obtain ⟨O, hO⟩ : ∃ O : Res × Mem, O = (((.inl none, r) : Res × Mem)) := ⟨_, rfl⟩
  rw [← hO]
  show J SHC G rm_X3_addHop (.inl O) C 0 0 0 [(0, VR 119), (1, VI run_), (2, VI call_)] [] m
  unfold C_Net_addHop at h
  obtain ⟨g1, h⟩ := grd_some h
  refine s_load0 X 0 rfl dX3_addHop_0 ?_
  refine s_getR (id := 269) X fk_X3_29 SHC_119 rfl dX3_addHop_1 ?_
  refine s_iload_n X 1 rfl dX3_addHop_4 ?_
  refine s_aaldI (id := (270 + run_.toNat)) X (by omega) (Or.inl rfl) SHC_269 g1.1 g1.2.1 dX3_addHop_5 ?_
  refine s_iload_n X 2 rfl dX3_addHop_6 ?_
  refine s_iald X (SHC_r270 g1.1 g1.2.1) g1.2.2.1 g1.2.2.2 dX3_addHop_7 ?_
  refine s_ifge_f (tgt := 12) X dX3_addHop_8 (by omega) (fun c4 => ?_) (fun c5 => ?_)
  · replace h := ite_neg h c4
    obtain ⟨g6, h⟩ := grd_some h
    refine s_iload_n X 1 rfl dX3_addHop_12 ?_
    refine s_bipush X (by omega) dX3_addHop_13 ?_
    refine s_imul X g6.1 dX3_addHop_15 ?_
    refine s_iload_n X 2 rfl dX3_addHop_16 ?_
    refine s_iadd X g6.2 dX3_addHop_17 ?_
    obtain ⟨hop_, e7, h⟩ := ltv_elim h
    refine s_istore_n X e7 rfl (by omega) dX3_addHop_18 ?_
    obtain ⟨g8, h⟩ := grd_some h
    refine s_load0 X 1 rfl dX3_addHop_19 ?_
    refine s_getR (id := 342) X fk_X3_32 SHC_119 rfl dX3_addHop_20 ?_
    refine s_load0 X 1 rfl dX3_addHop_23 ?_
    refine s_getI X fk_X3_67 SHC_119 rfl dX3_addHop_24 ?_
    refine s_load0 X 1 rfl dX3_addHop_27 ?_
    refine s_getR (id := 269) X fk_X3_29 SHC_119 rfl dX3_addHop_28 ?_
    refine s_iload_n X 2 rfl dX3_addHop_31 ?_
    refine s_aaldI (id := (270 + run_.toNat)) X (by omega) (Or.inl rfl) SHC_269 g1.1 g1.2.1 dX3_addHop_32 ?_
    refine s_iload_n X 3 rfl dX3_addHop_33 ?_
    refine s_iald X (SHC_r270 g1.1 g1.2.1) g1.2.2.1 g1.2.2.2 dX3_addHop_34 ?_
    refine s_sipush X (by omega) dX3_addHop_35 ?_
    refine s_imul X g8.2.2.1 dX3_addHop_38 ?_
    refine s_iload_n X 0 rfl dX3_addHop_39 ?_
    refine s_iadd X g8.2.2.2 dX3_addHop_40 ?_
    obtain ⟨m_, e9, h⟩ := ltv_elim h
    refine s_iast X e9 SHC_342 g8.1 g8.2.1 dX3_addHop_41 ?_
    obtain ⟨g10, h⟩ := grd_some h
    refine s_load0 X 1 rfl dX3_addHop_42 ?_
    refine s_getR (id := 343) X fk_X3_35 SHC_119 rfl dX3_addHop_43 ?_
    refine s_load0 X 1 rfl dX3_addHop_46 ?_
    refine s_getI X fk_X3_67 SHC_119 rfl dX3_addHop_47 ?_
    refine s_load0 X 1 rfl dX3_addHop_50 ?_
    refine s_getR (id := 196) X fk_X3_26 SHC_119 rfl dX3_addHop_51 ?_
    refine s_iload_n X 2 rfl dX3_addHop_54 ?_
    refine s_aaldI (id := (197 + run_.toNat)) X (by omega) (Or.inl rfl) SHC_196 g1.1 g1.2.1 dX3_addHop_55 ?_
    refine s_iload_n X 3 rfl dX3_addHop_56 ?_
    refine s_const X (by unfold InR; omega) dX3_addHop_57 ?_
    refine s_iadd X g10.2.2.1 dX3_addHop_58 ?_
    refine s_iald X (SHC_r197 g1.1 g1.2.1) g10.2.2.2.1 g10.2.2.2.2.1 dX3_addHop_59 ?_
    refine s_sipush X (by omega) dX3_addHop_60 ?_
    refine s_imul X g10.2.2.2.2.2.1 dX3_addHop_63 ?_
    refine s_iload_n X 0 rfl dX3_addHop_64 ?_
    refine s_iadd X g10.2.2.2.2.2.2 dX3_addHop_65 ?_
    obtain ⟨m_2, e11, h⟩ := ltv_elim h
    refine s_iast X e11 SHC_343 g10.1 g10.2.1 dX3_addHop_66 ?_
    obtain ⟨g12, h⟩ := grd_some h
    refine s_load0 X 1 rfl dX3_addHop_67 ?_
    refine s_dup X rfl dX3_addHop_68 ?_
    refine s_getI X fk_X3_67 SHC_119 rfl dX3_addHop_69 ?_
    refine s_const X (by unfold InR; omega) dX3_addHop_72 ?_
    refine s_iadd X g12 dX3_addHop_73 ?_
    obtain ⟨m_3, e13, h⟩ := ltv_elim h
    refine s_putI X e13 fp_X3_67 SHC_119 rfl trivial dX3_addHop_74 ?_
    exact s_vret X (Nat.le_of_ble_eq_true rfl) (Nat.le_of_ble_eq_true rfl) (by cases h; exact hO) dX3_addHop_77
  · replace h := ite_pos h c5
    exact s_vret X (Nat.le_of_ble_eq_true rfl) (Nat.le_of_ble_eq_true rfl) (by cases h; exact hO) dX3_addHop_11
set_option maxRecDepth 20000 in
set_option maxHeartbeats 4000000 in
theorem L_C_Net_addRun (G : Gl) (trip_ : Int) (ahead_ : Int) (delay_ : Int) (moved_ : Int) (m : Mem) (r : Mem)  (h : C_Net_addRun trip_ ahead_ delay_ moved_ m = some r) : Con SHC G yX3_addRun cX3_addRun 7 none rm_X3_addRun [VR 119, VI trip_, VI ahead_, VI delay_, VI moved_] m (((.inl none, r) : Res × Mem)) := by
  refine con_of (own := "Lastbus$Net") (by decide) rfl (Nat.le_of_ble_eq_true rfl) (fun C X => ?_)
  obtain ⟨O, hO⟩ : ∃ O : Res × Mem, O = (((.inl none, r) : Res × Mem)) := ⟨_, rfl⟩
  rw [← hO]
  show J SHC G rm_X3_addRun (.inl O) C 0 0 0 [(0, VR 119), (1, VI trip_), (2, VI ahead_), (3, VI delay_), (4, VI moved_)] [] m
  unfold C_Net_addRun at h
  refine s_load0 X 0 rfl dX3_addRun_0 ?_
  refine s_getI X fk_X3_63 SHC_119 rfl dX3_addRun_1 ?_
  obtain ⟨run_, e2, h⟩ := ltv_elim h
  refine s_istore X e2 rfl (by omega) dX3_addRun_4 ?_
  obtain ⟨g3, h⟩ := grd_some h
  refine s_load0 X 1 rfl dX3_addRun_6 ?_
  refine s_dup X rfl dX3_addRun_7 ?_
  refine s_getI X fk_X3_63 SHC_119 rfl dX3_addRun_8 ?_
  refine s_const X (by unfold InR; omega) dX3_addRun_11 ?_
  refine s_iadd X g3 dX3_addRun_12 ?_
  obtain ⟨m_, e4, h⟩ := ltv_elim h
  refine s_putI X e4 fp_X3_63 SHC_119 rfl trivial dX3_addRun_13 ?_
  obtain ⟨g5, h⟩ := grd_some h
  refine s_load0 X 1 rfl dX3_addRun_16 ?_
  refine s_getR (id := 120) X fk_X3_9 SHC_119 rfl dX3_addRun_17 ?_
  refine s_iload X 0 rfl dX3_addRun_20 ?_
  refine s_iload_n X 2 rfl dX3_addRun_22 ?_
  obtain ⟨m_2, e6, h⟩ := ltv_elim h
  refine s_iast X e6 SHC_120 g5.1 g5.2 dX3_addRun_23 ?_
  refine s_load0 X 1 rfl dX3_addRun_24 ?_
  refine s_getR (id := 121) X fk_X3_15 SHC_119 rfl dX3_addRun_25 ?_
  refine s_iload X 0 rfl dX3_addRun_28 ?_
  refine s_iload_n X 3 rfl dX3_addRun_30 ?_
  obtain ⟨m_3, e8, h⟩ := ltv_elim h
  refine s_iast X e8 SHC_121 g5.1 g5.2 dX3_addRun_31 ?_
  obtain ⟨g9, h⟩ := grd_some h
  refine s_load0 X 1 rfl dX3_addRun_32 ?_
  refine s_getR (id := 122) X fk_X3_18 SHC_119 rfl dX3_addRun_33 ?_
  refine s_iload X 0 rfl dX3_addRun_36 ?_
  refine s_load0 X 1 rfl dX3_addRun_38 ?_
  refine s_getR (id := 31) X fk_X3_49 SHC_119 rfl dX3_addRun_39 ?_
  refine s_getR (id := 33) X fk_X3_98 SHC_31 rfl dX3_addRun_42 ?_
  refine s_iload_n X 2 rfl dX3_addRun_45 ?_
  refine s_iald X SHC_33 g9.1 g9.2 dX3_addRun_46 ?_
  obtain ⟨m_4, e10, h⟩ := ltv_elim h
  refine s_iast X e10 SHC_122 g5.1 g5.2 dX3_addRun_47 ?_
  refine s_const X (by unfold InR; omega) dX3_addRun_48 ?_
  obtain ⟨call_, e12, h⟩ := ltv_elim h
  refine s_istore X e12 rfl (by omega) dX3_addRun_49 ?_
  obtain ⟨call_5, m_10, hl22, h⟩ := bq2_some h
  obtain ⟨fu130, hl23⟩ := loop_iter hl22
  have KX19 : ∀ q9 : Int × Mem, q9 = (call_5, m_10) → J SHC G rm_X3_addRun (.inl O) C 0 0 180 [(6, VI q9.1), (5, VI run_), (0, VR 119), (1, VI trip_), (2, VI ahead_), (3, VI delay_), (4, VI moved_)] [] (q9.2) := by
    intro q9 e9
    subst e9
    show J SHC G rm_X3_addRun (.inl O) C 0 0 180 [(6, VI call_5), (5, VI run_), (0, VR 119), (1, VI trip_), (2, VI ahead_), (3, VI delay_), (4, VI moved_)] [] m_10
    exact s_vret X (Nat.le_of_ble_eq_true rfl) (Nat.le_of_ble_eq_true rfl) (by cases h; exact hO) dX3_addRun_180
  have LP18 : ∀ (fu13 : Nat) (call_2 : Int) (m_5 : Mem), iter (fun s => C_Net_addRun_b1 trip_ delay_ moved_ run_ s.1 s.2) fu13 (call_2, m_5) = some (call_5, m_10) → J SHC G rm_X3_addRun (.inl O) C 0 0 51 [(6, VI call_2), (5, VI run_), (0, VR 119), (1, VI trip_), (2, VI ahead_), (3, VI delay_), (4, VI moved_)] [] m_5 := by
    intro fu13
    induction fu13 with
    | zero => intro call_2 m_5 hn14; exact absurd hn14 (by simp [iter])
    | succ fu13 ih17 =>
      intro call_2 m_5 hn14
      obtain ⟨x15, h, hc16⟩ := iter_succ hn14
      replace h : C_Net_addRun_b1 trip_ delay_ moved_ run_ call_2 m_5 = some x15 := h
      unfold C_Net_addRun_b1 at h
      obtain ⟨g24, h⟩ := grd_some h
      refine s_iload X 0 rfl dX3_addRun_51 ?_
      refine s_load0 X 2 rfl dX3_addRun_53 ?_
      refine s_getR (id := 122) X fk_X3_18 SHC_119 rfl dX3_addRun_54 ?_
      refine s_iload X 1 rfl dX3_addRun_57 ?_
      refine s_iald X SHC_122 g24.1 g24.2 dX3_addRun_59 ?_
      refine s_icmpge_f (tgt := 180) X dX3_addRun_60 (by omega) (fun c27 => ?_) (fun c28 => ?_)
      · replace h := ite_neg h c27
        exact KX19 _ (iter_exit h hc16)
      · replace h := ite_pos h c28
        obtain ⟨g29, h⟩ := grd_some h
        refine s_load0 X 2 rfl dX3_addRun_63 ?_
        refine s_getR (id := 123) X fk_X3_23 SHC_119 rfl dX3_addRun_64 ?_
        refine s_iload X 1 rfl dX3_addRun_67 ?_
        refine s_aaldI (id := (124 + run_.toNat)) X (by omega) (Or.inl rfl) SHC_123 g24.1 g24.2 dX3_addRun_69 ?_
        refine s_iload X 0 rfl dX3_addRun_70 ?_
        refine s_load0 X 2 rfl dX3_addRun_72 ?_
        refine s_getR (id := 31) X fk_X3_49 SHC_119 rfl dX3_addRun_73 ?_
        refine s_getR (id := 34) X fk_X3_99 SHC_31 rfl dX3_addRun_76 ?_
        refine s_iload_n X 3 rfl dX3_addRun_79 ?_
        refine s_aaldI (id := (35 + trip_.toNat)) X (by omega) (Or.inl rfl) SHC_34 g29.2.2.1 g29.2.2.2 dX3_addRun_80 ?_
        refine s_iload X 0 rfl dX3_addRun_81 ?_
        refine s_iald X (SHC_r35 g29.2.2.1 g29.2.2.2) g29.1 g29.2.1 dX3_addRun_83 ?_
        obtain ⟨m_6, e30, h⟩ := ltv_elim h
        refine s_iast X e30 (SHC_r124 g24.1 g24.2) g29.1 g29.2.1 dX3_addRun_84 ?_
        obtain ⟨g31, h⟩ := grd_some h
        refine s_load0 X 2 rfl dX3_addRun_85 ?_
        refine s_getR (id := 196) X fk_X3_26 SHC_119 rfl dX3_addRun_86 ?_
        refine s_iload X 1 rfl dX3_addRun_89 ?_
        refine s_aaldI (id := (197 + run_.toNat)) X (by omega) (Or.inl rfl) SHC_196 g24.1 g24.2 dX3_addRun_91 ?_
        refine s_iload X 0 rfl dX3_addRun_92 ?_
        refine s_load0 X 2 rfl dX3_addRun_94 ?_
        refine s_getR (id := 31) X fk_X3_49 SHC_119 rfl dX3_addRun_95 ?_
        refine s_getR (id := 59) X fk_X3_100 SHC_31 rfl dX3_addRun_98 ?_
        refine s_iload_n X 3 rfl dX3_addRun_101 ?_
        refine s_aaldI (id := (60 + trip_.toNat)) X (by omega) (Or.inl rfl) SHC_59 g29.2.2.1 g29.2.2.2 dX3_addRun_102 ?_
        refine s_iload X 0 rfl dX3_addRun_103 ?_
        refine s_iald X (SHC_r60 g29.2.2.1 g29.2.2.2) g29.1 g29.2.1 dX3_addRun_105 ?_
        refine s_iload X 6 rfl dX3_addRun_106 ?_
        refine s_iadd X g31.1 dX3_addRun_108 ?_
        refine s_load0 X 2 rfl dX3_addRun_109 ?_
        refine s_getR (id := 109) X fk_X3_53 SHC_119 rfl dX3_addRun_110 ?_
        refine s_iload_n X 5 rfl dX3_addRun_113 ?_
        refine s_iload X 0 rfl dX3_addRun_114 ?_
        refine s_const X (by unfold InR; omega) dX3_addRun_116 ?_
        refine s_isub X g31.2 dX3_addRun_117 ?_
        obtain ⟨r_, hq32, h⟩ := bnd_some h
        refine s_callV (As := [VI delay_, VI (call_2 - 1)]) X cw_X3_101 SHC_109 rfl dX3_addRun_118 (L_C_Delays_at G delay_ (call_2 - 1) m_6 r_ hq32) rfl ⟨Nat.le_of_ble_eq_true rfl, Nat.le_of_ble_eq_true rfl⟩ ⟨Nat.le_of_ble_eq_true rfl, Nat.le_of_ble_eq_true rfl⟩ (Nat.le_of_ble_eq_true rfl) noT (kkR ?_)
        obtain ⟨g34, h⟩ := grd_some h
        refine s_iadd X g34 dX3_addRun_121 ?_
        obtain ⟨m_7, e35, h⟩ := ltv_elim h
        refine s_iast X e35 (SHC_r197 g24.1 g24.2) g29.1 g29.2.1 dX3_addRun_122 ?_
        obtain ⟨g36, h⟩ := grd_some h
        refine s_load0 X 2 rfl dX3_addRun_123 ?_
        refine s_getR (id := 269) X fk_X3_29 SHC_119 rfl dX3_addRun_124 ?_
        refine s_iload X 1 rfl dX3_addRun_127 ?_
        refine s_aaldI (id := (270 + run_.toNat)) X (by omega) (Or.inl rfl) SHC_269 g24.1 g24.2 dX3_addRun_129 ?_
        refine s_iload X 0 rfl dX3_addRun_130 ?_
        refine s_load0 X 2 rfl dX3_addRun_132 ?_
        refine s_getR (id := 31) X fk_X3_49 SHC_119 rfl dX3_addRun_133 ?_
        refine s_getR (id := 84) X fk_X3_104 SHC_31 rfl dX3_addRun_136 ?_
        refine s_iload_n X 3 rfl dX3_addRun_139 ?_
        refine s_aaldI (id := (85 + trip_.toNat)) X (by omega) (Or.inl rfl) SHC_84 g29.2.2.1 g29.2.2.2 dX3_addRun_140 ?_
        refine s_iload X 0 rfl dX3_addRun_141 ?_
        refine s_iald X (SHC_r85 g29.2.2.1 g29.2.2.2) g29.1 g29.2.1 dX3_addRun_143 ?_
        refine s_iload X 6 rfl dX3_addRun_144 ?_
        refine s_iadd X g36 dX3_addRun_146 ?_
        refine s_load0 X 2 rfl dX3_addRun_147 ?_
        refine s_getR (id := 109) X fk_X3_53 SHC_119 rfl dX3_addRun_148 ?_
        refine s_iload_n X 5 rfl dX3_addRun_151 ?_
        refine s_iload X 0 rfl dX3_addRun_152 ?_
        obtain ⟨r_2, hq37, h⟩ := bnd_some h
        refine s_callV (As := [VI delay_, VI call_2]) X cw_X3_101 SHC_109 rfl dX3_addRun_154 (L_C_Delays_at G delay_ call_2 m_7 r_2 hq37) rfl ⟨Nat.le_of_ble_eq_true rfl, Nat.le_of_ble_eq_true rfl⟩ ⟨Nat.le_of_ble_eq_true rfl, Nat.le_of_ble_eq_true rfl⟩ (Nat.le_of_ble_eq_true rfl) noT (kkR ?_)
        obtain ⟨g39, h⟩ := grd_some h
        refine s_iadd X g39 dX3_addRun_157 ?_
        obtain ⟨m_8, e40, h⟩ := ltv_elim h
        refine s_iast X e40 (SHC_r270 g24.1 g24.2) g29.1 g29.2.1 dX3_addRun_158 ?_
        refine s_iload X 0 rfl dX3_addRun_159 ?_
        refine s_ifle_f (tgt := 174) X dX3_addRun_161 (by omega) (fun c44 => ?_) (fun c45 => ?_)
        · replace h := ite_neg h c44
          obtain ⟨g46, h⟩ := grd_some h
          obtain ⟨call_3, e47, h⟩ := ltv_elim h
          refine s_iinc X 0 rfl g46 e47 rfl (by omega) dX3_addRun_174 ?_
          refine s_goto (tgt := 51) X dX3_addRun_177 (by omega) ?_
          exact ih17 _ _ (iter_next h hc16)
        · replace h := ite_pos h c45
          refine s_load0 X 2 rfl dX3_addRun_164 ?_
          refine s_iload X 1 rfl dX3_addRun_165 ?_
          refine s_iload X 0 rfl dX3_addRun_167 ?_
          refine s_const X (by unfold InR; omega) dX3_addRun_169 ?_
          refine s_isub X g31.2 dX3_addRun_170 ?_
          obtain ⟨m_9, hq49, h⟩ := bnd_some h
          refine s_callV (As := [VI run_, VI (call_2 - 1)]) X cw_X3_105 SHC_119 rfl dX3_addRun_171 (L_C_Net_addHop G run_ (call_2 - 1) m_8 m_9 hq49) rfl ⟨Nat.le_of_ble_eq_true rfl, Nat.le_of_ble_eq_true rfl⟩ ⟨Nat.le_of_ble_eq_true rfl, Nat.le_of_ble_eq_true rfl⟩ (Nat.le_of_ble_eq_true rfl) noT (kkU ?_)
          obtain ⟨g52, h⟩ := grd_some h
          obtain ⟨call_4, e53, h⟩ := ltv_elim h
          refine s_iinc X 0 rfl g52 e53 rfl (by omega) dX3_addRun_174 ?_
          refine s_goto (tgt := 51) X dX3_addRun_177 (by omega) ?_
          exact ih17 _ _ (iter_next h hc16)
  exact LP18 _ _ _ hl23
set_option maxRecDepth 20000 in
set_option maxHeartbeats 4000000 in
theorem L_C_merge (G : Gl) (keys_ : Nat) (spare_ : Nat) (low_ : Int) (middle_ : Int) (high_ : Int) (m : Mem) (r : Mem) (hkeys_ : isArr SHC keys_) (hspare_ : isArr SHC spare_) (h : C_merge keys_ spare_ low_ middle_ high_ m = some r) : Con SHC G yX11_merge cX11_merge 8 none rm_X11_merge [VR keys_, VR spare_, VI low_, VI middle_, VI high_] m (((.inl none, r) : Res × Mem)) := by
  refine con_of (own := "Lastbus") (by decide) rfl (Nat.le_of_ble_eq_true rfl) (fun C X => ?_)
  obtain ⟨O, hO⟩ : ∃ O : Res × Mem, O = (((.inl none, r) : Res × Mem)) := ⟨_, rfl⟩
  rw [← hO]
  show J SHC G rm_X11_merge (.inl O) C 0 0 0 [(0, VR keys_), (1, VR spare_), (2, VI low_), (3, VI middle_), (4, VI high_)] [] m
  unfold C_merge at h
  refine s_iload_n X 2 rfl dX11_merge_0 ?_
  obtain ⟨left_, e2, h⟩ := ltv_elim h
  refine s_istore X e2 rfl (by omega) dX11_merge_1 ?_
  refine s_iload_n X 4 rfl dX11_merge_3 ?_
  obtain ⟨right_, e4, h⟩ := ltv_elim h
  refine s_istore X e4 rfl (by omega) dX11_merge_4 ?_
  refine s_iload_n X 4 rfl dX11_merge_6 ?_
  obtain ⟨at_, e6, h⟩ := ltv_elim h
  refine s_istore X e6 rfl (by omega) dX11_merge_7 ?_
  obtain ⟨left_4, right_4, at_5, m_4, hl16, h⟩ := bq4_some h
  obtain ⟨fu70, hl17⟩ := loop_iter hl16
  have KX13 : ∀ q9 : Int × Int × Int × Mem, q9 = (left_4, right_4, at_5, m_4) → J SHC G rm_X11_merge (.inl O) C 0 0 71 [(7, VI q9.2.2.1), (6, VI q9.2.1), (5, VI q9.1), (0, VR keys_), (1, VR spare_), (2, VI low_), (3, VI middle_), (4, VI high_)] [] (q9.2.2.2) := by
    intro q9 e9
    subst e9
    show J SHC G rm_X11_merge (.inl O) C 0 0 71 [(7, VI at_5), (6, VI right_4), (5, VI left_4), (0, VR keys_), (1, VR spare_), (2, VI low_), (3, VI middle_), (4, VI high_)] [] m_4
    exact s_vret X (Nat.le_of_ble_eq_true rfl) (Nat.le_of_ble_eq_true rfl) (by cases h; exact hO) dX11_merge_71
  have LP12 : ∀ (fu7 : Nat) (left_2 : Int) (right_2 : Int) (at_2 : Int) (m_ : Mem), iter (fun s => C_merge_b1 keys_ spare_ middle_ high_ s.1 s.2.1 s.2.2.1 s.2.2.2) fu7 (left_2, right_2, at_2, m_) = some (left_4, right_4, at_5, m_4) → J SHC G rm_X11_merge (.inl O) C 0 0 9 [(7, VI at_2), (6, VI right_2), (5, VI left_2), (0, VR keys_), (1, VR spare_), (2, VI low_), (3, VI middle_), (4, VI high_)] [] m_ := by
    intro fu7
    induction fu7 with
    | zero => intro left_2 right_2 at_2 m_ hn8; exact absurd hn8 (by simp [iter])
    | succ fu7 ih11 =>
      intro left_2 right_2 at_2 m_ hn8
      obtain ⟨x9, h, hc10⟩ := iter_succ hn8
      replace h : C_merge_b1 keys_ spare_ middle_ high_ left_2 right_2 at_2 m_ = some x9 := h
      unfold C_merge_b1 at h
      refine s_iload X 0 rfl dX11_merge_9 ?_
      refine s_iload X 7 rfl dX11_merge_11 ?_
      refine s_icmpge_f (tgt := 71) X dX11_merge_13 (by omega) (fun c21 => ?_) (fun c22 => ?_)
      · replace h := ite_neg h c21
        exact KX13 _ (iter_exit h hc10)
      · replace h := ite_pos h c22
        obtain ⟨g23, h⟩ := grd_some h
        have kF25 : ¬ ((left_2 < middle_) ∧ ((high_ ≤ right_2) ∨ (m_ keys_ left_2.toNat ≤ m_ keys_ right_2.toNat))) → J SHC G rm_X11_merge (.inl O) C 0 0 54 [(7, VI at_2), (6, VI right_2), (5, VI left_2), (0, VR keys_), (1, VR spare_), (2, VI low_), (3, VI middle_), (4, VI high_)] [] m_ := by
          intro c34
          replace h := ite_neg h c34
          obtain ⟨g28, h⟩ := grd_some h
          refine s_load0 X 4 rfl dX11_merge_54 ?_
          refine s_iload X 0 rfl dX11_merge_55 ?_
          refine s_load0 X 3 rfl dX11_merge_57 ?_
          refine s_iload X 1 rfl dX11_merge_58 ?_
          refine s_iald X (isArr_sh hkeys_) g28.2.2.1 (by rw [alen_nn]; exact g28.2.2.2) dX11_merge_60 ?_
          obtain ⟨m_2, e29, h⟩ := ltv_elim h
          refine s_iast X e29 (isArr_sh hspare_) g28.1 (by rw [alen_nn]; exact g28.2.1) dX11_merge_61 ?_
          obtain ⟨g30, h⟩ := grd_some h
          obtain ⟨right_3, e31, h⟩ := ltv_elim h
          refine s_iinc X 1 rfl g30 e31 rfl (by omega) dX11_merge_62 ?_
          obtain ⟨g32, h⟩ := grd_some h
          obtain ⟨at_3, e33, h⟩ := ltv_elim h
          refine s_iinc X 1 rfl g32 e33 rfl (by omega) dX11_merge_65 ?_
          refine s_goto (tgt := 9) X dX11_merge_68 (by omega) ?_
          exact ih11 _ _ _ _ (iter_next h hc10)
        have kT24 : (left_2 < middle_) ∧ ((high_ ≤ right_2) ∨ (m_ keys_ left_2.toNat ≤ m_ keys_ right_2.toNat)) → J SHC G rm_X11_merge (.inl O) C 0 0 40 [(7, VI at_2), (6, VI right_2), (5, VI left_2), (0, VR keys_), (1, VR spare_), (2, VI low_), (3, VI middle_), (4, VI high_)] [] m_ := by
          intro c44
          replace h := ite_pos h c44
          obtain ⟨g38, h⟩ := grd_some h
          refine s_load0 X 4 rfl dX11_merge_40 ?_
          refine s_iload X 0 rfl dX11_merge_41 ?_
          refine s_load0 X 3 rfl dX11_merge_43 ?_
          refine s_iload X 2 rfl dX11_merge_44 ?_
          refine s_iald X (isArr_sh hkeys_) g38.2.2.1 (by rw [alen_nn]; exact g38.2.2.2) dX11_merge_46 ?_
          obtain ⟨m_3, e39, h⟩ := ltv_elim h
          refine s_iast X e39 (isArr_sh hspare_) g38.1 (by rw [alen_nn]; exact g38.2.1) dX11_merge_47 ?_
          obtain ⟨g40, h⟩ := grd_some h
          obtain ⟨left_3, e41, h⟩ := ltv_elim h
          refine s_iinc X 2 rfl g40 e41 rfl (by omega) dX11_merge_48 ?_
          refine s_goto (tgt := 65) X dX11_merge_51 (by omega) ?_
          obtain ⟨g42, h⟩ := grd_some h
          obtain ⟨at_4, e43, h⟩ := ltv_elim h
          refine s_iinc X 1 rfl g42 e43 rfl (by omega) dX11_merge_65 ?_
          refine s_goto (tgt := 9) X dX11_merge_68 (by omega) ?_
          refine s_loc [0, 2, 1, 3, 4, 5, 6, 7] rfl ?_
          exact ih11 _ _ _ _ (iter_next h hc10)
        refine s_iload X 2 rfl dX11_merge_16 ?_
        refine s_iload_n X 6 rfl dX11_merge_18 ?_
        refine s_icmpge_f (tgt := 54) X dX11_merge_19 (by omega) (fun c26 => ?_) (fun c27 => ?_)
        · exact kF25 (fun q => c26 q.1)
        · have a35 : left_2 < middle_ := c27
          refine s_iload X 1 rfl dX11_merge_22 ?_
          refine s_iload X 7 rfl dX11_merge_24 ?_
          refine s_icmpge_t (tgt := 40) X dX11_merge_26 (by omega) (fun c36 => ?_) (fun c37 => ?_)
          · exact kT24 ⟨a35, (Or.inl c36)⟩
          · have a45 : ¬ (high_ ≤ right_2) := c37
            refine s_load0 X 3 rfl dX11_merge_29 ?_
            refine s_iload X 2 rfl dX11_merge_30 ?_
            refine s_iald X (isArr_sh hkeys_) (g23.1 a35 a45) (by rw [alen_nn]; exact (g23.2.1 a35 a45)) dX11_merge_32 ?_
            refine s_load0 X 3 rfl dX11_merge_33 ?_
            refine s_iload X 1 rfl dX11_merge_34 ?_
            refine s_iald X (isArr_sh hkeys_) (g23.2.2.1 a35 a45) (by rw [alen_nn]; exact (g23.2.2.2 a35 a45)) dX11_merge_36 ?_
            refine s_icmpgt_f (tgt := 54) X dX11_merge_37 (by omega) (fun c46 => ?_) (fun c47 => ?_)
            · exact kF25 (fun q => (fun q => q.elim a45 c46) q.2)
            · exact kT24 ⟨a35, (Or.inr c47)⟩
  exact LP12 _ _ _ _ _ hl17
set_option maxRecDepth 20000 in
set_option maxHeartbeats 4000000 in
theorem L_C_sortUp (G : Gl) (keys_ : Nat) (spare_ : Nat) (count_ : Int) (m : Mem) (r : Mem) (hkeys_ : isArr SHC keys_) (hspare_ : isArr SHC spare_) (h : C_sortUp keys_ spare_ count_ m = some r) : Con SHC G yX11_sortUp cX11_sortUp 6 none rm_X11_sortUp [VR keys_, VR spare_, VI count_] m (((.inl none, r) : Res × Mem)) := by
  refine con_of (own := "Lastbus") (by decide) rfl (Nat.le_of_ble_eq_true rfl) (fun C X => ?_)
  obtain ⟨O, hO⟩ : ∃ O : Res × Mem, O = (((.inl none, r) : Res × Mem)) := ⟨_, rfl⟩
  rw [← hO]
  show J SHC G rm_X11_sortUp (.inl O) C 0 0 0 [(0, VR keys_), (1, VR spare_), (2, VI count_)] [] m
  unfold C_sortUp at h
  refine s_const X (by unfold InR; omega) dX11_sortUp_0 ?_
  obtain ⟨width_, e2, h⟩ := ltv_elim h
  refine s_istore_n X e2 rfl (by omega) dX11_sortUp_1 ?_
  obtain ⟨width_4, m_6, hl12, h⟩ := bq2_some h
  obtain ⟨fu30, hl13⟩ := loop_iter hl12
  have KX9 : ∀ q9 : Int × Mem, q9 = (width_4, m_6) → J SHC G rm_X11_sortUp (.inl O) C 0 0 69 [(3, VI q9.1), (0, VR keys_), (1, VR spare_), (2, VI count_)] [] (q9.2) := by
    intro q9 e9
    subst e9
    show J SHC G rm_X11_sortUp (.inl O) C 0 0 69 [(3, VI width_4), (0, VR keys_), (1, VR spare_), (2, VI count_)] [] m_6
    exact s_vret X (Nat.le_of_ble_eq_true rfl) (Nat.le_of_ble_eq_true rfl) (by cases h; exact hO) dX11_sortUp_69
  have LP8 : ∀ (fu3 : Nat) (width_2 : Int) (m_ : Mem), iter (fun s => C_sortUp_b1 keys_ spare_ count_ s.1 s.2) fu3 (width_2, m_) = some (width_4, m_6) → J SHC G rm_X11_sortUp (.inl O) C 0 0 2 [(3, VI width_2), (0, VR keys_), (1, VR spare_), (2, VI count_)] [] m_ := by
    intro fu3
    induction fu3 with
    | zero => intro width_2 m_ hn4; exact absurd hn4 (by simp [iter])
    | succ fu3 ih7 =>
      intro width_2 m_ hn4
      obtain ⟨x5, h, hc6⟩ := iter_succ hn4
      replace h : C_sortUp_b1 keys_ spare_ count_ width_2 m_ = some x5 := h
      unfold C_sortUp_b1 at h
      refine s_iload_n X 0 rfl dX11_sortUp_2 ?_
      refine s_iload_n X 3 rfl dX11_sortUp_3 ?_
      refine s_icmpge_f (tgt := 69) X dX11_sortUp_4 (by omega) (fun c17 => ?_) (fun c18 => ?_)
      · replace h := ite_neg h c17
        exact KX9 _ (iter_exit h hc6)
      · replace h := ite_pos h c18
        refine s_const X (by unfold InR; omega) dX11_sortUp_7 ?_
        obtain ⟨low_, e20, h⟩ := ltv_elim h
        refine s_istore X e20 rfl (by omega) dX11_sortUp_8 ?_
        obtain ⟨low_4, m_4, hl30, h⟩ := bq2_some h
        obtain ⟨fu210, hl31⟩ := loop_iter hl30
        have KX27 : ∀ q9 : Int × Mem, q9 = (low_4, m_4) → J SHC G rm_X11_sortUp (.inl O) C 0 0 54 [(4, VI q9.1), (3, VI width_2), (0, VR keys_), (1, VR spare_), (2, VI count_)] [] (q9.2) := by
          intro q9 e9
          subst e9
          show J SHC G rm_X11_sortUp (.inl O) C 0 0 54 [(4, VI low_4), (3, VI width_2), (0, VR keys_), (1, VR spare_), (2, VI count_)] [] m_4
          obtain ⟨g45, h⟩ := grd_some h
          refine s_load0 X 3 rfl dX11_sortUp_54 ?_
          refine s_const X (by unfold InR; omega) dX11_sortUp_55 ?_
          refine s_load0 X 2 rfl dX11_sortUp_56 ?_
          refine s_const X (by unfold InR; omega) dX11_sortUp_57 ?_
          refine s_iload_n X 4 rfl dX11_sortUp_58 ?_
          obtain ⟨m_5, e46, h⟩ := ltv_elim h
          refine s_copy X ac_X11_490 e46 (isArr_sh hspare_) (isArr_sh hkeys_) g45.1 (by rw [alen_nn]; exact g45.2.1) (by rw [alen_nn]; exact g45.2.2) (Nat.le_of_ble_eq_true rfl) (Nat.le_of_ble_eq_true rfl) dX11_sortUp_59 ?_
          obtain ⟨g47, h⟩ := grd_some h
          refine s_iload_n X 1 rfl dX11_sortUp_62 ?_
          refine s_const X (by unfold InR; omega) dX11_sortUp_63 ?_
          refine s_imul X g47 dX11_sortUp_64 ?_
          obtain ⟨width_3, e48, h⟩ := ltv_elim h
          refine s_istore_n X e48 rfl (by omega) dX11_sortUp_65 ?_
          refine s_goto (tgt := 2) X dX11_sortUp_66 (by omega) ?_
          refine s_loc [0, 2, 3, 4] rfl ?_
          exact ih7 _ _ (iter_next h hc6)
        have LP26 : ∀ (fu21 : Nat) (low_2 : Int) (m_2 : Mem), iter (fun s => C_sortUp_b2 keys_ spare_ count_ width_2 s.1 s.2) fu21 (low_2, m_2) = some (low_4, m_4) → J SHC G rm_X11_sortUp (.inl O) C 0 0 10 [(4, VI low_2), (3, VI width_2), (0, VR keys_), (1, VR spare_), (2, VI count_)] [] m_2 := by
          intro fu21
          induction fu21 with
          | zero => intro low_2 m_2 hn22; exact absurd hn22 (by simp [iter])
          | succ fu21 ih25 =>
            intro low_2 m_2 hn22
            obtain ⟨x23, h, hc24⟩ := iter_succ hn22
            replace h : C_sortUp_b2 keys_ spare_ count_ width_2 low_2 m_2 = some x23 := h
            unfold C_sortUp_b2 at h
            refine s_iload X 0 rfl dX11_sortUp_10 ?_
            refine s_iload_n X 4 rfl dX11_sortUp_12 ?_
            refine s_icmpge_f (tgt := 54) X dX11_sortUp_13 (by omega) (fun c35 => ?_) (fun c36 => ?_)
            · replace h := ite_neg h c35
              exact KX27 _ (iter_exit h hc24)
            · replace h := ite_pos h c36
              obtain ⟨g37, h⟩ := grd_some h
              refine s_iload X 0 rfl dX11_sortUp_16 ?_
              refine s_iload_n X 1 rfl dX11_sortUp_18 ?_
              refine s_iadd X g37 dX11_sortUp_19 ?_
              refine s_iload_n X 4 rfl dX11_sortUp_20 ?_
              refine s_min X mm_X11_358 (Nat.le_of_ble_eq_true rfl) (Nat.le_of_ble_eq_true rfl) ⟨Nat.le_of_ble_eq_true rfl, Nat.le_of_ble_eq_true rfl⟩ dX11_sortUp_21 ?_
              obtain ⟨middle_, e38, h⟩ := ltv_elim h
              refine s_istore X e38 rfl (by omega) dX11_sortUp_24 ?_
              obtain ⟨g39, h⟩ := grd_some h
              refine s_load0 X 3 rfl dX11_sortUp_26 ?_
              refine s_load0 X 4 rfl dX11_sortUp_27 ?_
              refine s_iload X 1 rfl dX11_sortUp_28 ?_
              refine s_iload X 0 rfl dX11_sortUp_30 ?_
              refine s_iload X 0 rfl dX11_sortUp_32 ?_
              refine s_iload_n X 2 rfl dX11_sortUp_34 ?_
              refine s_iadd X g39 dX11_sortUp_35 ?_
              refine s_iload_n X 5 rfl dX11_sortUp_36 ?_
              refine s_min X mm_X11_358 (Nat.le_of_ble_eq_true rfl) (Nat.le_of_ble_eq_true rfl) ⟨Nat.le_of_ble_eq_true rfl, Nat.le_of_ble_eq_true rfl⟩ dX11_sortUp_37 ?_
              obtain ⟨m_3, hq40, h⟩ := bnd_some h
              refine s_callS (As := [VR keys_, VR spare_, VI low_2, VI middle_, VI (if count_ < middle_ + width_2 then count_ else middle_ + width_2)]) X cw_X11_486 dX11_sortUp_40 (L_C_merge G keys_ spare_ low_2 middle_ (if count_ < middle_ + width_2 then count_ else middle_ + width_2) m_2 m_3 hkeys_ hspare_ hq40) rfl ⟨Nat.le_of_ble_eq_true rfl, Nat.le_of_ble_eq_true rfl⟩ ⟨Nat.le_of_ble_eq_true rfl, Nat.le_of_ble_eq_true rfl⟩ (Nat.le_of_ble_eq_true rfl) noT (kkU ?_)
              obtain ⟨g43, h⟩ := grd_some h
              refine s_iload X 1 rfl dX11_sortUp_43 ?_
              refine s_const X (by unfold InR; omega) dX11_sortUp_45 ?_
              refine s_iload_n X 2 rfl dX11_sortUp_46 ?_
              refine s_imul X g43.1 dX11_sortUp_47 ?_
              refine s_iadd X g43.2 dX11_sortUp_48 ?_
              obtain ⟨low_3, e44, h⟩ := ltv_elim h
              refine s_istore X e44 rfl (by omega) dX11_sortUp_49 ?_
              refine s_goto (tgt := 10) X dX11_sortUp_51 (by omega) ?_
              refine s_loc [0, 2, 3, 4, 5] rfl ?_
              exact ih25 _ _ (iter_next h hc24)
        exact LP26 _ _ _ hl31
  exact LP8 _ _ _ hl13
