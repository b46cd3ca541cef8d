/-! ===== words of the law's calls ===== -/
set_option maxRecDepth 100000 in
theorem cd_X11_stop : Cond.code yX11_stop cX11_stop 2 (some .int) ∈ lw_U := lw_Uin (i := 918) (rfl) rfl
theorem cw_L_7 : CVk "LastbusLaw" 7 yX11_stop cX11_stop 2 (some .int) 1 := ⟨lw_Uin (i := 915) (by decide +kernel) rfl, lw_Uin (i := 916) (by decide +kernel) rfl, lw_Uin (i := 917) (by decide +kernel) rfl, lw_Uin (i := 32) (by decide +kernel) rfl, cd_X11_stop, ⟨by decide +kernel, by decide +kernel, by decide +kernel⟩⟩
set_option maxRecDepth 100000 in
theorem cd_X11_walk : Cond.code yX11_walk cX11_walk 5 (some .int) ∈ lw_U := lw_Uin (i := 931) (rfl) rfl
theorem cw_L_19 : CVk "LastbusLaw" 19 yX11_walk cX11_walk 5 (some .int) 3 := ⟨lw_Uin (i := 928) (by decide +kernel) rfl, lw_Uin (i := 929) (by decide +kernel) rfl, lw_Uin (i := 930) (by decide +kernel) rfl, lw_Uin (i := 32) (by decide +kernel) rfl, cd_X11_walk, ⟨by decide +kernel, by decide +kernel, by decide +kernel⟩⟩
set_option maxRecDepth 100000 in
theorem cd_X11_service : Cond.code yX11_service cX11_service 1 (some .int) ∈ lw_U := lw_Uin (i := 819) (rfl) rfl
theorem cw_L_25 : CVk "LastbusLaw" 25 yX11_service cX11_service 1 (some .int) 0 := ⟨lw_Uin (i := 816) (by decide +kernel) rfl, lw_Uin (i := 817) (by decide +kernel) rfl, lw_Uin (i := 818) (by decide +kernel) rfl, lw_Uin (i := 32) (by decide +kernel) rfl, cd_X11_service, ⟨by decide +kernel, by decide +kernel, by decide +kernel⟩⟩
set_option maxRecDepth 100000 in
theorem cd_X11_week : Cond.code yX11_week cX11_week 6 (some .int) ∈ lw_U := lw_Uin (i := 870) (rfl) rfl
theorem cw_L_29 : CVk "LastbusLaw" 29 yX11_week cX11_week 6 (some .int) 4 := ⟨lw_Uin (i := 867) (by decide +kernel) rfl, lw_Uin (i := 868) (by decide +kernel) rfl, lw_Uin (i := 869) (by decide +kernel) rfl, lw_Uin (i := 32) (by decide +kernel) rfl, cd_X11_week, ⟨by decide +kernel, by decide +kernel, by decide +kernel⟩⟩
set_option maxRecDepth 100000 in
theorem cd_X11_putDay : Cond.code yX11_putDay cX11_putDay 5 (some .boolean) ∈ lw_U := lw_Uin (i := 910) (rfl) rfl
theorem cw_L_33 : CVk "LastbusLaw" 33 yX11_putDay cX11_putDay 5 (some .boolean) 3 := ⟨lw_Uin (i := 907) (by decide +kernel) rfl, lw_Uin (i := 908) (by decide +kernel) rfl, lw_Uin (i := 909) (by decide +kernel) rfl, lw_Uin (i := 32) (by decide +kernel) rfl, cd_X11_putDay, ⟨by decide +kernel, by decide +kernel, by decide +kernel⟩⟩
set_option maxRecDepth 100000 in
theorem cd_X11_trip : Cond.code yX11_trip cX11_trip 4 (some .int) ∈ lw_U := lw_Uin (i := 951) (rfl) rfl
theorem cw_L_37 : CVk "LastbusLaw" 37 yX11_trip cX11_trip 4 (some .int) 3 := ⟨lw_Uin (i := 948) (by decide +kernel) rfl, lw_Uin (i := 949) (by decide +kernel) rfl, lw_Uin (i := 950) (by decide +kernel) rfl, lw_Uin (i := 32) (by decide +kernel) rfl, cd_X11_trip, ⟨by decide +kernel, by decide +kernel, by decide +kernel⟩⟩
set_option maxRecDepth 100000 in
theorem cd_X11_call : Cond.code yX11_call cX11_call 6 (some .int) ∈ lw_U := lw_Uin (i := 972) (rfl) rfl
theorem cw_L_41 : CVk "LastbusLaw" 41 yX11_call cX11_call 6 (some .int) 4 := ⟨lw_Uin (i := 969) (by decide +kernel) rfl, lw_Uin (i := 970) (by decide +kernel) rfl, lw_Uin (i := 971) (by decide +kernel) rfl, lw_Uin (i := 32) (by decide +kernel) rfl, cd_X11_call, ⟨by decide +kernel, by decide +kernel, by decide +kernel⟩⟩
set_option maxRecDepth 100000 in
theorem cd_X11_earliest : Cond.code yX11_earliest cX11_earliest 5 (some .int) ∈ lw_U := lw_Uin (i := 1007) (rfl) rfl
theorem cw_L_44 : CVk "LastbusLaw" 44 yX11_earliest cX11_earliest 5 (some .int) 4 := ⟨lw_Uin (i := 1004) (by decide +kernel) rfl, lw_Uin (i := 1005) (by decide +kernel) rfl, lw_Uin (i := 1006) (by decide +kernel) rfl, lw_Uin (i := 32) (by decide +kernel) rfl, cd_X11_earliest, ⟨by decide +kernel, by decide +kernel, by decide +kernel⟩⟩
set_option maxRecDepth 100000 in
theorem cd_X11_earliestByQueue : Cond.code yX11_earliestByQueue cX11_earliestByQueue 5 (some .int) ∈ lw_U := lw_Uin (i := 1037) (rfl) rfl
theorem cw_L_49 : CVk "LastbusLaw" 49 yX11_earliestByQueue cX11_earliestByQueue 5 (some .int) 4 := ⟨lw_Uin (i := 1034) (by decide +kernel) rfl, lw_Uin (i := 1035) (by decide +kernel) rfl, lw_Uin (i := 1036) (by decide +kernel) rfl, lw_Uin (i := 32) (by decide +kernel) rfl, cd_X11_earliestByQueue, ⟨by decide +kernel, by decide +kernel, by decide +kernel⟩⟩
set_option maxRecDepth 100000 in
theorem cd_X11_earliestByRounds : Cond.code yX11_earliestByRounds cX11_earliestByRounds 5 (some .int) ∈ lw_U := lw_Uin (i := 1044) (rfl) rfl
theorem cw_L_52 : CVk "LastbusLaw" 52 yX11_earliestByRounds cX11_earliestByRounds 5 (some .int) 4 := ⟨lw_Uin (i := 1041) (by decide +kernel) rfl, lw_Uin (i := 1042) (by decide +kernel) rfl, lw_Uin (i := 1043) (by decide +kernel) rfl, lw_Uin (i := 32) (by decide +kernel) rfl, cd_X11_earliestByRounds, ⟨by decide +kernel, by decide +kernel, by decide +kernel⟩⟩
set_option maxRecDepth 100000 in
theorem cd_X11_wall : Cond.code yX11_wall cX11_wall 7 (some .int) ∈ lw_U := lw_Uin (i := 1118) (rfl) rfl
theorem cw_L_55 : CVk "LastbusLaw" 55 yX11_wall cX11_wall 7 (some .int) 4 := ⟨lw_Uin (i := 1115) (by decide +kernel) rfl, lw_Uin (i := 1116) (by decide +kernel) rfl, lw_Uin (i := 1117) (by decide +kernel) rfl, lw_Uin (i := 32) (by decide +kernel) rfl, cd_X11_wall, ⟨by decide +kernel, by decide +kernel, by decide +kernel⟩⟩
set_option maxRecDepth 100000 in
theorem cd_X11_last : Cond.code yX11_last cX11_last 6 (some .int) ∈ lw_U := lw_Uin (i := 1125) (rfl) rfl
theorem cw_L_58 : CVk "LastbusLaw" 58 yX11_last cX11_last 6 (some .int) 4 := ⟨lw_Uin (i := 1122) (by decide +kernel) rfl, lw_Uin (i := 1123) (by decide +kernel) rfl, lw_Uin (i := 1124) (by decide +kernel) rfl, lw_Uin (i := 32) (by decide +kernel) rfl, cd_X11_last, ⟨by decide +kernel, by decide +kernel, by decide +kernel⟩⟩
set_option maxRecDepth 100000 in
theorem cd_X11_chain : Cond.code yX11_chain cX11_chain 5 (some .int) ∈ lw_U := lw_Uin (i := 1070) (rfl) rfl
theorem cw_L_61 : CVk "LastbusLaw" 61 yX11_chain cX11_chain 5 (some .int) 4 := ⟨lw_Uin (i := 1067) (by decide +kernel) rfl, lw_Uin (i := 1068) (by decide +kernel) rfl, lw_Uin (i := 1069) (by decide +kernel) rfl, lw_Uin (i := 32) (by decide +kernel) rfl, cd_X11_chain, ⟨by decide +kernel, by decide +kernel, by decide +kernel⟩⟩
set_option maxRecDepth 100000 in
theorem cd_X11_ride : Cond.code yX11_ride cX11_ride 3 (some .int) ∈ lw_U := lw_Uin (i := 1101) (rfl) rfl
theorem cw_L_64 : CVk "LastbusLaw" 64 yX11_ride cX11_ride 3 (some .int) 2 := ⟨lw_Uin (i := 1098) (by decide +kernel) rfl, lw_Uin (i := 1099) (by decide +kernel) rfl, lw_Uin (i := 1100) (by decide +kernel) rfl, lw_Uin (i := 32) (by decide +kernel) rfl, cd_X11_ride, ⟨by decide +kernel, by decide +kernel, by decide +kernel⟩⟩
set_option maxRecDepth 100000 in
theorem cd_X11_pairs : Cond.code yX11_pairs cX11_pairs 4 (some .int) ∈ lw_U := lw_Uin (i := 1136) (rfl) rfl
theorem cw_L_68 : CVk "LastbusLaw" 68 yX11_pairs cX11_pairs 4 (some .int) 3 := ⟨lw_Uin (i := 1133) (by decide +kernel) rfl, lw_Uin (i := 1134) (by decide +kernel) rfl, lw_Uin (i := 1135) (by decide +kernel) rfl, lw_Uin (i := 32) (by decide +kernel) rfl, cd_X11_pairs, ⟨by decide +kernel, by decide +kernel, by decide +kernel⟩⟩
set_option maxRecDepth 100000 in
theorem cd_X11_pair : Cond.code yX11_pair cX11_pair 6 (some .int) ∈ lw_U := lw_Uin (i := 1147) (rfl) rfl
theorem cw_L_71 : CVk "LastbusLaw" 71 yX11_pair cX11_pair 6 (some .int) 5 := ⟨lw_Uin (i := 1144) (by decide +kernel) rfl, lw_Uin (i := 1145) (by decide +kernel) rfl, lw_Uin (i := 1146) (by decide +kernel) rfl, lw_Uin (i := 32) (by decide +kernel) rfl, cd_X11_pair, ⟨by decide +kernel, by decide +kernel, by decide +kernel⟩⟩
set_option maxRecDepth 100000 in
theorem cd_X11_byPairs : Cond.code yX11_byPairs cX11_byPairs 6 (some .int) ∈ lw_U := lw_Uin (i := 1051) (rfl) rfl
theorem cw_L_75 : CVk "LastbusLaw" 75 yX11_byPairs cX11_byPairs 6 (some .int) 4 := ⟨lw_Uin (i := 1048) (by decide +kernel) rfl, lw_Uin (i := 1049) (by decide +kernel) rfl, lw_Uin (i := 1050) (by decide +kernel) rfl, lw_Uin (i := 32) (by decide +kernel) rfl, cd_X11_byPairs, ⟨by decide +kernel, by decide +kernel, by decide +kernel⟩⟩
set_option maxRecDepth 100000 in
theorem cd_X11_choices : Cond.code yX11_choices cX11_choices 7 (some .int) ∈ lw_U := lw_Uin (i := 1058) (rfl) rfl
theorem cw_L_78 : CVk "LastbusLaw" 78 yX11_choices cX11_choices 7 (some .int) 4 := ⟨lw_Uin (i := 1055) (by decide +kernel) rfl, lw_Uin (i := 1056) (by decide +kernel) rfl, lw_Uin (i := 1057) (by decide +kernel) rfl, lw_Uin (i := 32) (by decide +kernel) rfl, cd_X11_choices, ⟨by decide +kernel, by decide +kernel, by decide +kernel⟩⟩
set_option maxRecDepth 100000 in
theorem cd_X11_choice : Cond.code yX11_choice cX11_choice 8 (some .int) ∈ lw_U := lw_Uin (i := 1110) (rfl) rfl
theorem cw_L_81 : CVk "LastbusLaw" 81 yX11_choice cX11_choice 8 (some .int) 5 := ⟨lw_Uin (i := 1107) (by decide +kernel) rfl, lw_Uin (i := 1108) (by decide +kernel) rfl, lw_Uin (i := 1109) (by decide +kernel) rfl, lw_Uin (i := 32) (by decide +kernel) rfl, cd_X11_choice, ⟨by decide +kernel, by decide +kernel, by decide +kernel⟩⟩
set_option maxRecDepth 100000 in
theorem cd_X11_vehicles : Cond.code yX11_vehicles cX11_vehicles 2 (some .int) ∈ lw_U := lw_Uin (i := 507) (rfl) rfl
theorem cw_L_85 : CVk "LastbusLaw" 85 yX11_vehicles cX11_vehicles 2 (some .int) 1 := ⟨lw_Uin (i := 504) (by decide +kernel) rfl, lw_Uin (i := 505) (by decide +kernel) rfl, lw_Uin (i := 506) (by decide +kernel) rfl, lw_Uin (i := 32) (by decide +kernel) rfl, cd_X11_vehicles, ⟨by decide +kernel, by decide +kernel, by decide +kernel⟩⟩
set_option maxRecDepth 100000 in
theorem cd_X11_vehiclesByMatching : Cond.code yX11_vehiclesByMatching cX11_vehiclesByMatching 2 (some .int) ∈ lw_U := lw_Uin (i := 619) (rfl) rfl
theorem cw_L_88 : CVk "LastbusLaw" 88 yX11_vehiclesByMatching cX11_vehiclesByMatching 2 (some .int) 1 := ⟨lw_Uin (i := 616) (by decide +kernel) rfl, lw_Uin (i := 617) (by decide +kernel) rfl, lw_Uin (i := 618) (by decide +kernel) rfl, lw_Uin (i := 32) (by decide +kernel) rfl, cd_X11_vehiclesByMatching, ⟨by decide +kernel, by decide +kernel, by decide +kernel⟩⟩
set_option maxRecDepth 100000 in
theorem cd_X11_isSound : Cond.code yX11_isSound cX11_isSound 2 (some .boolean) ∈ lw_U := lw_Uin (i := 642) (rfl) rfl
theorem cw_L_91 : CVk "LastbusLaw" 91 yX11_isSound cX11_isSound 2 (some .boolean) 1 := ⟨lw_Uin (i := 639) (by decide +kernel) rfl, lw_Uin (i := 640) (by decide +kernel) rfl, lw_Uin (i := 641) (by decide +kernel) rfl, lw_Uin (i := 32) (by decide +kernel) rfl, cd_X11_isSound, ⟨by decide +kernel, by decide +kernel, by decide +kernel⟩⟩
theorem kc_L_15 : Cond.constant "LastbusLaw" 15 (i32 (-900001)) ∈ lw_U := lw_Uin (i := 612) (by decide +kernel) rfl
theorem kc_L_18 : Cond.constant "LastbusLaw" 18 (i32 (-900002)) ∈ lw_U := lw_Uin (i := 903) (by decide +kernel) rfl
theorem kc_L_40 : Cond.constant "LastbusLaw" 40 (i32 (-900003)) ∈ lw_U := lw_Uin (i := 965) (by decide +kernel) rfl
theorem kc_L_96 : Cond.constant "LastbusLaw" 96 (i32 (1103515245)) ∈ lw_U := lw_Uin (i := 807) (by decide +kernel) rfl
theorem kc_L_97 : Cond.constant "LastbusLaw" 97 (i32 (65535)) ∈ lw_U := lw_Uin (i := 808) (by decide +kernel) rfl
theorem kc_L_116 : Cond.constant "LastbusLaw" 116 (i32 (1000000)) ∈ lw_U := lw_Uin (i := 924) (by decide +kernel) rfl
theorem kc_F_95 : Cond.constant "LastbusLaw" 95 (i32 69069) ∈ lw_U := lw_Uin (i := 803) (by decide +kernel) rfl
/-! ===== the law's helpers ===== -/
def rm_L_stop : Room := { frames := 8, cells := 2, slots := 12, locals := 125 }
def hh_L_stop : List (Nat × Nat × Nat × Nat) := [(0, 5, 6, 13), (0, 5, 10, 16)]
set_option maxRecDepth 20000 in
set_option maxHeartbeats 4000000 in
theorem H_stop (G : Gl) (p0 : Int) (m : Mem) (r : Int × Mem) (h : P_stop p0 m = some r) : ConW SHL G yL_stop cL_stop 3 (some .int) hh_L_stop rm_L_stop [VR 0, VI p0] m ((.inl (some (VI r.1)), r.2) : Res × Mem) := by
  unfold P_stop at h
  obtain ⟨r0, h0, h⟩ := bnd_some h
  obtain ⟨hx, h⟩ := grd_some h
  cases h
  refine conW_of (own := "LastbusLaw") (by decide) rfl (Nat.le_of_ble_eq_true rfl) (fun C X tb nc => ?_)
  obtain ⟨O, hO⟩ : ∃ O : Res × Mem, O = ((.inl (some (VI (hres [0, 1] r0))), putM 0 455 m r0.2) : Res × Mem) := ⟨_, rfl⟩
  rw [show ((.inl (some (VI ((hres [0, 1] r0, putM 0 455 m r0.2) : Int × Mem).1)), ((hres [0, 1] r0, putM 0 455 m r0.2) : Int × Mem).2) : Res × Mem) = O from hO.symm]
  show J SHL G rm_L_stop (.inl O) C 0 0 0 [(0, VR 0), (1, VI p0)] [] m
  refine s_load0 X 0 rfl dL_stop_0 ?_
  refine s_iload_n X 1 rfl dL_stop_1 ?_
  refine s_callVH (As := [VI p0]) X cw_L_7 SHL_0 rfl dL_stop_2 (con_C (L_C_stop G p0 m r0 h0)) rfl ⟨Nat.le_of_ble_eq_true rfl, Nat.le_of_ble_eq_true rfl⟩ ⟨Nat.le_of_ble_eq_true rfl, Nat.le_of_ble_eq_true rfl⟩ (Nat.le_of_ble_eq_true rfl) ?_ ?_
  · obtain ⟨r1, m1⟩ := r0
    intro x h9
    cases r1 with
    | inl v => cases h9
    | inr x0 =>
      cases h9
      have hx0 := hx _ rfl
      simp only [List.mem_cons, List.not_mem_nil, or_false] at hx0
      rcases hx0 with rfl | rfl
      · exact jx_catchL (hp := 6) (z := -900001) X tb nc ⟨[], [(0, 5, 10, 16)], (0, 5, 6, 13), rfl, (fun z hz => by cases hz), by decide +kernel, by decide, rfl, cl_L_13, cstT_0⟩ ⟨by unfold InR; omega, kc_L_15, Or.inr ⟨2, by decide, dL_stop_6, dL_stop_7, dL_stop_9⟩⟩ (Nat.le_of_ble_eq_true rfl) (Nat.le_of_ble_eq_true rfl) (by show O = _; rw [hO]; rfl)
      · exact jx_catchL (hp := 10) (z := -900002) X tb nc ⟨[(0, 5, 6, 13)], [], (0, 5, 10, 16), rfl, (List.forall_mem_cons.mpr ⟨⟨by decide, "java/lang/IllegalArgumentException", cl_L_13, by decide +kernel⟩, (fun z hz => by cases hz)⟩), by decide +kernel, by decide, rfl, cl_L_16, cstT_1⟩ ⟨by unfold InR; omega, kc_L_18, Or.inr ⟨2, by decide, dL_stop_10, dL_stop_11, dL_stop_13⟩⟩ (Nat.le_of_ble_eq_true rfl) (Nat.le_of_ble_eq_true rfl) (by show O = _; rw [hO]; rfl)
  · obtain ⟨r1, m1⟩ := r0
    intro v h9
    cases r1 with
    | inr x0 => cases h9
    | inl a =>
      cases h9
      show J SHL G rm_L_stop (.inl O) C 2 12 5 [(0, VR 0), (1, VI p0)] [VI a] (putM 0 455 m m1)
      exact s_iret X (Nat.le_of_ble_eq_true rfl) (Nat.le_of_ble_eq_true rfl) (by show O = _; rw [hO]; rfl) dL_stop_5
def rm_L_walk : Room := { frames := 8, cells := 4, slots := 24, locals := 128 }
def hh_L_walk : List (Nat × Nat × Nat × Nat) := [(0, 7, 8, 23), (0, 7, 13, 13)]
set_option maxRecDepth 20000 in
set_option maxHeartbeats 4000000 in
theorem H_walk (G : Gl) (p0 : Int) (p1 : Int) (p2 : Int) (m : Mem) (r : Int × Mem) (h : P_walk p0 p1 p2 m = some r) : ConW SHL G yL_walk cL_walk 5 (some .int) hh_L_walk rm_L_walk [VR 0, VI p0, VI p1, VI p2] m ((.inl (some (VI r.1)), r.2) : Res × Mem) := by
  unfold P_walk at h
  obtain ⟨r0, h0, h⟩ := bnd_some h
  obtain ⟨hx, h⟩ := grd_some h
  cases h
  refine conW_of (own := "LastbusLaw") (by decide) rfl (Nat.le_of_ble_eq_true rfl) (fun C X tb nc => ?_)
  obtain ⟨O, hO⟩ : ∃ O : Res × Mem, O = ((.inl (some (VI (hres [2, 0] r0))), putM 0 455 m r0.2) : Res × Mem) := ⟨_, rfl⟩
  rw [show ((.inl (some (VI ((hres [2, 0] r0, putM 0 455 m r0.2) : Int × Mem).1)), ((hres [2, 0] r0, putM 0 455 m r0.2) : Int × Mem).2) : Res × Mem) = O from hO.symm]
  show J SHL G rm_L_walk (.inl O) C 0 0 0 [(0, VR 0), (1, VI p0), (2, VI p1), (3, VI p2)] [] m
  refine s_load0 X 0 rfl dL_walk_0 ?_
  refine s_iload_n X 1 rfl dL_walk_1 ?_
  refine s_iload_n X 2 rfl dL_walk_2 ?_
  refine s_iload_n X 3 rfl dL_walk_3 ?_
  refine s_callVH (As := [VI p0, VI p1, VI p2]) X cw_L_19 SHL_0 rfl dL_walk_4 (con_C (L_C_walk G p0 p1 p2 m r0 h0)) rfl ⟨Nat.le_of_ble_eq_true rfl, Nat.le_of_ble_eq_true rfl⟩ ⟨Nat.le_of_ble_eq_true rfl, Nat.le_of_ble_eq_true rfl⟩ (Nat.le_of_ble_eq_true rfl) ?_ ?_
  · obtain ⟨r1, m1⟩ := r0
    intro x h9
    cases r1 with
    | inl v => cases h9
    | inr x0 =>
      cases h9
      have hx0 := hx _ rfl
      simp only [List.mem_cons, List.not_mem_nil, or_false] at hx0
      rcases hx0 with rfl | rfl
      · exact jx_catchL (hp := 8) (z := -900001) X tb nc ⟨[], [(0, 7, 13, 13)], (0, 7, 8, 23), rfl, (fun z hz => by cases hz), by decide +kernel, by decide, rfl, cl_L_23, cstT_2⟩ ⟨by unfold InR; omega, kc_L_15, Or.inl ⟨4, by decide, dL_walk_8, dL_walk_10, dL_walk_12⟩⟩ (Nat.le_of_ble_eq_true rfl) (Nat.le_of_ble_eq_true rfl) (by show O = _; rw [hO]; rfl)
      · exact jx_catchL (hp := 13) (z := -900002) X tb nc ⟨[(0, 7, 8, 23)], [], (0, 7, 13, 13), rfl, (List.forall_mem_cons.mpr ⟨⟨by decide, "java/lang/IndexOutOfBoundsException", cl_L_23, by decide +kernel⟩, (fun z hz => by cases hz)⟩), by decide +kernel, by decide, rfl, cl_L_13, cstT_0⟩ ⟨by unfold InR; omega, kc_L_18, Or.inl ⟨4, by decide, dL_walk_13, dL_walk_15, dL_walk_17⟩⟩ (Nat.le_of_ble_eq_true rfl) (Nat.le_of_ble_eq_true rfl) (by show O = _; rw [hO]; rfl)
  · obtain ⟨r1, m1⟩ := r0
    intro v h9
    cases r1 with
    | inr x0 => cases h9
    | inl a =>
      cases h9
      show J SHL G rm_L_walk (.inl O) C 4 24 7 [(0, VR 0), (1, VI p0), (2, VI p1), (3, VI p2)] [VI a] (putM 0 455 m m1)
      exact s_iret X (Nat.le_of_ble_eq_true rfl) (Nat.le_of_ble_eq_true rfl) (by show O = _; rw [hO]; rfl) dL_walk_7
def rm_L_service : Room := { frames := 7, cells := 1, slots := 6, locals := 102 }
def hh_L_service : List (Nat × Nat × Nat × Nat) := [(0, 4, 5, 16)]
set_option maxRecDepth 20000 in
set_option maxHeartbeats 4000000 in
theorem H_service (G : Gl)  (m : Mem) (r : Int × Mem) (h : P_service m = some r) : ConW SHL G yL_service cL_service 2 (some .int) hh_L_service rm_L_service [VR 0] m ((.inl (some (VI r.1)), r.2) : Res × Mem) := by
  unfold P_service at h
  obtain ⟨r0, h0, h⟩ := bnd_some h
  obtain ⟨hx, h⟩ := grd_some h
  cases h
  refine conW_of (own := "LastbusLaw") (by decide) rfl (Nat.le_of_ble_eq_true rfl) (fun C X tb nc => ?_)
  obtain ⟨O, hO⟩ : ∃ O : Res × Mem, O = ((.inl (some (VI (hres [1] r0))), putM 0 455 m r0.2) : Res × Mem) := ⟨_, rfl⟩
  rw [show ((.inl (some (VI ((hres [1] r0, putM 0 455 m r0.2) : Int × Mem).1)), ((hres [1] r0, putM 0 455 m r0.2) : Int × Mem).2) : Res × Mem) = O from hO.symm]
  show J SHL G rm_L_service (.inl O) C 0 0 0 [(0, VR 0)] [] m
  refine s_load0 X 0 rfl dL_service_0 ?_
  refine s_callVH (As := []) X cw_L_25 SHL_0 rfl dL_service_1 (con_C (L_C_service G m r0 h0)) rfl ⟨Nat.le_of_ble_eq_true rfl, Nat.le_of_ble_eq_true rfl⟩ ⟨Nat.le_of_ble_eq_true rfl, Nat.le_of_ble_eq_true rfl⟩ (Nat.le_of_ble_eq_true rfl) ?_ ?_
  · obtain ⟨r1, m1⟩ := r0
    intro x h9
    cases r1 with
    | inl v => cases h9
    | inr x0 =>
      cases h9
      have hx0 := hx _ rfl
      simp only [List.mem_cons, List.not_mem_nil, or_false] at hx0
      rcases hx0 with rfl
      · exact jx_catchL (hp := 5) (z := -900001) X tb nc ⟨[], [], (0, 4, 5, 16), rfl, (fun z hz => by cases hz), by decide +kernel, by decide, rfl, cl_L_16, cstT_1⟩ ⟨by unfold InR; omega, kc_L_15, Or.inr ⟨1, by decide, dL_service_5, dL_service_6, dL_service_8⟩⟩ (Nat.le_of_ble_eq_true rfl) (Nat.le_of_ble_eq_true rfl) (by show O = _; rw [hO]; rfl)
  · obtain ⟨r1, m1⟩ := r0
    intro v h9
    cases r1 with
    | inr x0 => cases h9
    | inl a =>
      cases h9
      show J SHL G rm_L_service (.inl O) C 1 6 4 [(0, VR 0)] [VI a] (putM 0 455 m m1)
      exact s_iret X (Nat.le_of_ble_eq_true rfl) (Nat.le_of_ble_eq_true rfl) (by show O = _; rw [hO]; rfl) dL_service_4
def rm_L_week : Room := { frames := 9, cells := 5, slots := 30, locals := 149 }
def hh_L_week : List (Nat × Nat × Nat × Nat) := [(0, 9, 10, 23), (0, 9, 15, 13)]
set_option maxRecDepth 20000 in
set_option maxHeartbeats 4000000 in
theorem H_week (G : Gl) (p0 : Int) (p1 : Int) (p2 : Int) (p3 : Int) (m : Mem) (r : Int × Mem) (h : P_week p0 p1 p2 p3 m = some r) : ConW SHL G yL_week cL_week 6 (some .int) hh_L_week rm_L_week [VR 0, VI p0, VI p1, VI p2, VI p3] m ((.inl (some (VI r.1)), r.2) : Res × Mem) := by
  unfold P_week at h
  obtain ⟨r0, h0, h⟩ := bnd_some h
  obtain ⟨hx, h⟩ := grd_some h
  cases h
  refine conW_of (own := "LastbusLaw") (by decide) rfl (Nat.le_of_ble_eq_true rfl) (fun C X tb nc => ?_)
  obtain ⟨O, hO⟩ : ∃ O : Res × Mem, O = ((.inl (some (VI (hres [2, 0] r0))), putM 0 455 m r0.2) : Res × Mem) := ⟨_, rfl⟩
  rw [show ((.inl (some (VI ((hres [2, 0] r0, putM 0 455 m r0.2) : Int × Mem).1)), ((hres [2, 0] r0, putM 0 455 m r0.2) : Int × Mem).2) : Res × Mem) = O from hO.symm]
  show J SHL G rm_L_week (.inl O) C 0 0 0 [(0, VR 0), (1, VI p0), (2, VI p1), (3, VI p2), (4, VI p3)] [] m
  refine s_load0 X 0 rfl dL_week_0 ?_
  refine s_iload_n X 1 rfl dL_week_1 ?_
  refine s_iload_n X 2 rfl dL_week_2 ?_
  refine s_iload_n X 3 rfl dL_week_3 ?_
  refine s_iload X 4 rfl dL_week_4 ?_
  refine s_callVH (As := [VI p0, VI p1, VI p2, VI p3]) X cw_L_29 SHL_0 rfl dL_week_6 (con_C (L_C_week G p0 p1 p2 p3 m r0 h0)) rfl ⟨Nat.le_of_ble_eq_true rfl, Nat.le_of_ble_eq_true rfl⟩ ⟨Nat.le_of_ble_eq_true rfl, Nat.le_of_ble_eq_true rfl⟩ (Nat.le_of_ble_eq_true rfl) ?_ ?_
  · obtain ⟨r1, m1⟩ := r0
    intro x h9
    cases r1 with
    | inl v => cases h9
    | inr x0 =>
      cases h9
      have hx0 := hx _ rfl
      simp only [List.mem_cons, List.not_mem_nil, or_false] at hx0
      rcases hx0 with rfl | rfl
      · exact jx_catchL (hp := 10) (z := -900001) X tb nc ⟨[], [(0, 9, 15, 13)], (0, 9, 10, 23), rfl, (fun z hz => by cases hz), by decide +kernel, by decide, rfl, cl_L_23, cstT_2⟩ ⟨by unfold InR; omega, kc_L_15, Or.inl ⟨5, by decide, dL_week_10, dL_week_12, dL_week_14⟩⟩ (Nat.le_of_ble_eq_true rfl) (Nat.le_of_ble_eq_true rfl) (by show O = _; rw [hO]; rfl)
      · exact jx_catchL (hp := 15) (z := -900002) X tb nc ⟨[(0, 9, 10, 23)], [], (0, 9, 15, 13), rfl, (List.forall_mem_cons.mpr ⟨⟨by decide, "java/lang/IndexOutOfBoundsException", cl_L_23, by decide +kernel⟩, (fun z hz => by cases hz)⟩), by decide +kernel, by decide, rfl, cl_L_13, cstT_0⟩ ⟨by unfold InR; omega, kc_L_18, Or.inl ⟨5, by decide, dL_week_15, dL_week_17, dL_week_19⟩⟩ (Nat.le_of_ble_eq_true rfl) (Nat.le_of_ble_eq_true rfl) (by show O = _; rw [hO]; rfl)
  · obtain ⟨r1, m1⟩ := r0
    intro v h9
    cases r1 with
    | inr x0 => cases h9
    | inl a =>
      cases h9
      show J SHL G rm_L_week (.inl O) C 5 30 9 [(0, VR 0), (1, VI p0), (2, VI p1), (3, VI p2), (4, VI p3)] [VI a] (putM 0 455 m m1)
      exact s_iret X (Nat.le_of_ble_eq_true rfl) (Nat.le_of_ble_eq_true rfl) (by show O = _; rw [hO]; rfl) dL_week_9
def rm_L_putDay : Room := { frames := 9, cells := 2, slots := 12, locals := 148 }
def hh_L_putDay : List (Nat × Nat × Nat × Nat) := [(0, 15, 16, 23), (0, 15, 21, 13)]
set_option maxRecDepth 20000 in
set_option maxHeartbeats 4000000 in
theorem H_putDay (G : Gl) (p0 : Int) (p1 : Int) (p2 : Int) (m : Mem) (r : Int × Mem) (h : P_putDay p0 p1 p2 m = some r) : ConW SHL G yL_putDay cL_putDay 5 (some .int) hh_L_putDay rm_L_putDay [VR 0, VI p0, VI p1, VI p2] m ((.inl (some (VI r.1)), r.2) : Res × Mem) := by
  unfold P_putDay at h
  obtain ⟨r0, h0, h⟩ := bnd_some h
  obtain ⟨hx, h⟩ := grd_some h
  cases h
  refine conW_of (own := "LastbusLaw") (by decide) rfl (Nat.le_of_ble_eq_true rfl) (fun C X tb nc => ?_)
  obtain ⟨O, hO⟩ : ∃ O : Res × Mem, O = ((.inl (some (VI (hresB [2, 0] r0))), putM 0 455 m r0.2) : Res × Mem) := ⟨_, rfl⟩
  rw [show ((.inl (some (VI ((hresB [2, 0] r0, putM 0 455 m r0.2) : Int × Mem).1)), ((hresB [2, 0] r0, putM 0 455 m r0.2) : Int × Mem).2) : Res × Mem) = O from hO.symm]
  show J SHL G rm_L_putDay (.inl O) C 0 0 0 [(0, VR 0), (1, VI p0), (2, VI p1), (3, VI p2)] [] m
  refine s_load0 X 0 rfl dL_putDay_0 ?_
  refine s_iload_n X 1 rfl dL_putDay_1 ?_
  refine s_iload_n X 2 rfl dL_putDay_2 ?_
  refine s_iload_n X 3 rfl dL_putDay_3 ?_
  refine s_callVH (As := [VI p0, VI p1, VI p2]) X cw_L_33 SHL_0 rfl dL_putDay_4 (con_C (L_C_putDay G p0 p1 p2 m r0 h0)) rfl ⟨Nat.le_of_ble_eq_true rfl, Nat.le_of_ble_eq_true rfl⟩ ⟨Nat.le_of_ble_eq_true rfl, Nat.le_of_ble_eq_true rfl⟩ (Nat.le_of_ble_eq_true rfl) ?_ ?_
  · obtain ⟨r1, m1⟩ := r0
    intro x h9
    cases r1 with
    | inl v => cases h9
    | inr x0 =>
      cases h9
      have hx0 := hx _ rfl
      simp only [List.mem_cons, List.not_mem_nil, or_false] at hx0
      rcases hx0 with rfl | rfl
      · exact jx_catchL (hp := 16) (z := -900001) X tb nc ⟨[], [(0, 15, 21, 13)], (0, 15, 16, 23), rfl, (fun z hz => by cases hz), by decide +kernel, by decide, rfl, cl_L_23, cstT_2⟩ ⟨by unfold InR; omega, kc_L_15, Or.inl ⟨4, by decide, dL_putDay_16, dL_putDay_18, dL_putDay_20⟩⟩ (Nat.le_of_ble_eq_true rfl) (Nat.le_of_ble_eq_true rfl) (by show O = _; rw [hO]; rfl)
      · exact jx_catchL (hp := 21) (z := -900002) X tb nc ⟨[(0, 15, 16, 23)], [], (0, 15, 21, 13), rfl, (List.forall_mem_cons.mpr ⟨⟨by decide, "java/lang/IndexOutOfBoundsException", cl_L_23, by decide +kernel⟩, (fun z hz => by cases hz)⟩), by decide +kernel, by decide, rfl, cl_L_13, cstT_0⟩ ⟨by unfold InR; omega, kc_L_18, Or.inl ⟨4, by decide, dL_putDay_21, dL_putDay_23, dL_putDay_25⟩⟩ (Nat.le_of_ble_eq_true rfl) (Nat.le_of_ble_eq_true rfl) (by show O = _; rw [hO]; rfl)
  · obtain ⟨r1, m1⟩ := r0
    intro v h9
    cases r1 with
    | inr x0 => cases h9
    | inl a =>
      cases h9
      show J SHL G rm_L_putDay (.inl O) C 2 12 7 [(0, VR 0), (1, VI p0), (2, VI p1), (3, VI p2)] [VI a] (putM 0 455 m m1)
      refine s_ifeq_t (tgt := 14) X dL_putDay_7 (by omega) (fun c1 => ?_) (fun c1 => ?_)
      · refine s_const X (by unfold InR; omega) dL_putDay_14 ?_
        exact s_iret X (Nat.le_of_ble_eq_true rfl) (Nat.le_of_ble_eq_true rfl) (by show O = _; rw [hO]; show ((_, putM 0 455 m m1) : Res × Mem) = _; rw [show hresB [2, 0] (.inl a, m1) = (if a = 0 then 0 else 1) from rfl, if_pos c1]) dL_putDay_15
      · refine s_const X (by unfold InR; omega) dL_putDay_10 ?_
        refine s_goto (tgt := 15) X dL_putDay_11 (by omega) ?_
        exact s_iret X (Nat.le_of_ble_eq_true rfl) (Nat.le_of_ble_eq_true rfl) (by show O = _; rw [hO]; show ((_, putM 0 455 m m1) : Res × Mem) = _; rw [show hresB [2, 0] (.inl a, m1) = (if a = 0 then 0 else 1) from rfl, if_neg c1]) dL_putDay_15
def rm_L_trip : Room := { frames := 8, cells := 4, slots := 24, locals := 127 }
def hh_L_trip : List (Nat × Nat × Nat × Nat) := [(0, 7, 8, 23), (0, 7, 13, 13), (0, 7, 18, 16)]
set_option maxRecDepth 20000 in
set_option maxHeartbeats 4000000 in
theorem H_trip (G : Gl) (p0 : Int) (p1 : Int) (p2 : Int) (m : Mem) (r : Int × Mem) (h : P_trip p0 p1 p2 m = some r) : ConW SHL G yL_trip cL_trip 5 (some .int) hh_L_trip rm_L_trip [VR 0, VI p0, VI p1, VI p2] m ((.inl (some (VI r.1)), r.2) : Res × Mem) := by
  unfold P_trip at h
  obtain ⟨r0, h0, h⟩ := bnd_some h
  obtain ⟨hx, h⟩ := grd_some h
  cases h
  refine conW_of (own := "LastbusLaw") (by decide) rfl (Nat.le_of_ble_eq_true rfl) (fun C X tb nc => ?_)
  obtain ⟨O, hO⟩ : ∃ O : Res × Mem, O = ((.inl (some (VI (hres [2, 0, 1] r0))), putM 0 455 m r0.2) : Res × Mem) := ⟨_, rfl⟩
  rw [show ((.inl (some (VI ((hres [2, 0, 1] r0, putM 0 455 m r0.2) : Int × Mem).1)), ((hres [2, 0, 1] r0, putM 0 455 m r0.2) : Int × Mem).2) : Res × Mem) = O from hO.symm]
  show J SHL G rm_L_trip (.inl O) C 0 0 0 [(0, VR 0), (1, VI p0), (2, VI p1), (3, VI p2)] [] m
  refine s_load0 X 0 rfl dL_trip_0 ?_
  refine s_iload_n X 1 rfl dL_trip_1 ?_
  refine s_iload_n X 2 rfl dL_trip_2 ?_
  refine s_iload_n X 3 rfl dL_trip_3 ?_
  refine s_callVH (As := [VI p0, VI p1, VI p2]) X cw_L_37 SHL_0 rfl dL_trip_4 (con_C (L_C_trip G p0 p1 p2 m r0 h0)) rfl ⟨Nat.le_of_ble_eq_true rfl, Nat.le_of_ble_eq_true rfl⟩ ⟨Nat.le_of_ble_eq_true rfl, Nat.le_of_ble_eq_true rfl⟩ (Nat.le_of_ble_eq_true rfl) ?_ ?_
  · obtain ⟨r1, m1⟩ := r0
    intro x h9
    cases r1 with
    | inl v => cases h9
    | inr x0 =>
      cases h9
      have hx0 := hx _ rfl
      simp only [List.mem_cons, List.not_mem_nil, or_false] at hx0
      rcases hx0 with rfl | rfl | rfl
      · exact jx_catchL (hp := 8) (z := -900001) X tb nc ⟨[], [(0, 7, 13, 13), (0, 7, 18, 16)], (0, 7, 8, 23), rfl, (fun z hz => by cases hz), by decide +kernel, by decide, rfl, cl_L_23, cstT_2⟩ ⟨by unfold InR; omega, kc_L_15, Or.inl ⟨4, by decide, dL_trip_8, dL_trip_10, dL_trip_12⟩⟩ (Nat.le_of_ble_eq_true rfl) (Nat.le_of_ble_eq_true rfl) (by show O = _; rw [hO]; rfl)
      · exact jx_catchL (hp := 13) (z := -900002) X tb nc ⟨[(0, 7, 8, 23)], [(0, 7, 18, 16)], (0, 7, 13, 13), rfl, (List.forall_mem_cons.mpr ⟨⟨by decide, "java/lang/IndexOutOfBoundsException", cl_L_23, by decide +kernel⟩, (fun z hz => by cases hz)⟩), by decide +kernel, by decide, rfl, cl_L_13, cstT_0⟩ ⟨by unfold InR; omega, kc_L_18, Or.inl ⟨4, by decide, dL_trip_13, dL_trip_15, dL_trip_17⟩⟩ (Nat.le_of_ble_eq_true rfl) (Nat.le_of_ble_eq_true rfl) (by show O = _; rw [hO]; rfl)
      · exact jx_catchL (hp := 18) (z := -900003) X tb nc ⟨[(0, 7, 8, 23), (0, 7, 13, 13)], [], (0, 7, 18, 16), rfl, (List.forall_mem_cons.mpr ⟨⟨by decide, "java/lang/IndexOutOfBoundsException", cl_L_23, by decide +kernel⟩, (List.forall_mem_cons.mpr ⟨⟨by decide, "java/lang/IllegalArgumentException", cl_L_13, by decide +kernel⟩, (fun z hz => by cases hz)⟩)⟩), by decide +kernel, by decide, rfl, cl_L_16, cstT_1⟩ ⟨by unfold InR; omega, kc_L_40, Or.inl ⟨4, by decide, dL_trip_18, dL_trip_20, dL_trip_22⟩⟩ (Nat.le_of_ble_eq_true rfl) (Nat.le_of_ble_eq_true rfl) (by show O = _; rw [hO]; rfl)
  · obtain ⟨r1, m1⟩ := r0
    intro v h9
    cases r1 with
    | inr x0 => cases h9
    | inl a =>
      cases h9
      show J SHL G rm_L_trip (.inl O) C 4 24 7 [(0, VR 0), (1, VI p0), (2, VI p1), (3, VI p2)] [VI a] (putM 0 455 m m1)
      exact s_iret X (Nat.le_of_ble_eq_true rfl) (Nat.le_of_ble_eq_true rfl) (by show O = _; rw [hO]; rfl) dL_trip_7
def rm_L_call : Room := { frames := 8, cells := 5, slots := 30, locals := 128 }
def hh_L_call : List (Nat × Nat × Nat × Nat) := [(0, 9, 10, 23), (0, 9, 15, 13), (0, 9, 20, 16)]
set_option maxRecDepth 20000 in
set_option maxHeartbeats 4000000 in
theorem H_call (G : Gl) (p0 : Int) (p1 : Int) (p2 : Int) (p3 : Int) (m : Mem) (r : Int × Mem) (h : P_call p0 p1 p2 p3 m = some r) : ConW SHL G yL_call cL_call 6 (some .int) hh_L_call rm_L_call [VR 0, VI p0, VI p1, VI p2, VI p3] m ((.inl (some (VI r.1)), r.2) : Res × Mem) := by
  unfold P_call at h
  obtain ⟨r0, h0, h⟩ := bnd_some h
  obtain ⟨hx, h⟩ := grd_some h
  cases h
  refine conW_of (own := "LastbusLaw") (by decide) rfl (Nat.le_of_ble_eq_true rfl) (fun C X tb nc => ?_)
  obtain ⟨O, hO⟩ : ∃ O : Res × Mem, O = ((.inl (some (VI (hres [2, 0, 1] r0))), putM 0 455 m r0.2) : Res × Mem) := ⟨_, rfl⟩
  rw [show ((.inl (some (VI ((hres [2, 0, 1] r0, putM 0 455 m r0.2) : Int × Mem).1)), ((hres [2, 0, 1] r0, putM 0 455 m r0.2) : Int × Mem).2) : Res × Mem) = O from hO.symm]
  show J SHL G rm_L_call (.inl O) C 0 0 0 [(0, VR 0), (1, VI p0), (2, VI p1), (3, VI p2), (4, VI p3)] [] m
  refine s_load0 X 0 rfl dL_call_0 ?_
  refine s_iload_n X 1 rfl dL_call_1 ?_
  refine s_iload_n X 2 rfl dL_call_2 ?_
  refine s_iload_n X 3 rfl dL_call_3 ?_
  refine s_iload X 4 rfl dL_call_4 ?_
  refine s_callVH (As := [VI p0, VI p1, VI p2, VI p3]) X cw_L_41 SHL_0 rfl dL_call_6 (con_C (L_C_call G p0 p1 p2 p3 m r0 h0)) rfl ⟨Nat.le_of_ble_eq_true rfl, Nat.le_of_ble_eq_true rfl⟩ ⟨Nat.le_of_ble_eq_true rfl, Nat.le_of_ble_eq_true rfl⟩ (Nat.le_of_ble_eq_true rfl) ?_ ?_
  · obtain ⟨r1, m1⟩ := r0
    intro x h9
    cases r1 with
    | inl v => cases h9
    | inr x0 =>
      cases h9
      have hx0 := hx _ rfl
      simp only [List.mem_cons, List.not_mem_nil, or_false] at hx0
      rcases hx0 with rfl | rfl | rfl
      · exact jx_catchL (hp := 10) (z := -900001) X tb nc ⟨[], [(0, 9, 15, 13), (0, 9, 20, 16)], (0, 9, 10, 23), rfl, (fun z hz => by cases hz), by decide +kernel, by decide, rfl, cl_L_23, cstT_2⟩ ⟨by unfold InR; omega, kc_L_15, Or.inl ⟨5, by decide, dL_call_10, dL_call_12, dL_call_14⟩⟩ (Nat.le_of_ble_eq_true rfl) (Nat.le_of_ble_eq_true rfl) (by show O = _; rw [hO]; rfl)
      · exact jx_catchL (hp := 15) (z := -900002) X tb nc ⟨[(0, 9, 10, 23)], [(0, 9, 20, 16)], (0, 9, 15, 13), rfl, (List.forall_mem_cons.mpr ⟨⟨by decide, "java/lang/IndexOutOfBoundsException", cl_L_23, by decide +kernel⟩, (fun z hz => by cases hz)⟩), by decide +kernel, by decide, rfl, cl_L_13, cstT_0⟩ ⟨by unfold InR; omega, kc_L_18, Or.inl ⟨5, by decide, dL_call_15, dL_call_17, dL_call_19⟩⟩ (Nat.le_of_ble_eq_true rfl) (Nat.le_of_ble_eq_true rfl) (by show O = _; rw [hO]; rfl)
      · exact jx_catchL (hp := 20) (z := -900003) X tb nc ⟨[(0, 9, 10, 23), (0, 9, 15, 13)], [], (0, 9, 20, 16), rfl, (List.forall_mem_cons.mpr ⟨⟨by decide, "java/lang/IndexOutOfBoundsException", cl_L_23, by decide +kernel⟩, (List.forall_mem_cons.mpr ⟨⟨by decide, "java/lang/IllegalArgumentException", cl_L_13, by decide +kernel⟩, (fun z hz => by cases hz)⟩)⟩), by decide +kernel, by decide, rfl, cl_L_16, cstT_1⟩ ⟨by unfold InR; omega, kc_L_40, Or.inl ⟨5, by decide, dL_call_20, dL_call_22, dL_call_24⟩⟩ (Nat.le_of_ble_eq_true rfl) (Nat.le_of_ble_eq_true rfl) (by show O = _; rw [hO]; rfl)
  · obtain ⟨r1, m1⟩ := r0
    intro v h9
    cases r1 with
    | inr x0 => cases h9
    | inl a =>
      cases h9
      show J SHL G rm_L_call (.inl O) C 5 30 9 [(0, VR 0), (1, VI p0), (2, VI p1), (3, VI p2), (4, VI p3)] [VI a] (putM 0 455 m m1)
      exact s_iret X (Nat.le_of_ble_eq_true rfl) (Nat.le_of_ble_eq_true rfl) (by show O = _; rw [hO]; rfl) dL_call_9
def rm_L_earliest : Room := { frames := 10, cells := 5, slots := 30, locals := 172 }
def hh_L_earliest : List (Nat × Nat × Nat × Nat) := [(0, 9, 10, 23), (0, 9, 15, 13), (0, 9, 20, 47)]
set_option maxRecDepth 20000 in
set_option maxHeartbeats 4000000 in
theorem H_earliest (G : Gl) (p0 : Int) (p1 : Int) (p2 : Int) (p3 : Int) (m : Mem) (r : Int × Mem) (h : P_earliest p0 p1 p2 p3 m = some r) : ConW SHL G yL_earliest cL_earliest 6 (some .int) hh_L_earliest rm_L_earliest [VR 0, VI p0, VI p1, VI p2, VI p3] m ((.inl (some (VI r.1)), r.2) : Res × Mem) := by
  unfold P_earliest at h
  obtain ⟨r0, h0, h⟩ := bnd_some h
  obtain ⟨hx, h⟩ := grd_some h
  cases h
  refine conW_of (own := "LastbusLaw") (by decide) rfl (Nat.le_of_ble_eq_true rfl) (fun C X tb nc => ?_)
  obtain ⟨O, hO⟩ : ∃ O : Res × Mem, O = ((.inl (some (VI (hres [2, 0, 5] r0))), putM 0 455 m r0.2) : Res × Mem) := ⟨_, rfl⟩
  rw [show ((.inl (some (VI ((hres [2, 0, 5] r0, putM 0 455 m r0.2) : Int × Mem).1)), ((hres [2, 0, 5] r0, putM 0 455 m r0.2) : Int × Mem).2) : Res × Mem) = O from hO.symm]
  show J SHL G rm_L_earliest (.inl O) C 0 0 0 [(0, VR 0), (1, VI p0), (2, VI p1), (3, VI p2), (4, VI p3)] [] m
  refine s_load0 X 0 rfl dL_earliest_0 ?_
  refine s_iload_n X 1 rfl dL_earliest_1 ?_
  refine s_iload_n X 2 rfl dL_earliest_2 ?_
  refine s_iload_n X 3 rfl dL_earliest_3 ?_
  refine s_iload X 4 rfl dL_earliest_4 ?_
  refine s_callVH (As := [VI p0, VI p1, VI p2, VI p3]) X cw_L_44 SHL_0 rfl dL_earliest_6 (con_C (L_C_earliest G p0 p1 p2 p3 m r0 h0)) rfl ⟨Nat.le_of_ble_eq_true rfl, Nat.le_of_ble_eq_true rfl⟩ ⟨Nat.le_of_ble_eq_true rfl, Nat.le_of_ble_eq_true rfl⟩ (Nat.le_of_ble_eq_true rfl) ?_ ?_
  · obtain ⟨r1, m1⟩ := r0
    intro x h9
    cases r1 with
    | inl v => cases h9
    | inr x0 =>
      cases h9
      have hx0 := hx _ rfl
      simp only [List.mem_cons, List.not_mem_nil, or_false] at hx0
      rcases hx0 with rfl | rfl | rfl
      · exact jx_catchL (hp := 10) (z := -900001) X tb nc ⟨[], [(0, 9, 15, 13), (0, 9, 20, 47)], (0, 9, 10, 23), rfl, (fun z hz => by cases hz), by decide +kernel, by decide, rfl, cl_L_23, cstT_2⟩ ⟨by unfold InR; omega, kc_L_15, Or.inl ⟨5, by decide, dL_earliest_10, dL_earliest_12, dL_earliest_14⟩⟩ (Nat.le_of_ble_eq_true rfl) (Nat.le_of_ble_eq_true rfl) (by show O = _; rw [hO]; rfl)
      · exact jx_catchL (hp := 15) (z := -900002) X tb nc ⟨[(0, 9, 10, 23)], [(0, 9, 20, 47)], (0, 9, 15, 13), rfl, (List.forall_mem_cons.mpr ⟨⟨by decide, "java/lang/IndexOutOfBoundsException", cl_L_23, by decide +kernel⟩, (fun z hz => by cases hz)⟩), by decide +kernel, by decide, rfl, cl_L_13, cstT_0⟩ ⟨by unfold InR; omega, kc_L_18, Or.inl ⟨5, by decide, dL_earliest_15, dL_earliest_17, dL_earliest_19⟩⟩ (Nat.le_of_ble_eq_true rfl) (Nat.le_of_ble_eq_true rfl) (by show O = _; rw [hO]; rfl)
      · exact jx_catchL (hp := 20) (z := -900003) X tb nc ⟨[(0, 9, 10, 23), (0, 9, 15, 13)], [], (0, 9, 20, 47), rfl, (List.forall_mem_cons.mpr ⟨⟨by decide, "java/lang/IndexOutOfBoundsException", cl_L_23, by decide +kernel⟩, (List.forall_mem_cons.mpr ⟨⟨by decide, "java/lang/IllegalArgumentException", cl_L_13, by decide +kernel⟩, (fun z hz => by cases hz)⟩)⟩), by decide +kernel, by decide, rfl, cl_L_47, cstT_5⟩ ⟨by unfold InR; omega, kc_L_40, Or.inl ⟨5, by decide, dL_earliest_20, dL_earliest_22, dL_earliest_24⟩⟩ (Nat.le_of_ble_eq_true rfl) (Nat.le_of_ble_eq_true rfl) (by show O = _; rw [hO]; rfl)
  · obtain ⟨r1, m1⟩ := r0
    intro v h9
    cases r1 with
    | inr x0 => cases h9
    | inl a =>
      cases h9
      show J SHL G rm_L_earliest (.inl O) C 5 30 9 [(0, VR 0), (1, VI p0), (2, VI p1), (3, VI p2), (4, VI p3)] [VI a] (putM 0 455 m m1)
      exact s_iret X (Nat.le_of_ble_eq_true rfl) (Nat.le_of_ble_eq_true rfl) (by show O = _; rw [hO]; rfl) dL_earliest_9
def rm_L_earliestByQueue : Room := { frames := 10, cells := 5, slots := 30, locals := 172 }
def hh_L_earliestByQueue : List (Nat × Nat × Nat × Nat) := [(0, 9, 10, 23), (0, 9, 15, 13), (0, 9, 20, 47)]
set_option maxRecDepth 20000 in
set_option maxHeartbeats 4000000 in
theorem H_earliestByQueue (G : Gl) (p0 : Int) (p1 : Int) (p2 : Int) (p3 : Int) (m : Mem) (r : Int × Mem) (h : P_earliestByQueue p0 p1 p2 p3 m = some r) : ConW SHL G yL_earliestByQueue cL_earliestByQueue 6 (some .int) hh_L_earliestByQueue rm_L_earliestByQueue [VR 0, VI p0, VI p1, VI p2, VI p3] m ((.inl (some (VI r.1)), r.2) : Res × Mem) := by
  unfold P_earliestByQueue at h
  obtain ⟨r0, h0, h⟩ := bnd_some h
  obtain ⟨hx, h⟩ := grd_some h
  cases h
  refine conW_of (own := "LastbusLaw") (by decide) rfl (Nat.le_of_ble_eq_true rfl) (fun C X tb nc => ?_)
  obtain ⟨O, hO⟩ : ∃ O : Res × Mem, O = ((.inl (some (VI (hres [2, 0, 5] r0))), putM 0 455 m r0.2) : Res × Mem) := ⟨_, rfl⟩
  rw [show ((.inl (some (VI ((hres [2, 0, 5] r0, putM 0 455 m r0.2) : Int × Mem).1)), ((hres [2, 0, 5] r0, putM 0 455 m r0.2) : Int × Mem).2) : Res × Mem) = O from hO.symm]
  show J SHL G rm_L_earliestByQueue (.inl O) C 0 0 0 [(0, VR 0), (1, VI p0), (2, VI p1), (3, VI p2), (4, VI p3)] [] m
  refine s_load0 X 0 rfl dL_earliestByQueue_0 ?_
  refine s_iload_n X 1 rfl dL_earliestByQueue_1 ?_
  refine s_iload_n X 2 rfl dL_earliestByQueue_2 ?_
  refine s_iload_n X 3 rfl dL_earliestByQueue_3 ?_
  refine s_iload X 4 rfl dL_earliestByQueue_4 ?_
  refine s_callVH (As := [VI p0, VI p1, VI p2, VI p3]) X cw_L_49 SHL_0 rfl dL_earliestByQueue_6 (con_C (L_C_earliestByQueue G p0 p1 p2 p3 m r0 h0)) rfl ⟨Nat.le_of_ble_eq_true rfl, Nat.le_of_ble_eq_true rfl⟩ ⟨Nat.le_of_ble_eq_true rfl, Nat.le_of_ble_eq_true rfl⟩ (Nat.le_of_ble_eq_true rfl) ?_ ?_
  · obtain ⟨r1, m1⟩ := r0
    intro x h9
    cases r1 with
    | inl v => cases h9
    | inr x0 =>
      cases h9
      have hx0 := hx _ rfl
      simp only [List.mem_cons, List.not_mem_nil, or_false] at hx0
      rcases hx0 with rfl | rfl | rfl
      · exact jx_catchL (hp := 10) (z := -900001) X tb nc ⟨[], [(0, 9, 15, 13), (0, 9, 20, 47)], (0, 9, 10, 23), rfl, (fun z hz => by cases hz), by decide +kernel, by decide, rfl, cl_L_23, cstT_2⟩ ⟨by unfold InR; omega, kc_L_15, Or.inl ⟨5, by decide, dL_earliestByQueue_10, dL_earliestByQueue_12, dL_earliestByQueue_14⟩⟩ (Nat.le_of_ble_eq_true rfl) (Nat.le_of_ble_eq_true rfl) (by show O = _; rw [hO]; rfl)
      · exact jx_catchL (hp := 15) (z := -900002) X tb nc ⟨[(0, 9, 10, 23)], [(0, 9, 20, 47)], (0, 9, 15, 13), rfl, (List.forall_mem_cons.mpr ⟨⟨by decide, "java/lang/IndexOutOfBoundsException", cl_L_23, by decide +kernel⟩, (fun z hz => by cases hz)⟩), by decide +kernel, by decide, rfl, cl_L_13, cstT_0⟩ ⟨by unfold InR; omega, kc_L_18, Or.inl ⟨5, by decide, dL_earliestByQueue_15, dL_earliestByQueue_17, dL_earliestByQueue_19⟩⟩ (Nat.le_of_ble_eq_true rfl) (Nat.le_of_ble_eq_true rfl) (by show O = _; rw [hO]; rfl)
      · exact jx_catchL (hp := 20) (z := -900003) X tb nc ⟨[(0, 9, 10, 23), (0, 9, 15, 13)], [], (0, 9, 20, 47), rfl, (List.forall_mem_cons.mpr ⟨⟨by decide, "java/lang/IndexOutOfBoundsException", cl_L_23, by decide +kernel⟩, (List.forall_mem_cons.mpr ⟨⟨by decide, "java/lang/IllegalArgumentException", cl_L_13, by decide +kernel⟩, (fun z hz => by cases hz)⟩)⟩), by decide +kernel, by decide, rfl, cl_L_47, cstT_5⟩ ⟨by unfold InR; omega, kc_L_40, Or.inl ⟨5, by decide, dL_earliestByQueue_20, dL_earliestByQueue_22, dL_earliestByQueue_24⟩⟩ (Nat.le_of_ble_eq_true rfl) (Nat.le_of_ble_eq_true rfl) (by show O = _; rw [hO]; rfl)
  · obtain ⟨r1, m1⟩ := r0
    intro v h9
    cases r1 with
    | inr x0 => cases h9
    | inl a =>
      cases h9
      show J SHL G rm_L_earliestByQueue (.inl O) C 5 30 9 [(0, VR 0), (1, VI p0), (2, VI p1), (3, VI p2), (4, VI p3)] [VI a] (putM 0 455 m m1)
      exact s_iret X (Nat.le_of_ble_eq_true rfl) (Nat.le_of_ble_eq_true rfl) (by show O = _; rw [hO]; rfl) dL_earliestByQueue_9
def rm_L_earliestByRounds : Room := { frames := 10, cells := 5, slots := 30, locals := 172 }
def hh_L_earliestByRounds : List (Nat × Nat × Nat × Nat) := [(0, 9, 10, 23), (0, 9, 15, 13), (0, 9, 20, 47)]
set_option maxRecDepth 20000 in
set_option maxHeartbeats 4000000 in
theorem H_earliestByRounds (G : Gl) (p0 : Int) (p1 : Int) (p2 : Int) (p3 : Int) (m : Mem) (r : Int × Mem) (h : P_earliestByRounds p0 p1 p2 p3 m = some r) : ConW SHL G yL_earliestByRounds cL_earliestByRounds 6 (some .int) hh_L_earliestByRounds rm_L_earliestByRounds [VR 0, VI p0, VI p1, VI p2, VI p3] m ((.inl (some (VI r.1)), r.2) : Res × Mem) := by
  unfold P_earliestByRounds at h
  obtain ⟨r0, h0, h⟩ := bnd_some h
  obtain ⟨hx, h⟩ := grd_some h
  cases h
  refine conW_of (own := "LastbusLaw") (by decide) rfl (Nat.le_of_ble_eq_true rfl) (fun C X tb nc => ?_)
  obtain ⟨O, hO⟩ : ∃ O : Res × Mem, O = ((.inl (some (VI (hres [2, 0, 5] r0))), putM 0 455 m r0.2) : Res × Mem) := ⟨_, rfl⟩
  rw [show ((.inl (some (VI ((hres [2, 0, 5] r0, putM 0 455 m r0.2) : Int × Mem).1)), ((hres [2, 0, 5] r0, putM 0 455 m r0.2) : Int × Mem).2) : Res × Mem) = O from hO.symm]
  show J SHL G rm_L_earliestByRounds (.inl O) C 0 0 0 [(0, VR 0), (1, VI p0), (2, VI p1), (3, VI p2), (4, VI p3)] [] m
  refine s_load0 X 0 rfl dL_earliestByRounds_0 ?_
  refine s_iload_n X 1 rfl dL_earliestByRounds_1 ?_
  refine s_iload_n X 2 rfl dL_earliestByRounds_2 ?_
  refine s_iload_n X 3 rfl dL_earliestByRounds_3 ?_
  refine s_iload X 4 rfl dL_earliestByRounds_4 ?_
  refine s_callVH (As := [VI p0, VI p1, VI p2, VI p3]) X cw_L_52 SHL_0 rfl dL_earliestByRounds_6 (con_C (L_C_earliestByRounds G p0 p1 p2 p3 m r0 h0)) rfl ⟨Nat.le_of_ble_eq_true rfl, Nat.le_of_ble_eq_true rfl⟩ ⟨Nat.le_of_ble_eq_true rfl, Nat.le_of_ble_eq_true rfl⟩ (Nat.le_of_ble_eq_true rfl) ?_ ?_
  · obtain ⟨r1, m1⟩ := r0
    intro x h9
    cases r1 with
    | inl v => cases h9
    | inr x0 =>
      cases h9
      have hx0 := hx _ rfl
      simp only [List.mem_cons, List.not_mem_nil, or_false] at hx0
      rcases hx0 with rfl | rfl | rfl
      · exact jx_catchL (hp := 10) (z := -900001) X tb nc ⟨[], [(0, 9, 15, 13), (0, 9, 20, 47)], (0, 9, 10, 23), rfl, (fun z hz => by cases hz), by decide +kernel, by decide, rfl, cl_L_23, cstT_2⟩ ⟨by unfold InR; omega, kc_L_15, Or.inl ⟨5, by decide, dL_earliestByRounds_10, dL_earliestByRounds_12, dL_earliestByRounds_14⟩⟩ (Nat.le_of_ble_eq_true rfl) (Nat.le_of_ble_eq_true rfl) (by show O = _; rw [hO]; rfl)
      · exact jx_catchL (hp := 15) (z := -900002) X tb nc ⟨[(0, 9, 10, 23)], [(0, 9, 20, 47)], (0, 9, 15, 13), rfl, (List.forall_mem_cons.mpr ⟨⟨by decide, "java/lang/IndexOutOfBoundsException", cl_L_23, by decide +kernel⟩, (fun z hz => by cases hz)⟩), by decide +kernel, by decide, rfl, cl_L_13, cstT_0⟩ ⟨by unfold InR; omega, kc_L_18, Or.inl ⟨5, by decide, dL_earliestByRounds_15, dL_earliestByRounds_17, dL_earliestByRounds_19⟩⟩ (Nat.le_of_ble_eq_true rfl) (Nat.le_of_ble_eq_true rfl) (by show O = _; rw [hO]; rfl)
      · exact jx_catchL (hp := 20) (z := -900003) X tb nc ⟨[(0, 9, 10, 23), (0, 9, 15, 13)], [], (0, 9, 20, 47), rfl, (List.forall_mem_cons.mpr ⟨⟨by decide, "java/lang/IndexOutOfBoundsException", cl_L_23, by decide +kernel⟩, (List.forall_mem_cons.mpr ⟨⟨by decide, "java/lang/IllegalArgumentException", cl_L_13, by decide +kernel⟩, (fun z hz => by cases hz)⟩)⟩), by decide +kernel, by decide, rfl, cl_L_47, cstT_5⟩ ⟨by unfold InR; omega, kc_L_40, Or.inl ⟨5, by decide, dL_earliestByRounds_20, dL_earliestByRounds_22, dL_earliestByRounds_24⟩⟩ (Nat.le_of_ble_eq_true rfl) (Nat.le_of_ble_eq_true rfl) (by show O = _; rw [hO]; rfl)
  · obtain ⟨r1, m1⟩ := r0
    intro v h9
    cases r1 with
    | inr x0 => cases h9
    | inl a =>
      cases h9
      show J SHL G rm_L_earliestByRounds (.inl O) C 5 30 9 [(0, VR 0), (1, VI p0), (2, VI p1), (3, VI p2), (4, VI p3)] [VI a] (putM 0 455 m m1)
      exact s_iret X (Nat.le_of_ble_eq_true rfl) (Nat.le_of_ble_eq_true rfl) (by show O = _; rw [hO]; rfl) dL_earliestByRounds_9
def rm_L_wall : Room := { frames := 9, cells := 4, slots := 24, locals := 150 }
def hh_L_wall : List (Nat × Nat × Nat × Nat) := [(0, 9, 10, 23), (0, 9, 15, 13)]
set_option maxRecDepth 20000 in
set_option maxHeartbeats 4000000 in
theorem H_wall (G : Gl) (p0 : Int) (p1 : Int) (p2 : Int) (p3 : Int) (m : Mem) (r : Int × Mem) (h : P_wall p0 p1 p2 p3 m = some r) : ConW SHL G yL_wall cL_wall 6 (some .int) hh_L_wall rm_L_wall [VR 0, VI p0, VI p1, VI p2, VI p3] m ((.inl (some (VI r.1)), r.2) : Res × Mem) := by
  unfold P_wall at h
  obtain ⟨r0, h0, h⟩ := bnd_some h
  obtain ⟨hx, h⟩ := grd_some h
  cases h
  refine conW_of (own := "LastbusLaw") (by decide) rfl (Nat.le_of_ble_eq_true rfl) (fun C X tb nc => ?_)
  obtain ⟨O, hO⟩ : ∃ O : Res × Mem, O = ((.inl (some (VI (hres [2, 0] r0))), putM 0 455 m r0.2) : Res × Mem) := ⟨_, rfl⟩
  rw [show ((.inl (some (VI ((hres [2, 0] r0, putM 0 455 m r0.2) : Int × Mem).1)), ((hres [2, 0] r0, putM 0 455 m r0.2) : Int × Mem).2) : Res × Mem) = O from hO.symm]
  show J SHL G rm_L_wall (.inl O) C 0 0 0 [(0, VR 0), (1, VI p0), (2, VI p1), (3, VI p2), (4, VI p3)] [] m
  refine s_load0 X 0 rfl dL_wall_0 ?_
  refine s_iload_n X 1 rfl dL_wall_1 ?_
  refine s_iload_n X 2 rfl dL_wall_2 ?_
  refine s_iload_n X 3 rfl dL_wall_3 ?_
  refine s_iload X 4 rfl dL_wall_4 ?_
  refine s_callVH (As := [VI p0, VI p1, VI p2, VI p3]) X cw_L_55 SHL_0 rfl dL_wall_6 (con_C (L_C_wall G p0 p1 p2 p3 m r0 h0)) rfl ⟨Nat.le_of_ble_eq_true rfl, Nat.le_of_ble_eq_true rfl⟩ ⟨Nat.le_of_ble_eq_true rfl, Nat.le_of_ble_eq_true rfl⟩ (Nat.le_of_ble_eq_true rfl) ?_ ?_
  · obtain ⟨r1, m1⟩ := r0
    intro x h9
    cases r1 with
    | inl v => cases h9
    | inr x0 =>
      cases h9
      have hx0 := hx _ rfl
      simp only [List.mem_cons, List.not_mem_nil, or_false] at hx0
      rcases hx0 with rfl | rfl
      · exact jx_catchL (hp := 10) (z := -900001) X tb nc ⟨[], [(0, 9, 15, 13)], (0, 9, 10, 23), rfl, (fun z hz => by cases hz), by decide +kernel, by decide, rfl, cl_L_23, cstT_2⟩ ⟨by unfold InR; omega, kc_L_15, Or.inl ⟨5, by decide, dL_wall_10, dL_wall_12, dL_wall_14⟩⟩ (Nat.le_of_ble_eq_true rfl) (Nat.le_of_ble_eq_true rfl) (by show O = _; rw [hO]; rfl)
      · exact jx_catchL (hp := 15) (z := -900002) X tb nc ⟨[(0, 9, 10, 23)], [], (0, 9, 15, 13), rfl, (List.forall_mem_cons.mpr ⟨⟨by decide, "java/lang/IndexOutOfBoundsException", cl_L_23, by decide +kernel⟩, (fun z hz => by cases hz)⟩), by decide +kernel, by decide, rfl, cl_L_13, cstT_0⟩ ⟨by unfold InR; omega, kc_L_18, Or.inl ⟨5, by decide, dL_wall_15, dL_wall_17, dL_wall_19⟩⟩ (Nat.le_of_ble_eq_true rfl) (Nat.le_of_ble_eq_true rfl) (by show O = _; rw [hO]; rfl)
  · obtain ⟨r1, m1⟩ := r0
    intro v h9
    cases r1 with
    | inr x0 => cases h9
    | inl a =>
      cases h9
      show J SHL G rm_L_wall (.inl O) C 4 24 9 [(0, VR 0), (1, VI p0), (2, VI p1), (3, VI p2), (4, VI p3)] [VI a] (putM 0 455 m m1)
      exact s_iret X (Nat.le_of_ble_eq_true rfl) (Nat.le_of_ble_eq_true rfl) (by show O = _; rw [hO]; rfl) dL_wall_9
def rm_L_last : Room := { frames := 9, cells := 5, slots := 30, locals := 184 }
def hh_L_last : List (Nat × Nat × Nat × Nat) := [(0, 9, 10, 23), (0, 9, 15, 13), (0, 9, 20, 47)]
set_option maxRecDepth 20000 in
set_option maxHeartbeats 4000000 in
theorem H_last (G : Gl) (p0 : Int) (p1 : Int) (p2 : Int) (p3 : Int) (m : Mem) (r : Int × Mem) (h : P_last p0 p1 p2 p3 m = some r) : ConW SHL G yL_last cL_last 6 (some .int) hh_L_last rm_L_last [VR 0, VI p0, VI p1, VI p2, VI p3] m ((.inl (some (VI r.1)), r.2) : Res × Mem) := by
  unfold P_last at h
  obtain ⟨r0, h0, h⟩ := bnd_some h
  obtain ⟨hx, h⟩ := grd_some h
  cases h
  refine conW_of (own := "LastbusLaw") (by decide) rfl (Nat.le_of_ble_eq_true rfl) (fun C X tb nc => ?_)
  obtain ⟨O, hO⟩ : ∃ O : Res × Mem, O = ((.inl (some (VI (hres [2, 0, 5] r0))), putM 0 455 m r0.2) : Res × Mem) := ⟨_, rfl⟩
  rw [show ((.inl (some (VI ((hres [2, 0, 5] r0, putM 0 455 m r0.2) : Int × Mem).1)), ((hres [2, 0, 5] r0, putM 0 455 m r0.2) : Int × Mem).2) : Res × Mem) = O from hO.symm]
  show J SHL G rm_L_last (.inl O) C 0 0 0 [(0, VR 0), (1, VI p0), (2, VI p1), (3, VI p2), (4, VI p3)] [] m
  refine s_load0 X 0 rfl dL_last_0 ?_
  refine s_iload_n X 1 rfl dL_last_1 ?_
  refine s_iload_n X 2 rfl dL_last_2 ?_
  refine s_iload_n X 3 rfl dL_last_3 ?_
  refine s_iload X 4 rfl dL_last_4 ?_
  refine s_callVH (As := [VI p0, VI p1, VI p2, VI p3]) X cw_L_58 SHL_0 rfl dL_last_6 (con_C (L_C_last G p0 p1 p2 p3 m r0 h0)) rfl ⟨Nat.le_of_ble_eq_true rfl, Nat.le_of_ble_eq_true rfl⟩ ⟨Nat.le_of_ble_eq_true rfl, Nat.le_of_ble_eq_true rfl⟩ (Nat.le_of_ble_eq_true rfl) ?_ ?_
  · obtain ⟨r1, m1⟩ := r0
    intro x h9
    cases r1 with
    | inl v => cases h9
    | inr x0 =>
      cases h9
      have hx0 := hx _ rfl
      simp only [List.mem_cons, List.not_mem_nil, or_false] at hx0
      rcases hx0 with rfl | rfl | rfl
      · exact jx_catchL (hp := 10) (z := -900001) X tb nc ⟨[], [(0, 9, 15, 13), (0, 9, 20, 47)], (0, 9, 10, 23), rfl, (fun z hz => by cases hz), by decide +kernel, by decide, rfl, cl_L_23, cstT_2⟩ ⟨by unfold InR; omega, kc_L_15, Or.inl ⟨5, by decide, dL_last_10, dL_last_12, dL_last_14⟩⟩ (Nat.le_of_ble_eq_true rfl) (Nat.le_of_ble_eq_true rfl) (by show O = _; rw [hO]; rfl)
      · exact jx_catchL (hp := 15) (z := -900002) X tb nc ⟨[(0, 9, 10, 23)], [(0, 9, 20, 47)], (0, 9, 15, 13), rfl, (List.forall_mem_cons.mpr ⟨⟨by decide, "java/lang/IndexOutOfBoundsException", cl_L_23, by decide +kernel⟩, (fun z hz => by cases hz)⟩), by decide +kernel, by decide, rfl, cl_L_13, cstT_0⟩ ⟨by unfold InR; omega, kc_L_18, Or.inl ⟨5, by decide, dL_last_15, dL_last_17, dL_last_19⟩⟩ (Nat.le_of_ble_eq_true rfl) (Nat.le_of_ble_eq_true rfl) (by show O = _; rw [hO]; rfl)
      · exact jx_catchL (hp := 20) (z := -900003) X tb nc ⟨[(0, 9, 10, 23), (0, 9, 15, 13)], [], (0, 9, 20, 47), rfl, (List.forall_mem_cons.mpr ⟨⟨by decide, "java/lang/IndexOutOfBoundsException", cl_L_23, by decide +kernel⟩, (List.forall_mem_cons.mpr ⟨⟨by decide, "java/lang/IllegalArgumentException", cl_L_13, by decide +kernel⟩, (fun z hz => by cases hz)⟩)⟩), by decide +kernel, by decide, rfl, cl_L_47, cstT_5⟩ ⟨by unfold InR; omega, kc_L_40, Or.inl ⟨5, by decide, dL_last_20, dL_last_22, dL_last_24⟩⟩ (Nat.le_of_ble_eq_true rfl) (Nat.le_of_ble_eq_true rfl) (by show O = _; rw [hO]; rfl)
  · obtain ⟨r1, m1⟩ := r0
    intro v h9
    cases r1 with
    | inr x0 => cases h9
    | inl a =>
      cases h9
      show J SHL G rm_L_last (.inl O) C 5 30 9 [(0, VR 0), (1, VI p0), (2, VI p1), (3, VI p2), (4, VI p3)] [VI a] (putM 0 455 m m1)
      exact s_iret X (Nat.le_of_ble_eq_true rfl) (Nat.le_of_ble_eq_true rfl) (by show O = _; rw [hO]; rfl) dL_last_9
def rm_L_chain : Room := { frames := 10, cells := 5, slots := 30, locals := 174 }
def hh_L_chain : List (Nat × Nat × Nat × Nat) := [(0, 9, 10, 23), (0, 9, 15, 13), (0, 9, 20, 47)]
set_option maxRecDepth 20000 in
set_option maxHeartbeats 4000000 in
theorem H_chain (G : Gl) (p0 : Int) (p1 : Int) (p2 : Int) (p3 : Int) (m : Mem) (r : Int × Mem) (h : P_chain p0 p1 p2 p3 m = some r) : ConW SHL G yL_chain cL_chain 6 (some .int) hh_L_chain rm_L_chain [VR 0, VI p0, VI p1, VI p2, VI p3] m ((.inl (some (VI r.1)), r.2) : Res × Mem) := by
  unfold P_chain at h
  obtain ⟨r0, h0, h⟩ := bnd_some h
  obtain ⟨hx, h⟩ := grd_some h
  cases h
  refine conW_of (own := "LastbusLaw") (by decide) rfl (Nat.le_of_ble_eq_true rfl) (fun C X tb nc => ?_)
  obtain ⟨O, hO⟩ : ∃ O : Res × Mem, O = ((.inl (some (VI (hres [2, 0, 5] r0))), putM 0 455 m r0.2) : Res × Mem) := ⟨_, rfl⟩
  rw [show ((.inl (some (VI ((hres [2, 0, 5] r0, putM 0 455 m r0.2) : Int × Mem).1)), ((hres [2, 0, 5] r0, putM 0 455 m r0.2) : Int × Mem).2) : Res × Mem) = O from hO.symm]
  show J SHL G rm_L_chain (.inl O) C 0 0 0 [(0, VR 0), (1, VI p0), (2, VI p1), (3, VI p2), (4, VI p3)] [] m
  refine s_load0 X 0 rfl dL_chain_0 ?_
  refine s_iload_n X 1 rfl dL_chain_1 ?_
  refine s_iload_n X 2 rfl dL_chain_2 ?_
  refine s_iload_n X 3 rfl dL_chain_3 ?_
  refine s_iload X 4 rfl dL_chain_4 ?_
  refine s_callVH (As := [VI p0, VI p1, VI p2, VI p3]) X cw_L_61 SHL_0 rfl dL_chain_6 (con_C (L_C_chain G p0 p1 p2 p3 m r0 h0)) rfl ⟨Nat.le_of_ble_eq_true rfl, Nat.le_of_ble_eq_true rfl⟩ ⟨Nat.le_of_ble_eq_true rfl, Nat.le_of_ble_eq_true rfl⟩ (Nat.le_of_ble_eq_true rfl) ?_ ?_
  · obtain ⟨r1, m1⟩ := r0
    intro x h9
    cases r1 with
    | inl v => cases h9
    | inr x0 =>
      cases h9
      have hx0 := hx _ rfl
      simp only [List.mem_cons, List.not_mem_nil, or_false] at hx0
      rcases hx0 with rfl | rfl | rfl
      · exact jx_catchL (hp := 10) (z := -900001) X tb nc ⟨[], [(0, 9, 15, 13), (0, 9, 20, 47)], (0, 9, 10, 23), rfl, (fun z hz => by cases hz), by decide +kernel, by decide, rfl, cl_L_23, cstT_2⟩ ⟨by unfold InR; omega, kc_L_15, Or.inl ⟨5, by decide, dL_chain_10, dL_chain_12, dL_chain_14⟩⟩ (Nat.le_of_ble_eq_true rfl) (Nat.le_of_ble_eq_true rfl) (by show O = _; rw [hO]; rfl)
      · exact jx_catchL (hp := 15) (z := -900002) X tb nc ⟨[(0, 9, 10, 23)], [(0, 9, 20, 47)], (0, 9, 15, 13), rfl, (List.forall_mem_cons.mpr ⟨⟨by decide, "java/lang/IndexOutOfBoundsException", cl_L_23, by decide +kernel⟩, (fun z hz => by cases hz)⟩), by decide +kernel, by decide, rfl, cl_L_13, cstT_0⟩ ⟨by unfold InR; omega, kc_L_18, Or.inl ⟨5, by decide, dL_chain_15, dL_chain_17, dL_chain_19⟩⟩ (Nat.le_of_ble_eq_true rfl) (Nat.le_of_ble_eq_true rfl) (by show O = _; rw [hO]; rfl)
      · exact jx_catchL (hp := 20) (z := -900003) X tb nc ⟨[(0, 9, 10, 23), (0, 9, 15, 13)], [], (0, 9, 20, 47), rfl, (List.forall_mem_cons.mpr ⟨⟨by decide, "java/lang/IndexOutOfBoundsException", cl_L_23, by decide +kernel⟩, (List.forall_mem_cons.mpr ⟨⟨by decide, "java/lang/IllegalArgumentException", cl_L_13, by decide +kernel⟩, (fun z hz => by cases hz)⟩)⟩), by decide +kernel, by decide, rfl, cl_L_47, cstT_5⟩ ⟨by unfold InR; omega, kc_L_40, Or.inl ⟨5, by decide, dL_chain_20, dL_chain_22, dL_chain_24⟩⟩ (Nat.le_of_ble_eq_true rfl) (Nat.le_of_ble_eq_true rfl) (by show O = _; rw [hO]; rfl)
  · obtain ⟨r1, m1⟩ := r0
    intro v h9
    cases r1 with
    | inr x0 => cases h9
    | inl a =>
      cases h9
      show J SHL G rm_L_chain (.inl O) C 5 30 9 [(0, VR 0), (1, VI p0), (2, VI p1), (3, VI p2), (4, VI p3)] [VI a] (putM 0 455 m m1)
      exact s_iret X (Nat.le_of_ble_eq_true rfl) (Nat.le_of_ble_eq_true rfl) (by show O = _; rw [hO]; rfl) dL_chain_9
def rm_L_ride : Room := { frames := 7, cells := 2, slots := 12, locals := 104 }
def hh_L_ride : List (Nat × Nat × Nat × Nat) := [(0, 6, 7, 13), (0, 6, 11, 47)]
set_option maxRecDepth 20000 in
set_option maxHeartbeats 4000000 in
theorem H_ride (G : Gl) (p0 : Int) (p1 : Int) (m : Mem) (r : Int × Mem) (h : P_ride p0 p1 m = some r) : ConW SHL G yL_ride cL_ride 4 (some .int) hh_L_ride rm_L_ride [VR 0, VI p0, VI p1] m ((.inl (some (VI r.1)), r.2) : Res × Mem) := by
  unfold P_ride at h
  obtain ⟨r0, h0, h⟩ := bnd_some h
  obtain ⟨hx, h⟩ := grd_some h
  cases h
  refine conW_of (own := "LastbusLaw") (by decide) rfl (Nat.le_of_ble_eq_true rfl) (fun C X tb nc => ?_)
  obtain ⟨O, hO⟩ : ∃ O : Res × Mem, O = ((.inl (some (VI (hres [0, 5] r0))), putM 0 455 m r0.2) : Res × Mem) := ⟨_, rfl⟩
  rw [show ((.inl (some (VI ((hres [0, 5] r0, putM 0 455 m r0.2) : Int × Mem).1)), ((hres [0, 5] r0, putM 0 455 m r0.2) : Int × Mem).2) : Res × Mem) = O from hO.symm]
  show J SHL G rm_L_ride (.inl O) C 0 0 0 [(0, VR 0), (1, VI p0), (2, VI p1)] [] m
  refine s_load0 X 0 rfl dL_ride_0 ?_
  refine s_iload_n X 1 rfl dL_ride_1 ?_
  refine s_iload_n X 2 rfl dL_ride_2 ?_
  refine s_callVH (As := [VI p0, VI p1]) X cw_L_64 SHL_0 rfl dL_ride_3 (con_C (L_C_ride G p0 p1 m r0 h0)) rfl ⟨Nat.le_of_ble_eq_true rfl, Nat.le_of_ble_eq_true rfl⟩ ⟨Nat.le_of_ble_eq_true rfl, Nat.le_of_ble_eq_true rfl⟩ (Nat.le_of_ble_eq_true rfl) ?_ ?_
  · obtain ⟨r1, m1⟩ := r0
    intro x h9
    cases r1 with
    | inl v => cases h9
    | inr x0 =>
      cases h9
      have hx0 := hx _ rfl
      simp only [List.mem_cons, List.not_mem_nil, or_false] at hx0
      rcases hx0 with rfl | rfl
      · exact jx_catchL (hp := 7) (z := -900001) X tb nc ⟨[], [(0, 6, 11, 47)], (0, 6, 7, 13), rfl, (fun z hz => by cases hz), by decide +kernel, by decide, rfl, cl_L_13, cstT_0⟩ ⟨by unfold InR; omega, kc_L_15, Or.inr ⟨3, by decide, dL_ride_7, dL_ride_8, dL_ride_10⟩⟩ (Nat.le_of_ble_eq_true rfl) (Nat.le_of_ble_eq_true rfl) (by show O = _; rw [hO]; rfl)
      · exact jx_catchL (hp := 11) (z := -900002) X tb nc ⟨[(0, 6, 7, 13)], [], (0, 6, 11, 47), rfl, (List.forall_mem_cons.mpr ⟨⟨by decide, "java/lang/IllegalArgumentException", cl_L_13, by decide +kernel⟩, (fun z hz => by cases hz)⟩), by decide +kernel, by decide, rfl, cl_L_47, cstT_5⟩ ⟨by unfold InR; omega, kc_L_18, Or.inr ⟨3, by decide, dL_ride_11, dL_ride_12, dL_ride_14⟩⟩ (Nat.le_of_ble_eq_true rfl) (Nat.le_of_ble_eq_true rfl) (by show O = _; rw [hO]; rfl)
  · obtain ⟨r1, m1⟩ := r0
    intro v h9
    cases r1 with
    | inr x0 => cases h9
    | inl a =>
      cases h9
      show J SHL G rm_L_ride (.inl O) C 2 12 6 [(0, VR 0), (1, VI p0), (2, VI p1)] [VI a] (putM 0 455 m m1)
      exact s_iret X (Nat.le_of_ble_eq_true rfl) (Nat.le_of_ble_eq_true rfl) (by show O = _; rw [hO]; rfl) dL_ride_6
def rm_L_pairs : Room := { frames := 10, cells := 4, slots := 24, locals := 205 }
def hh_L_pairs : List (Nat × Nat × Nat × Nat) := [(0, 7, 8, 23), (0, 7, 13, 13)]
set_option maxRecDepth 20000 in
set_option maxHeartbeats 4000000 in
theorem H_pairs (G : Gl) (p0 : Int) (p1 : Int) (p2 : Int) (m : Mem) (r : Int × Mem) (h : P_pairs p0 p1 p2 m = some r) : ConW SHL G yL_pairs cL_pairs 5 (some .int) hh_L_pairs rm_L_pairs [VR 0, VI p0, VI p1, VI p2] m ((.inl (some (VI r.1)), r.2) : Res × Mem) := by
  unfold P_pairs at h
  obtain ⟨r0, h0, h⟩ := bnd_some h
  obtain ⟨hx, h⟩ := grd_some h
  cases h
  refine conW_of (own := "LastbusLaw") (by decide) rfl (Nat.le_of_ble_eq_true rfl) (fun C X tb nc => ?_)
  obtain ⟨O, hO⟩ : ∃ O : Res × Mem, O = ((.inl (some (VI (hres [2, 0] r0))), putM 0 455 m r0.2) : Res × Mem) := ⟨_, rfl⟩
  rw [show ((.inl (some (VI ((hres [2, 0] r0, putM 0 455 m r0.2) : Int × Mem).1)), ((hres [2, 0] r0, putM 0 455 m r0.2) : Int × Mem).2) : Res × Mem) = O from hO.symm]
  show J SHL G rm_L_pairs (.inl O) C 0 0 0 [(0, VR 0), (1, VI p0), (2, VI p1), (3, VI p2)] [] m
  refine s_load0 X 0 rfl dL_pairs_0 ?_
  refine s_iload_n X 1 rfl dL_pairs_1 ?_
  refine s_iload_n X 2 rfl dL_pairs_2 ?_
  refine s_iload_n X 3 rfl dL_pairs_3 ?_
  refine s_callVH (As := [VI p0, VI p1, VI p2]) X cw_L_68 SHL_0 rfl dL_pairs_4 (con_C (L_C_pairs G p0 p1 p2 m r0 h0)) rfl ⟨Nat.le_of_ble_eq_true rfl, Nat.le_of_ble_eq_true rfl⟩ ⟨Nat.le_of_ble_eq_true rfl, Nat.le_of_ble_eq_true rfl⟩ (Nat.le_of_ble_eq_true rfl) ?_ ?_
  · obtain ⟨r1, m1⟩ := r0
    intro x h9
    cases r1 with
    | inl v => cases h9
    | inr x0 =>
      cases h9
      have hx0 := hx _ rfl
      simp only [List.mem_cons, List.not_mem_nil, or_false] at hx0
      rcases hx0 with rfl | rfl
      · exact jx_catchL (hp := 8) (z := -900001) X tb nc ⟨[], [(0, 7, 13, 13)], (0, 7, 8, 23), rfl, (fun z hz => by cases hz), by decide +kernel, by decide, rfl, cl_L_23, cstT_2⟩ ⟨by unfold InR; omega, kc_L_15, Or.inl ⟨4, by decide, dL_pairs_8, dL_pairs_10, dL_pairs_12⟩⟩ (Nat.le_of_ble_eq_true rfl) (Nat.le_of_ble_eq_true rfl) (by show O = _; rw [hO]; rfl)
      · exact jx_catchL (hp := 13) (z := -900002) X tb nc ⟨[(0, 7, 8, 23)], [], (0, 7, 13, 13), rfl, (List.forall_mem_cons.mpr ⟨⟨by decide, "java/lang/IndexOutOfBoundsException", cl_L_23, by decide +kernel⟩, (fun z hz => by cases hz)⟩), by decide +kernel, by decide, rfl, cl_L_13, cstT_0⟩ ⟨by unfold InR; omega, kc_L_18, Or.inl ⟨4, by decide, dL_pairs_13, dL_pairs_15, dL_pairs_17⟩⟩ (Nat.le_of_ble_eq_true rfl) (Nat.le_of_ble_eq_true rfl) (by show O = _; rw [hO]; rfl)
  · obtain ⟨r1, m1⟩ := r0
    intro v h9
    cases r1 with
    | inr x0 => cases h9
    | inl a =>
      cases h9
      show J SHL G rm_L_pairs (.inl O) C 4 24 7 [(0, VR 0), (1, VI p0), (2, VI p1), (3, VI p2)] [VI a] (putM 0 455 m m1)
      exact s_iret X (Nat.le_of_ble_eq_true rfl) (Nat.le_of_ble_eq_true rfl) (by show O = _; rw [hO]; rfl) dL_pairs_7
def rm_L_pair : Room := { frames := 10, cells := 5, slots := 30, locals := 207 }
def hh_L_pair : List (Nat × Nat × Nat × Nat) := [(0, 11, 12, 23), (0, 11, 17, 13), (0, 11, 22, 47)]
set_option maxRecDepth 20000 in
set_option maxHeartbeats 4000000 in
theorem H_pair (G : Gl) (p0 : Int) (p1 : Int) (p2 : Int) (p3 : Int) (p4 : Int) (m : Mem) (r : Int × Mem) (h : P_pair p0 p1 p2 p3 p4 m = some r) : ConW SHL G yL_pair cL_pair 7 (some .int) hh_L_pair rm_L_pair [VR 0, VI p0, VI p1, VI p2, VI p3, VI p4] m ((.inl (some (VI r.1)), r.2) : Res × Mem) := by
  unfold P_pair at h
  obtain ⟨r0, h0, h⟩ := bnd_some h
  obtain ⟨hx, h⟩ := grd_some h
  cases h
  refine conW_of (own := "LastbusLaw") (by decide) rfl (Nat.le_of_ble_eq_true rfl) (fun C X tb nc => ?_)
  obtain ⟨O, hO⟩ : ∃ O : Res × Mem, O = ((.inl (some (VI (hres [2, 0, 5] r0))), putM 0 455 m r0.2) : Res × Mem) := ⟨_, rfl⟩
  rw [show ((.inl (some (VI ((hres [2, 0, 5] r0, putM 0 455 m r0.2) : Int × Mem).1)), ((hres [2, 0, 5] r0, putM 0 455 m r0.2) : Int × Mem).2) : Res × Mem) = O from hO.symm]
  show J SHL G rm_L_pair (.inl O) C 0 0 0 [(0, VR 0), (1, VI p0), (2, VI p1), (3, VI p2), (4, VI p3), (5, VI p4)] [] m
  refine s_load0 X 0 rfl dL_pair_0 ?_
  refine s_iload_n X 1 rfl dL_pair_1 ?_
  refine s_iload_n X 2 rfl dL_pair_2 ?_
  refine s_iload_n X 3 rfl dL_pair_3 ?_
  refine s_iload X 4 rfl dL_pair_4 ?_
  refine s_iload X 5 rfl dL_pair_6 ?_
  refine s_callVH (As := [VI p0, VI p1, VI p2, VI p3, VI p4]) X cw_L_71 SHL_0 rfl dL_pair_8 (con_C (L_C_pair G p0 p1 p2 p3 p4 m r0 h0)) rfl ⟨Nat.le_of_ble_eq_true rfl, Nat.le_of_ble_eq_true rfl⟩ ⟨Nat.le_of_ble_eq_true rfl, Nat.le_of_ble_eq_true rfl⟩ (Nat.le_of_ble_eq_true rfl) ?_ ?_
  · obtain ⟨r1, m1⟩ := r0
    intro x h9
    cases r1 with
    | inl v => cases h9
    | inr x0 =>
      cases h9
      have hx0 := hx _ rfl
      simp only [List.mem_cons, List.not_mem_nil, or_false] at hx0
      rcases hx0 with rfl | rfl | rfl
      · exact jx_catchL (hp := 12) (z := -900001) X tb nc ⟨[], [(0, 11, 17, 13), (0, 11, 22, 47)], (0, 11, 12, 23), rfl, (fun z hz => by cases hz), by decide +kernel, by decide, rfl, cl_L_23, cstT_2⟩ ⟨by unfold InR; omega, kc_L_15, Or.inl ⟨6, by decide, dL_pair_12, dL_pair_14, dL_pair_16⟩⟩ (Nat.le_of_ble_eq_true rfl) (Nat.le_of_ble_eq_true rfl) (by show O = _; rw [hO]; rfl)
      · exact jx_catchL (hp := 17) (z := -900002) X tb nc ⟨[(0, 11, 12, 23)], [(0, 11, 22, 47)], (0, 11, 17, 13), rfl, (List.forall_mem_cons.mpr ⟨⟨by decide, "java/lang/IndexOutOfBoundsException", cl_L_23, by decide +kernel⟩, (fun z hz => by cases hz)⟩), by decide +kernel, by decide, rfl, cl_L_13, cstT_0⟩ ⟨by unfold InR; omega, kc_L_18, Or.inl ⟨6, by decide, dL_pair_17, dL_pair_19, dL_pair_21⟩⟩ (Nat.le_of_ble_eq_true rfl) (Nat.le_of_ble_eq_true rfl) (by show O = _; rw [hO]; rfl)
      · exact jx_catchL (hp := 22) (z := -900003) X tb nc ⟨[(0, 11, 12, 23), (0, 11, 17, 13)], [], (0, 11, 22, 47), rfl, (List.forall_mem_cons.mpr ⟨⟨by decide, "java/lang/IndexOutOfBoundsException", cl_L_23, by decide +kernel⟩, (List.forall_mem_cons.mpr ⟨⟨by decide, "java/lang/IllegalArgumentException", cl_L_13, by decide +kernel⟩, (fun z hz => by cases hz)⟩)⟩), by decide +kernel, by decide, rfl, cl_L_47, cstT_5⟩ ⟨by unfold InR; omega, kc_L_40, Or.inl ⟨6, by decide, dL_pair_22, dL_pair_24, dL_pair_26⟩⟩ (Nat.le_of_ble_eq_true rfl) (Nat.le_of_ble_eq_true rfl) (by show O = _; rw [hO]; rfl)
  · obtain ⟨r1, m1⟩ := r0
    intro v h9
    cases r1 with
    | inr x0 => cases h9
    | inl a =>
      cases h9
      show J SHL G rm_L_pair (.inl O) C 5 30 11 [(0, VR 0), (1, VI p0), (2, VI p1), (3, VI p2), (4, VI p3), (5, VI p4)] [VI a] (putM 0 455 m m1)
      exact s_iret X (Nat.le_of_ble_eq_true rfl) (Nat.le_of_ble_eq_true rfl) (by show O = _; rw [hO]; rfl) dL_pair_11
def rm_L_byPairs : Room := { frames := 10, cells := 5, slots := 30, locals := 184 }
def hh_L_byPairs : List (Nat × Nat × Nat × Nat) := [(0, 9, 10, 23), (0, 9, 15, 13), (0, 9, 20, 47)]
set_option maxRecDepth 20000 in
set_option maxHeartbeats 4000000 in
theorem H_byPairs (G : Gl) (p0 : Int) (p1 : Int) (p2 : Int) (p3 : Int) (m : Mem) (r : Int × Mem) (h : P_byPairs p0 p1 p2 p3 m = some r) : ConW SHL G yL_byPairs cL_byPairs 6 (some .int) hh_L_byPairs rm_L_byPairs [VR 0, VI p0, VI p1, VI p2, VI p3] m ((.inl (some (VI r.1)), r.2) : Res × Mem) := by
  unfold P_byPairs at h
  obtain ⟨r0, h0, h⟩ := bnd_some h
  obtain ⟨hx, h⟩ := grd_some h
  cases h
  refine conW_of (own := "LastbusLaw") (by decide) rfl (Nat.le_of_ble_eq_true rfl) (fun C X tb nc => ?_)
  obtain ⟨O, hO⟩ : ∃ O : Res × Mem, O = ((.inl (some (VI (hres [2, 0, 5] r0))), putM 0 455 m r0.2) : Res × Mem) := ⟨_, rfl⟩
  rw [show ((.inl (some (VI ((hres [2, 0, 5] r0, putM 0 455 m r0.2) : Int × Mem).1)), ((hres [2, 0, 5] r0, putM 0 455 m r0.2) : Int × Mem).2) : Res × Mem) = O from hO.symm]
  show J SHL G rm_L_byPairs (.inl O) C 0 0 0 [(0, VR 0), (1, VI p0), (2, VI p1), (3, VI p2), (4, VI p3)] [] m
  refine s_load0 X 0 rfl dL_byPairs_0 ?_
  refine s_iload_n X 1 rfl dL_byPairs_1 ?_
  refine s_iload_n X 2 rfl dL_byPairs_2 ?_
  refine s_iload_n X 3 rfl dL_byPairs_3 ?_
  refine s_iload X 4 rfl dL_byPairs_4 ?_
  refine s_callVH (As := [VI p0, VI p1, VI p2, VI p3]) X cw_L_75 SHL_0 rfl dL_byPairs_6 (con_C (L_C_byPairs G p0 p1 p2 p3 m r0 h0)) rfl ⟨Nat.le_of_ble_eq_true rfl, Nat.le_of_ble_eq_true rfl⟩ ⟨Nat.le_of_ble_eq_true rfl, Nat.le_of_ble_eq_true rfl⟩ (Nat.le_of_ble_eq_true rfl) ?_ ?_
  · obtain ⟨r1, m1⟩ := r0
    intro x h9
    cases r1 with
    | inl v => cases h9
    | inr x0 =>
      cases h9
      have hx0 := hx _ rfl
      simp only [List.mem_cons, List.not_mem_nil, or_false] at hx0
      rcases hx0 with rfl | rfl | rfl
      · exact jx_catchL (hp := 10) (z := -900001) X tb nc ⟨[], [(0, 9, 15, 13), (0, 9, 20, 47)], (0, 9, 10, 23), rfl, (fun z hz => by cases hz), by decide +kernel, by decide, rfl, cl_L_23, cstT_2⟩ ⟨by unfold InR; omega, kc_L_15, Or.inl ⟨5, by decide, dL_byPairs_10, dL_byPairs_12, dL_byPairs_14⟩⟩ (Nat.le_of_ble_eq_true rfl) (Nat.le_of_ble_eq_true rfl) (by show O = _; rw [hO]; rfl)
      · exact jx_catchL (hp := 15) (z := -900002) X tb nc ⟨[(0, 9, 10, 23)], [(0, 9, 20, 47)], (0, 9, 15, 13), rfl, (List.forall_mem_cons.mpr ⟨⟨by decide, "java/lang/IndexOutOfBoundsException", cl_L_23, by decide +kernel⟩, (fun z hz => by cases hz)⟩), by decide +kernel, by decide, rfl, cl_L_13, cstT_0⟩ ⟨by unfold InR; omega, kc_L_18, Or.inl ⟨5, by decide, dL_byPairs_15, dL_byPairs_17, dL_byPairs_19⟩⟩ (Nat.le_of_ble_eq_true rfl) (Nat.le_of_ble_eq_true rfl) (by show O = _; rw [hO]; rfl)
      · exact jx_catchL (hp := 20) (z := -900003) X tb nc ⟨[(0, 9, 10, 23), (0, 9, 15, 13)], [], (0, 9, 20, 47), rfl, (List.forall_mem_cons.mpr ⟨⟨by decide, "java/lang/IndexOutOfBoundsException", cl_L_23, by decide +kernel⟩, (List.forall_mem_cons.mpr ⟨⟨by decide, "java/lang/IllegalArgumentException", cl_L_13, by decide +kernel⟩, (fun z hz => by cases hz)⟩)⟩), by decide +kernel, by decide, rfl, cl_L_47, cstT_5⟩ ⟨by unfold InR; omega, kc_L_40, Or.inl ⟨5, by decide, dL_byPairs_20, dL_byPairs_22, dL_byPairs_24⟩⟩ (Nat.le_of_ble_eq_true rfl) (Nat.le_of_ble_eq_true rfl) (by show O = _; rw [hO]; rfl)
  · obtain ⟨r1, m1⟩ := r0
    intro v h9
    cases r1 with
    | inr x0 => cases h9
    | inl a =>
      cases h9
      show J SHL G rm_L_byPairs (.inl O) C 5 30 9 [(0, VR 0), (1, VI p0), (2, VI p1), (3, VI p2), (4, VI p3)] [VI a] (putM 0 455 m m1)
      exact s_iret X (Nat.le_of_ble_eq_true rfl) (Nat.le_of_ble_eq_true rfl) (by show O = _; rw [hO]; rfl) dL_byPairs_9
def rm_L_choices : Room := { frames := 10, cells := 4, slots := 24, locals := 174 }
def hh_L_choices : List (Nat × Nat × Nat × Nat) := [(0, 9, 10, 23), (0, 9, 15, 13)]
set_option maxRecDepth 20000 in
set_option maxHeartbeats 4000000 in
theorem H_choices (G : Gl) (p0 : Int) (p1 : Int) (p2 : Int) (p3 : Int) (m : Mem) (r : Int × Mem) (h : P_choices p0 p1 p2 p3 m = some r) : ConW SHL G yL_choices cL_choices 6 (some .int) hh_L_choices rm_L_choices [VR 0, VI p0, VI p1, VI p2, VI p3] m ((.inl (some (VI r.1)), r.2) : Res × Mem) := by
  unfold P_choices at h
  obtain ⟨r0, h0, h⟩ := bnd_some h
  obtain ⟨hx, h⟩ := grd_some h
  cases h
  refine conW_of (own := "LastbusLaw") (by decide) rfl (Nat.le_of_ble_eq_true rfl) (fun C X tb nc => ?_)
  obtain ⟨O, hO⟩ : ∃ O : Res × Mem, O = ((.inl (some (VI (hres [2, 0] r0))), putM 0 455 m r0.2) : Res × Mem) := ⟨_, rfl⟩
  rw [show ((.inl (some (VI ((hres [2, 0] r0, putM 0 455 m r0.2) : Int × Mem).1)), ((hres [2, 0] r0, putM 0 455 m r0.2) : Int × Mem).2) : Res × Mem) = O from hO.symm]
  show J SHL G rm_L_choices (.inl O) C 0 0 0 [(0, VR 0), (1, VI p0), (2, VI p1), (3, VI p2), (4, VI p3)] [] m
  refine s_load0 X 0 rfl dL_choices_0 ?_
  refine s_iload_n X 1 rfl dL_choices_1 ?_
  refine s_iload_n X 2 rfl dL_choices_2 ?_
  refine s_iload_n X 3 rfl dL_choices_3 ?_
  refine s_iload X 4 rfl dL_choices_4 ?_
  refine s_callVH (As := [VI p0, VI p1, VI p2, VI p3]) X cw_L_78 SHL_0 rfl dL_choices_6 (con_C (L_C_choices G p0 p1 p2 p3 m r0 h0)) rfl ⟨Nat.le_of_ble_eq_true rfl, Nat.le_of_ble_eq_true rfl⟩ ⟨Nat.le_of_ble_eq_true rfl, Nat.le_of_ble_eq_true rfl⟩ (Nat.le_of_ble_eq_true rfl) ?_ ?_
  · obtain ⟨r1, m1⟩ := r0
    intro x h9
    cases r1 with
    | inl v => cases h9
    | inr x0 =>
      cases h9
      have hx0 := hx _ rfl
      simp only [List.mem_cons, List.not_mem_nil, or_false] at hx0
      rcases hx0 with rfl | rfl
      · exact jx_catchL (hp := 10) (z := -900001) X tb nc ⟨[], [(0, 9, 15, 13)], (0, 9, 10, 23), rfl, (fun z hz => by cases hz), by decide +kernel, by decide, rfl, cl_L_23, cstT_2⟩ ⟨by unfold InR; omega, kc_L_15, Or.inl ⟨5, by decide, dL_choices_10, dL_choices_12, dL_choices_14⟩⟩ (Nat.le_of_ble_eq_true rfl) (Nat.le_of_ble_eq_true rfl) (by show O = _; rw [hO]; rfl)
      · exact jx_catchL (hp := 15) (z := -900002) X tb nc ⟨[(0, 9, 10, 23)], [], (0, 9, 15, 13), rfl, (List.forall_mem_cons.mpr ⟨⟨by decide, "java/lang/IndexOutOfBoundsException", cl_L_23, by decide +kernel⟩, (fun z hz => by cases hz)⟩), by decide +kernel, by decide, rfl, cl_L_13, cstT_0⟩ ⟨by unfold InR; omega, kc_L_18, Or.inl ⟨5, by decide, dL_choices_15, dL_choices_17, dL_choices_19⟩⟩ (Nat.le_of_ble_eq_true rfl) (Nat.le_of_ble_eq_true rfl) (by show O = _; rw [hO]; rfl)
  · obtain ⟨r1, m1⟩ := r0
    intro v h9
    cases r1 with
    | inr x0 => cases h9
    | inl a =>
      cases h9
      show J SHL G rm_L_choices (.inl O) C 4 24 9 [(0, VR 0), (1, VI p0), (2, VI p1), (3, VI p2), (4, VI p3)] [VI a] (putM 0 455 m m1)
      exact s_iret X (Nat.le_of_ble_eq_true rfl) (Nat.le_of_ble_eq_true rfl) (by show O = _; rw [hO]; rfl) dL_choices_9
def rm_L_choice : Room := { frames := 10, cells := 5, slots := 30, locals := 175 }
def hh_L_choice : List (Nat × Nat × Nat × Nat) := [(0, 11, 12, 23), (0, 11, 17, 13), (0, 11, 22, 47)]
set_option maxRecDepth 20000 in
set_option maxHeartbeats 4000000 in
theorem H_choice (G : Gl) (p0 : Int) (p1 : Int) (p2 : Int) (p3 : Int) (p4 : Int) (m : Mem) (r : Int × Mem) (h : P_choice p0 p1 p2 p3 p4 m = some r) : ConW SHL G yL_choice cL_choice 7 (some .int) hh_L_choice rm_L_choice [VR 0, VI p0, VI p1, VI p2, VI p3, VI p4] m ((.inl (some (VI r.1)), r.2) : Res × Mem) := by
  unfold P_choice at h
  obtain ⟨r0, h0, h⟩ := bnd_some h
  obtain ⟨hx, h⟩ := grd_some h
  cases h
  refine conW_of (own := "LastbusLaw") (by decide) rfl (Nat.le_of_ble_eq_true rfl) (fun C X tb nc => ?_)
  obtain ⟨O, hO⟩ : ∃ O : Res × Mem, O = ((.inl (some (VI (hres [2, 0, 5] r0))), putM 0 455 m r0.2) : Res × Mem) := ⟨_, rfl⟩
  rw [show ((.inl (some (VI ((hres [2, 0, 5] r0, putM 0 455 m r0.2) : Int × Mem).1)), ((hres [2, 0, 5] r0, putM 0 455 m r0.2) : Int × Mem).2) : Res × Mem) = O from hO.symm]
  show J SHL G rm_L_choice (.inl O) C 0 0 0 [(0, VR 0), (1, VI p0), (2, VI p1), (3, VI p2), (4, VI p3), (5, VI p4)] [] m
  refine s_load0 X 0 rfl dL_choice_0 ?_
  refine s_iload_n X 1 rfl dL_choice_1 ?_
  refine s_iload_n X 2 rfl dL_choice_2 ?_
  refine s_iload_n X 3 rfl dL_choice_3 ?_
  refine s_iload X 4 rfl dL_choice_4 ?_
  refine s_iload X 5 rfl dL_choice_6 ?_
  refine s_callVH (As := [VI p0, VI p1, VI p2, VI p3, VI p4]) X cw_L_81 SHL_0 rfl dL_choice_8 (con_C (L_C_choice G p0 p1 p2 p3 p4 m r0 h0)) rfl ⟨Nat.le_of_ble_eq_true rfl, Nat.le_of_ble_eq_true rfl⟩ ⟨Nat.le_of_ble_eq_true rfl, Nat.le_of_ble_eq_true rfl⟩ (Nat.le_of_ble_eq_true rfl) ?_ ?_
  · obtain ⟨r1, m1⟩ := r0
    intro x h9
    cases r1 with
    | inl v => cases h9
    | inr x0 =>
      cases h9
      have hx0 := hx _ rfl
      simp only [List.mem_cons, List.not_mem_nil, or_false] at hx0
      rcases hx0 with rfl | rfl | rfl
      · exact jx_catchL (hp := 12) (z := -900001) X tb nc ⟨[], [(0, 11, 17, 13), (0, 11, 22, 47)], (0, 11, 12, 23), rfl, (fun z hz => by cases hz), by decide +kernel, by decide, rfl, cl_L_23, cstT_2⟩ ⟨by unfold InR; omega, kc_L_15, Or.inl ⟨6, by decide, dL_choice_12, dL_choice_14, dL_choice_16⟩⟩ (Nat.le_of_ble_eq_true rfl) (Nat.le_of_ble_eq_true rfl) (by show O = _; rw [hO]; rfl)
      · exact jx_catchL (hp := 17) (z := -900002) X tb nc ⟨[(0, 11, 12, 23)], [(0, 11, 22, 47)], (0, 11, 17, 13), rfl, (List.forall_mem_cons.mpr ⟨⟨by decide, "java/lang/IndexOutOfBoundsException", cl_L_23, by decide +kernel⟩, (fun z hz => by cases hz)⟩), by decide +kernel, by decide, rfl, cl_L_13, cstT_0⟩ ⟨by unfold InR; omega, kc_L_18, Or.inl ⟨6, by decide, dL_choice_17, dL_choice_19, dL_choice_21⟩⟩ (Nat.le_of_ble_eq_true rfl) (Nat.le_of_ble_eq_true rfl) (by show O = _; rw [hO]; rfl)
      · exact jx_catchL (hp := 22) (z := -900003) X tb nc ⟨[(0, 11, 12, 23), (0, 11, 17, 13)], [], (0, 11, 22, 47), rfl, (List.forall_mem_cons.mpr ⟨⟨by decide, "java/lang/IndexOutOfBoundsException", cl_L_23, by decide +kernel⟩, (List.forall_mem_cons.mpr ⟨⟨by decide, "java/lang/IllegalArgumentException", cl_L_13, by decide +kernel⟩, (fun z hz => by cases hz)⟩)⟩), by decide +kernel, by decide, rfl, cl_L_47, cstT_5⟩ ⟨by unfold InR; omega, kc_L_40, Or.inl ⟨6, by decide, dL_choice_22, dL_choice_24, dL_choice_26⟩⟩ (Nat.le_of_ble_eq_true rfl) (Nat.le_of_ble_eq_true rfl) (by show O = _; rw [hO]; rfl)
  · obtain ⟨r1, m1⟩ := r0
    intro v h9
    cases r1 with
    | inr x0 => cases h9
    | inl a =>
      cases h9
      show J SHL G rm_L_choice (.inl O) C 5 30 11 [(0, VR 0), (1, VI p0), (2, VI p1), (3, VI p2), (4, VI p3), (5, VI p4)] [VI a] (putM 0 455 m m1)
      exact s_iret X (Nat.le_of_ble_eq_true rfl) (Nat.le_of_ble_eq_true rfl) (by show O = _; rw [hO]; rfl) dL_choice_11
def rm_L_vehicles : Room := { frames := 9, cells := 1, slots := 6, locals := 154 }
def hh_L_vehicles : List (Nat × Nat × Nat × Nat) := [(0, 5, 6, 13)]
set_option maxRecDepth 20000 in
set_option maxHeartbeats 4000000 in
theorem H_vehicles (G : Gl) (p0 : Int) (m : Mem) (r : Int × Mem) (h : P_vehicles p0 m = some r) : ConW SHL G yL_vehicles cL_vehicles 3 (some .int) hh_L_vehicles rm_L_vehicles [VR 0, VI p0] m ((.inl (some (VI r.1)), r.2) : Res × Mem) := by
  unfold P_vehicles at h
  obtain ⟨r0, h0, h⟩ := bnd_some h
  obtain ⟨hx, h⟩ := grd_some h
  cases h
  refine conW_of (own := "LastbusLaw") (by decide) rfl (Nat.le_of_ble_eq_true rfl) (fun C X tb nc => ?_)
  obtain ⟨O, hO⟩ : ∃ O : Res × Mem, O = ((.inl (some (VI (hres [0] r0))), putM 0 455 m r0.2) : Res × Mem) := ⟨_, rfl⟩
  rw [show ((.inl (some (VI ((hres [0] r0, putM 0 455 m r0.2) : Int × Mem).1)), ((hres [0] r0, putM 0 455 m r0.2) : Int × Mem).2) : Res × Mem) = O from hO.symm]
  show J SHL G rm_L_vehicles (.inl O) C 0 0 0 [(0, VR 0), (1, VI p0)] [] m
  refine s_load0 X 0 rfl dL_vehicles_0 ?_
  refine s_iload_n X 1 rfl dL_vehicles_1 ?_
  refine s_callVH (As := [VI p0]) X cw_L_85 SHL_0 rfl dL_vehicles_2 (con_C (L_C_vehicles G p0 m r0 h0)) rfl ⟨Nat.le_of_ble_eq_true rfl, Nat.le_of_ble_eq_true rfl⟩ ⟨Nat.le_of_ble_eq_true rfl, Nat.le_of_ble_eq_true rfl⟩ (Nat.le_of_ble_eq_true rfl) ?_ ?_
  · obtain ⟨r1, m1⟩ := r0
    intro x h9
    cases r1 with
    | inl v => cases h9
    | inr x0 =>
      cases h9
      have hx0 := hx _ rfl
      simp only [List.mem_cons, List.not_mem_nil, or_false] at hx0
      rcases hx0 with rfl
      · exact jx_catchL (hp := 6) (z := -900001) X tb nc ⟨[], [], (0, 5, 6, 13), rfl, (fun z hz => by cases hz), by decide +kernel, by decide, rfl, cl_L_13, cstT_0⟩ ⟨by unfold InR; omega, kc_L_15, Or.inr ⟨2, by decide, dL_vehicles_6, dL_vehicles_7, dL_vehicles_9⟩⟩ (Nat.le_of_ble_eq_true rfl) (Nat.le_of_ble_eq_true rfl) (by show O = _; rw [hO]; rfl)
  · obtain ⟨r1, m1⟩ := r0
    intro v h9
    cases r1 with
    | inr x0 => cases h9
    | inl a =>
      cases h9
      show J SHL G rm_L_vehicles (.inl O) C 1 6 5 [(0, VR 0), (1, VI p0)] [VI a] (putM 0 455 m m1)
      exact s_iret X (Nat.le_of_ble_eq_true rfl) (Nat.le_of_ble_eq_true rfl) (by show O = _; rw [hO]; rfl) dL_vehicles_5
def rm_L_vehiclesByMatching : Room := { frames := 9, cells := 1, slots := 6, locals := 145 }
def hh_L_vehiclesByMatching : List (Nat × Nat × Nat × Nat) := [(0, 5, 6, 13)]
set_option maxRecDepth 20000 in
set_option maxHeartbeats 4000000 in
theorem H_vehiclesByMatching (G : Gl) (p0 : Int) (m : Mem) (r : Int × Mem) (h : P_vehiclesByMatching p0 m = some r) : ConW SHL G yL_vehiclesByMatching cL_vehiclesByMatching 3 (some .int) hh_L_vehiclesByMatching rm_L_vehiclesByMatching [VR 0, VI p0] m ((.inl (some (VI r.1)), r.2) : Res × Mem) := by
  unfold P_vehiclesByMatching at h
  obtain ⟨r0, h0, h⟩ := bnd_some h
  obtain ⟨hx, h⟩ := grd_some h
  cases h
  refine conW_of (own := "LastbusLaw") (by decide) rfl (Nat.le_of_ble_eq_true rfl) (fun C X tb nc => ?_)
  obtain ⟨O, hO⟩ : ∃ O : Res × Mem, O = ((.inl (some (VI (hres [0] r0))), putM 0 455 m r0.2) : Res × Mem) := ⟨_, rfl⟩
  rw [show ((.inl (some (VI ((hres [0] r0, putM 0 455 m r0.2) : Int × Mem).1)), ((hres [0] r0, putM 0 455 m r0.2) : Int × Mem).2) : Res × Mem) = O from hO.symm]
  show J SHL G rm_L_vehiclesByMatching (.inl O) C 0 0 0 [(0, VR 0), (1, VI p0)] [] m
  refine s_load0 X 0 rfl dL_vehiclesByMatching_0 ?_
  refine s_iload_n X 1 rfl dL_vehiclesByMatching_1 ?_
  refine s_callVH (As := [VI p0]) X cw_L_88 SHL_0 rfl dL_vehiclesByMatching_2 (con_C (L_C_vehiclesByMatching G p0 m r0 h0)) rfl ⟨Nat.le_of_ble_eq_true rfl, Nat.le_of_ble_eq_true rfl⟩ ⟨Nat.le_of_ble_eq_true rfl, Nat.le_of_ble_eq_true rfl⟩ (Nat.le_of_ble_eq_true rfl) ?_ ?_
  · obtain ⟨r1, m1⟩ := r0
    intro x h9
    cases r1 with
    | inl v => cases h9
    | inr x0 =>
      cases h9
      have hx0 := hx _ rfl
      simp only [List.mem_cons, List.not_mem_nil, or_false] at hx0
      rcases hx0 with rfl
      · exact jx_catchL (hp := 6) (z := -900001) X tb nc ⟨[], [], (0, 5, 6, 13), rfl, (fun z hz => by cases hz), by decide +kernel, by decide, rfl, cl_L_13, cstT_0⟩ ⟨by unfold InR; omega, kc_L_15, Or.inr ⟨2, by decide, dL_vehiclesByMatching_6, dL_vehiclesByMatching_7, dL_vehiclesByMatching_9⟩⟩ (Nat.le_of_ble_eq_true rfl) (Nat.le_of_ble_eq_true rfl) (by show O = _; rw [hO]; rfl)
  · obtain ⟨r1, m1⟩ := r0
    intro v h9
    cases r1 with
    | inr x0 => cases h9
    | inl a =>
      cases h9
      show J SHL G rm_L_vehiclesByMatching (.inl O) C 1 6 5 [(0, VR 0), (1, VI p0)] [VI a] (putM 0 455 m m1)
      exact s_iret X (Nat.le_of_ble_eq_true rfl) (Nat.le_of_ble_eq_true rfl) (by show O = _; rw [hO]; rfl) dL_vehiclesByMatching_5
def rm_L_isSound : Room := { frames := 9, cells := 1, slots := 6, locals := 226 }
def hh_L_isSound : List (Nat × Nat × Nat × Nat) := [(0, 13, 14, 13)]
set_option maxRecDepth 20000 in
set_option maxHeartbeats 4000000 in
theorem H_isSound (G : Gl) (p0 : Int) (m : Mem) (r : Int × Mem) (h : P_isSound p0 m = some r) : ConW SHL G yL_isSound cL_isSound 3 (some .int) hh_L_isSound rm_L_isSound [VR 0, VI p0] m ((.inl (some (VI r.1)), r.2) : Res × Mem) := by
  unfold P_isSound at h
  obtain ⟨r0, h0, h⟩ := bnd_some h
  obtain ⟨hx, h⟩ := grd_some h
  cases h
  refine conW_of (own := "LastbusLaw") (by decide) rfl (Nat.le_of_ble_eq_true rfl) (fun C X tb nc => ?_)
  obtain ⟨O, hO⟩ : ∃ O : Res × Mem, O = ((.inl (some (VI (hresB [0] r0))), putM 0 455 m r0.2) : Res × Mem) := ⟨_, rfl⟩
  rw [show ((.inl (some (VI ((hresB [0] r0, putM 0 455 m r0.2) : Int × Mem).1)), ((hresB [0] r0, putM 0 455 m r0.2) : Int × Mem).2) : Res × Mem) = O from hO.symm]
  show J SHL G rm_L_isSound (.inl O) C 0 0 0 [(0, VR 0), (1, VI p0)] [] m
  refine s_load0 X 0 rfl dL_isSound_0 ?_
  refine s_iload_n X 1 rfl dL_isSound_1 ?_
  refine s_callVH (As := [VI p0]) X cw_L_91 SHL_0 rfl dL_isSound_2 (con_C (L_C_isSound G p0 m r0 h0)) rfl ⟨Nat.le_of_ble_eq_true rfl, Nat.le_of_ble_eq_true rfl⟩ ⟨Nat.le_of_ble_eq_true rfl, Nat.le_of_ble_eq_true rfl⟩ (Nat.le_of_ble_eq_true rfl) ?_ ?_
  · obtain ⟨r1, m1⟩ := r0
    intro x h9
    cases r1 with
    | inl v => cases h9
    | inr x0 =>
      cases h9
      have hx0 := hx _ rfl
      simp only [List.mem_cons, List.not_mem_nil, or_false] at hx0
      rcases hx0 with rfl
      · exact jx_catchL (hp := 14) (z := -900001) X tb nc ⟨[], [], (0, 13, 14, 13), rfl, (fun z hz => by cases hz), by decide +kernel, by decide, rfl, cl_L_13, cstT_0⟩ ⟨by unfold InR; omega, kc_L_15, Or.inr ⟨2, by decide, dL_isSound_14, dL_isSound_15, dL_isSound_17⟩⟩ (Nat.le_of_ble_eq_true rfl) (Nat.le_of_ble_eq_true rfl) (by show O = _; rw [hO]; rfl)
  · obtain ⟨r1, m1⟩ := r0
    intro v h9
    cases r1 with
    | inr x0 => cases h9
    | inl a =>
      cases h9
      show J SHL G rm_L_isSound (.inl O) C 1 6 5 [(0, VR 0), (1, VI p0)] [VI a] (putM 0 455 m m1)
      refine s_ifeq_t (tgt := 12) X dL_isSound_5 (by omega) (fun c1 => ?_) (fun c1 => ?_)
      · refine s_const X (by unfold InR; omega) dL_isSound_12 ?_
        exact s_iret X (Nat.le_of_ble_eq_true rfl) (Nat.le_of_ble_eq_true rfl) (by show O = _; rw [hO]; show ((_, putM 0 455 m m1) : Res × Mem) = _; rw [show hresB [0] (.inl a, m1) = (if a = 0 then 0 else 1) from rfl, if_pos c1]) dL_isSound_13
      · refine s_const X (by unfold InR; omega) dL_isSound_8 ?_
        refine s_goto (tgt := 13) X dL_isSound_9 (by omega) ?_
        exact s_iret X (Nat.le_of_ble_eq_true rfl) (Nat.le_of_ble_eq_true rfl) (by show O = _; rw [hO]; show ((_, putM 0 455 m m1) : Res × Mem) = _; rw [show hresB [0] (.inl a, m1) = (if a = 0 then 0 else 1) from rfl, if_neg c1]) dL_isSound_13
