/-! ===== printed by a program out of the Java source and the decode rows: 34e.LM ===== -/
set_option maxRecDepth 20000 in
set_option maxHeartbeats 4000000 in
theorem L_M_runs (G : Gl) (trip_ : Int) (day_ : Int) (m : Mem) (r : Int)  (h : M_runs trip_ day_ m = some r) : Con SHM G yX12_runs cX12_runs 3 (some .boolean) rm_X12_runs [VR 0, VI trip_, VI day_] m (((.inl (some (VI r)), m) : Res × Mem)) := by
  refine con_of (own := "LastbusModel") (by decide) rfl (Nat.le_of_ble_eq_true rfl) (fun C X => ?_)
  obtain ⟨O, hO⟩ : ∃ O : Res × Mem, O = (((.inl (some (VI r)), m) : Res × Mem)) := ⟨_, rfl⟩
  rw [← hO]
  show J SHM G rm_X12_runs (.inl O) C 0 0 0 [(0, VR 0), (1, VI trip_), (2, VI day_)] [] m
  unfold M_runs at h
  obtain ⟨g1, h⟩ := grd_some h
  refine s_load0 X 0 rfl dX12_runs_0 ?_
  refine s_getR (id := 4) X fk_X12_23 SHM_0 rfl dX12_runs_1 ?_
  refine s_bipush X (by omega) dX12_runs_4 ?_
  refine s_load0 X 0 rfl dX12_runs_6 ?_
  refine s_getR (id := 5) X fk_X12_27 SHM_0 rfl dX12_runs_7 ?_
  refine s_iload_n X 1 rfl dX12_runs_10 ?_
  refine s_iald X SHM_5 g1.1 g1.2.1 dX12_runs_11 ?_
  refine s_imul X g1.2.2.1 dX12_runs_12 ?_
  refine s_iload_n X 2 rfl dX12_runs_13 ?_
  refine s_iadd X g1.2.2.2.1 dX12_runs_14 ?_
  refine s_bald X SHM_4 g1.2.2.2.2.1 g1.2.2.2.2.2.1 dX12_runs_15 ?_
  exact s_zret X g1.2.2.2.2.2.2 (Nat.le_of_ble_eq_true rfl) (Nat.le_of_ble_eq_true rfl) (by cases h; exact hO) dX12_runs_16
set_option maxRecDepth 20000 in
set_option maxHeartbeats 4000000 in
theorem L_M_isChangeWrong (G : Gl) (trip_ : Int) (call_ : Int) (other_ : Int) (otherCall_ : Int) (m : Mem) (r : Int)  (h : M_isChangeWrong trip_ call_ other_ otherCall_ m = some r) : Con SHM G yX12_isChangeWrong cX12_isChangeWrong 5 (some .boolean) rm_X12_isChangeWrong [VR 0, VI trip_, VI call_, VI other_, VI otherCall_] m (((.inl (some (VI r)), m) : Res × Mem)) := by
  refine con_of (own := "LastbusModel") (by decide) rfl (Nat.le_of_ble_eq_true rfl) (fun C X => ?_)
  obtain ⟨O, hO⟩ : ∃ O : Res × Mem, O = (((.inl (some (VI r)), m) : Res × Mem)) := ⟨_, rfl⟩
  rw [← hO]
  show J SHM G rm_X12_isChangeWrong (.inl O) C 0 0 0 [(0, VR 0), (1, VI trip_), (2, VI call_), (3, VI other_), (4, VI otherCall_)] [] m
  unfold M_isChangeWrong at h
  obtain ⟨g1, h⟩ := grd_some h
  have kM2 : J SHM G rm_X12_isChangeWrong (.inl O) C 0 0 27 [(0, VR 0), (1, VI trip_), (2, VI call_), (3, VI other_), (4, VI otherCall_)] [VI (if ((trip_ = other_) ∨ (call_ = 0)) ∨ (otherCall_ = m 6 other_.toNat - 1) then 1 else 0)] m := by
    exact s_zret X okT_ite (Nat.le_of_ble_eq_true rfl) (Nat.le_of_ble_eq_true rfl) (by cases h; exact hO) dX12_isChangeWrong_27
  refine s_iload_n X 1 rfl dX12_isChangeWrong_0 ?_
  refine s_iload_n X 3 rfl dX12_isChangeWrong_1 ?_
  refine s_icmpeq_t (tgt := 22) X dX12_isChangeWrong_2 (by omega) (fun c3 => ?_) (fun c4 => ?_)
  · refine s_const X (by unfold InR; omega) dX12_isChangeWrong_22 ?_
    refine s_goto (tgt := 27) X dX12_isChangeWrong_23 (by omega) ?_
    exact s_eqt (if_pos (Or.inl (Or.inl c3))) kM2
  · have a5 : ¬ (trip_ = other_) := c4
    refine s_iload_n X 2 rfl dX12_isChangeWrong_5 ?_
    refine s_ifeq_t (tgt := 22) X dX12_isChangeWrong_6 (by omega) (fun c6 => ?_) (fun c7 => ?_)
    · refine s_const X (by unfold InR; omega) dX12_isChangeWrong_22 ?_
      refine s_goto (tgt := 27) X dX12_isChangeWrong_23 (by omega) ?_
      exact s_eqt (if_pos (Or.inl (Or.inr c6))) kM2
    · have a8 : ¬ ((trip_ = other_) ∨ (call_ = 0)) := (fun q => q.elim a5 c7)
      refine s_iload X 4 rfl dX12_isChangeWrong_9 ?_
      refine s_load0 X 0 rfl dX12_isChangeWrong_11 ?_
      refine s_getR (id := 6) X fk_X12_30 SHM_0 rfl dX12_isChangeWrong_12 ?_
      refine s_iload_n X 3 rfl dX12_isChangeWrong_15 ?_
      refine s_iald X SHM_6 (g1.1 a8) (g1.2.1 a8) dX12_isChangeWrong_16 ?_
      refine s_const X (by unfold InR; omega) dX12_isChangeWrong_17 ?_
      refine s_isub X (g1.2.2 a8) dX12_isChangeWrong_18 ?_
      refine s_icmpne_f (tgt := 26) X dX12_isChangeWrong_19 (by omega) (fun c9 => ?_) (fun c10 => ?_)
      · refine s_const X (by unfold InR; omega) dX12_isChangeWrong_26 ?_
        exact s_eqt (if_neg (fun q => q.elim a8 c9)) kM2
      · refine s_const X (by unfold InR; omega) dX12_isChangeWrong_22 ?_
        refine s_goto (tgt := 27) X dX12_isChangeWrong_23 (by omega) ?_
        exact s_eqt (if_pos (Or.inr c10)) kM2
set_option maxRecDepth 20000 in
set_option maxHeartbeats 4000000 in
theorem L_M_holds (G : Gl) (day_ : Int) (trip_ : Int) (call_ : Int) (other_ : Int) (otherCall_ : Int) (m : Mem) (r : (Int × Mem))  (h : M_holds day_ trip_ call_ other_ otherCall_ m = some r) : Con SHM G yX12_holds cX12_holds 9 (some .boolean) rm_X12_holds [VR 0, VI day_, VI trip_, VI call_, VI other_, VI otherCall_] m (((.inl (some (VI r.1)), r.2) : Res × Mem)) := by
  refine con_of (own := "LastbusModel") (by decide) rfl (Nat.le_of_ble_eq_true rfl) (fun C X => ?_)
  obtain ⟨O, hO⟩ : ∃ O : Res × Mem, O = (((.inl (some (VI r.1)), r.2) : Res × Mem)) := ⟨_, rfl⟩
  rw [← hO]
  show J SHM G rm_X12_holds (.inl O) C 0 0 0 [(0, VR 0), (1, VI day_), (2, VI trip_), (3, VI call_), (4, VI other_), (5, VI otherCall_)] [] m
  unfold M_holds at h
  refine s_load0 X 0 rfl dX12_holds_0 ?_
  refine s_iload_n X 2 rfl dX12_holds_1 ?_
  refine s_iload_n X 3 rfl dX12_holds_2 ?_
  obtain ⟨r_, m_, hq2, h⟩ := bq2_some h
  refine s_callV (As := [VI trip_, VI call_]) X cw_X12_162 SHM_0 rfl dX12_holds_3 (L_M_isNoCall G trip_ call_ m (r_, m_) hq2) rfl ⟨Nat.le_of_ble_eq_true rfl, Nat.le_of_ble_eq_true rfl⟩ ⟨Nat.le_of_ble_eq_true rfl, Nat.le_of_ble_eq_true rfl⟩ (Nat.le_of_ble_eq_true rfl) noT (kkR ?_)
  refine s_ifne_t (tgt := 88) X dX12_holds_6 (by omega) (fun c5 => ?_) (fun c6 => ?_)
  · replace h := ite_pos h c5
    refine s_const X (by unfold InR; omega) dX12_holds_88 ?_
    exact s_zret X (Or.inl rfl) (Nat.le_of_ble_eq_true rfl) (Nat.le_of_ble_eq_true rfl) (by cases h; exact hO) dX12_holds_89
  · replace h := ite_neg h c6
    refine s_load0 X 0 rfl dX12_holds_9 ?_
    refine s_iload X 4 rfl dX12_holds_10 ?_
    refine s_iload X 5 rfl dX12_holds_12 ?_
    obtain ⟨r_2, m_2, hq9, h⟩ := bq2_some h
    refine s_callV (As := [VI other_, VI otherCall_]) X cw_X12_162 SHM_0 rfl dX12_holds_14 (L_M_isNoCall G other_ otherCall_ m_ (r_2, m_2) hq9) rfl ⟨Nat.le_of_ble_eq_true rfl, Nat.le_of_ble_eq_true rfl⟩ ⟨Nat.le_of_ble_eq_true rfl, Nat.le_of_ble_eq_true rfl⟩ (Nat.le_of_ble_eq_true rfl) noT (kkR ?_)
    refine s_ifne_t (tgt := 88) X dX12_holds_17 (by omega) (fun c12 => ?_) (fun c13 => ?_)
    · replace h := ite_pos h c12
      refine s_const X (by unfold InR; omega) dX12_holds_88 ?_
      exact s_zret X (Or.inl rfl) (Nat.le_of_ble_eq_true rfl) (Nat.le_of_ble_eq_true rfl) (by cases h; exact hO) dX12_holds_89
    · replace h := ite_neg h c13
      refine s_load0 X 0 rfl dX12_holds_20 ?_
      obtain ⟨kj_, hk16, h⟩ := ltv_elim h
      have K17 : ∀ (v_ : Int), kj_ v_ = some r → J SHM G rm_X12_holds (.inl O) C 0 0 49 [(0, VR 0), (1, VI day_), (2, VI trip_), (3, VI call_), (4, VI other_), (5, VI otherCall_)] [VI v_, VR 0] m_2 := by
        intro v_ h
        subst hk16
        dsimp only at h
        refine s_const X (by unfold InR; omega) dX12_holds_49 ?_
        obtain ⟨r_4, m_3, hq32, h⟩ := bq2_some h
        refine s_callV (As := [VI v_, VI 2]) X cw_X12_130 SHM_0 rfl dX12_holds_50 (L_M_isThrown G v_ 2 m_2 (r_4, m_3) hq32) rfl ⟨Nat.le_of_ble_eq_true rfl, Nat.le_of_ble_eq_true rfl⟩ ⟨Nat.le_of_ble_eq_true rfl, Nat.le_of_ble_eq_true rfl⟩ (Nat.le_of_ble_eq_true rfl) noT (kkR ?_)
        refine s_ifne_t (tgt := 88) X dX12_holds_53 (by omega) (fun c35 => ?_) (fun c36 => ?_)
        · replace h := ite_pos h c35
          refine s_const X (by unfold InR; omega) dX12_holds_88 ?_
          exact s_zret X (Or.inl rfl) (Nat.le_of_ble_eq_true rfl) (Nat.le_of_ble_eq_true rfl) (by cases h; exact hO) dX12_holds_89
        · replace h := ite_neg h c36
          refine s_load0 X 0 rfl dX12_holds_56 ?_
          obtain ⟨kj_2, hk39, h⟩ := ltv_elim h
          have K40 : ∀ (v_2 : Int), kj_2 v_2 = some r → J SHM G rm_X12_holds (.inl O) C 0 0 81 [(0, VR 0), (1, VI day_), (2, VI trip_), (3, VI call_), (4, VI other_), (5, VI otherCall_)] [VI v_2, VR 0] m_3 := by
            intro v_2 h
            subst hk39
            dsimp only at h
            refine s_const X (by unfold InR; omega) dX12_holds_81 ?_
            obtain ⟨r_7, m_4, hq56, h⟩ := bq2_some h
            refine s_callV (As := [VI v_2, VI 3]) X cw_X12_130 SHM_0 rfl dX12_holds_82 (L_M_isThrown G v_2 3 m_3 (r_7, m_4) hq56) rfl ⟨Nat.le_of_ble_eq_true rfl, Nat.le_of_ble_eq_true rfl⟩ ⟨Nat.le_of_ble_eq_true rfl, Nat.le_of_ble_eq_true rfl⟩ (Nat.le_of_ble_eq_true rfl) noT (kkR ?_)
            refine s_ifeq_f (tgt := 90) X dX12_holds_85 (by omega) (fun c59 => ?_) (fun c60 => ?_)
            · replace h := ite_neg h c59
              refine s_load0 X 0 rfl dX12_holds_90 ?_
              refine s_iload_n X 1 rfl dX12_holds_91 ?_
              obtain ⟨m_5, e62, h⟩ := ltv_elim h
              refine s_putI X e62 fp_X12_198 SHM_0 rfl trivial dX12_holds_92 ?_
              obtain ⟨g63, h⟩ := grd_some h
              refine s_load0 X 0 rfl dX12_holds_95 ?_
              refine s_getR (id := 7) X fk_X12_33 SHM_0 rfl dX12_holds_96 ?_
              refine s_bipush X (by omega) dX12_holds_99 ?_
              refine s_iload_n X 2 rfl dX12_holds_101 ?_
              refine s_imul X g63.1 dX12_holds_102 ?_
              refine s_iload_n X 3 rfl dX12_holds_103 ?_
              refine s_iadd X g63.2.1 dX12_holds_104 ?_
              refine s_iald X SHM_7 g63.2.2.1 g63.2.2.2 dX12_holds_105 ?_
              obtain ⟨from_, e64, h⟩ := ltv_elim h
              refine s_istore X e64 rfl (by omega) dX12_holds_106 ?_
              obtain ⟨g65, h⟩ := grd_some h
              refine s_load0 X 1 rfl dX12_holds_108 ?_
              refine s_getR (id := 7) X fk_X12_33 SHM_0 rfl dX12_holds_109 ?_
              refine s_bipush X (by omega) dX12_holds_112 ?_
              refine s_iload X 5 rfl dX12_holds_114 ?_
              refine s_imul X g65.1 dX12_holds_116 ?_
              refine s_iload X 6 rfl dX12_holds_117 ?_
              refine s_iadd X g65.2.1 dX12_holds_119 ?_
              refine s_iald X SHM_7 g65.2.2.1 g65.2.2.2 dX12_holds_120 ?_
              obtain ⟨to_, e66, h⟩ := ltv_elim h
              refine s_istore X e66 rfl (by omega) dX12_holds_121 ?_
              obtain ⟨g67, h⟩ := grd_some h
              refine s_load0 X 2 rfl dX12_holds_123 ?_
              have kM68 : J SHM G rm_X12_holds (.inl O) C 0 0 147 [(7, VI to_), (6, VI from_), (0, VR 0), (1, VI day_), (2, VI trip_), (3, VI call_), (4, VI other_), (5, VI otherCall_)] [VI (if 1000000 ≤ m_5 3 (12 * from_ + to_).toNat then 1 else 0), VR 0] m_5 := by
                refine s_const X (by unfold InR; omega) dX12_holds_147 ?_
                obtain ⟨r_8, m_6, hq71, h⟩ := bq2_some h
                refine s_callV (As := [VI (if 1000000 ≤ m_5 3 (12 * from_ + to_).toNat then 1 else 0), VI 4]) X cw_X12_130 SHM_0 rfl dX12_holds_148 (L_M_isThrown G (if 1000000 ≤ m_5 3 (12 * from_ + to_).toNat then 1 else 0) 4 m_5 (r_8, m_6) hq71) rfl ⟨Nat.le_of_ble_eq_true rfl, Nat.le_of_ble_eq_true rfl⟩ ⟨Nat.le_of_ble_eq_true rfl, Nat.le_of_ble_eq_true rfl⟩ (Nat.le_of_ble_eq_true rfl) noT (kkR ?_)
                refine s_ifeq_f (tgt := 156) X dX12_holds_151 (by omega) (fun c74 => ?_) (fun c75 => ?_)
                · replace h := ite_neg h c74
                  obtain ⟨g76, h⟩ := grd_some h
                  have kM77 : J SHM G rm_X12_holds (.inl O) C 0 0 186 [(7, VI to_), (6, VI from_), (0, VR 0), (1, VI day_), (2, VI trip_), (3, VI call_), (4, VI other_), (5, VI otherCall_)] [VI (if from_ = to_ then m_6 1 from_.toNat else m_6 3 (12 * from_ + to_).toNat)] m_6 := by
                    obtain ⟨minutes_, e80, h⟩ := ltv_elim h
                    refine s_istore X e80 rfl (by omega) dX12_holds_186 ?_
                    obtain ⟨g81, h⟩ := grd_some h
                    refine s_load0 X 3 rfl dX12_holds_188 ?_
                    refine s_bipush X (by omega) dX12_holds_189 ?_
                    refine s_iload_n X 5 rfl dX12_holds_191 ?_
                    refine s_iadd X g81 dX12_holds_192 ?_
                    refine s_iload_n X 6 rfl dX12_holds_193 ?_
                    obtain ⟨r_9, hq82, h⟩ := bnd_some h
                    refine s_callV (As := [VI (24 + trip_), VI call_]) X cw_X12_217 SHM_0 rfl dX12_holds_194 (L_M_comesAt G (24 + trip_) call_ m_6 r_9 hq82) rfl ⟨Nat.le_of_ble_eq_true rfl, Nat.le_of_ble_eq_true rfl⟩ ⟨Nat.le_of_ble_eq_true rfl, Nat.le_of_ble_eq_true rfl⟩ (Nat.le_of_ble_eq_true rfl) noT (kkR ?_)
                    obtain ⟨g84, h⟩ := grd_some h
                    refine s_iload X 0 rfl dX12_holds_197 ?_
                    refine s_iadd X g84.1 dX12_holds_199 ?_
                    refine s_load0 X 3 rfl dX12_holds_200 ?_
                    refine s_bipush X (by omega) dX12_holds_201 ?_
                    refine s_iload X 7 rfl dX12_holds_203 ?_
                    refine s_iadd X g84.2 dX12_holds_205 ?_
                    refine s_iload X 8 rfl dX12_holds_206 ?_
                    obtain ⟨r_10, hq85, h⟩ := bnd_some h
                    refine s_callV (As := [VI (24 + other_), VI otherCall_]) X cw_X12_223 SHM_0 rfl dX12_holds_208 (L_M_leavesAt G (24 + other_) otherCall_ m_6 r_10 hq85) rfl ⟨Nat.le_of_ble_eq_true rfl, Nat.le_of_ble_eq_true rfl⟩ ⟨Nat.le_of_ble_eq_true rfl, Nat.le_of_ble_eq_true rfl⟩ (Nat.le_of_ble_eq_true rfl) noT (kkR ?_)
                    refine s_icmpgt_f (tgt := 218) X dX12_holds_211 (by omega) (fun c88 => ?_) (fun c89 => ?_)
                    · replace h := ite_neg h c88
                      refine s_const X (by unfold InR; omega) dX12_holds_218 ?_
                      exact s_zret X (Or.inl rfl) (Nat.le_of_ble_eq_true rfl) (Nat.le_of_ble_eq_true rfl) (by cases h; exact hO) dX12_holds_219
                    · replace h := ite_pos h c89
                      refine s_const X (by unfold InR; omega) dX12_holds_214 ?_
                      refine s_goto (tgt := 219) X dX12_holds_215 (by omega) ?_
                      exact s_zret X (Or.inr rfl) (Nat.le_of_ble_eq_true rfl) (Nat.le_of_ble_eq_true rfl) (by cases h; exact hO) dX12_holds_219
                  refine s_iload X 1 rfl dX12_holds_156 ?_
                  refine s_iload X 0 rfl dX12_holds_158 ?_
                  refine s_icmpne_f (tgt := 173) X dX12_holds_160 (by omega) (fun c78 => ?_) (fun c79 => ?_)
                  · refine s_load0 X 2 rfl dX12_holds_173 ?_
                    refine s_getR (id := 3) X fk_X12_16 SHM_0 rfl dX12_holds_174 ?_
                    refine s_bipush X (by omega) dX12_holds_177 ?_
                    refine s_iload X 1 rfl dX12_holds_179 ?_
                    refine s_imul X (g76.1 c78) dX12_holds_181 ?_
                    refine s_iload X 0 rfl dX12_holds_182 ?_
                    refine s_iadd X (g76.2.1 c78) dX12_holds_184 ?_
                    refine s_iald X SHM_3 (g76.2.2.1 c78) (g76.2.2.2.1 c78) dX12_holds_185 ?_
                    exact s_eqt (if_neg c78) kM77
                  · refine s_load0 X 2 rfl dX12_holds_163 ?_
                    refine s_getR (id := 1) X fk_X12_9 SHM_0 rfl dX12_holds_164 ?_
                    refine s_iload X 1 rfl dX12_holds_167 ?_
                    refine s_iald X SHM_1 (g76.2.2.2.2.1 c79) (g76.2.2.2.2.2 c79) dX12_holds_169 ?_
                    refine s_goto (tgt := 186) X dX12_holds_170 (by omega) ?_
                    exact s_eqt (if_pos c79) kM77
                · replace h := ite_pos h c75
                  refine s_const X (by unfold InR; omega) dX12_holds_154 ?_
                  exact s_zret X (Or.inl rfl) (Nat.le_of_ble_eq_true rfl) (Nat.le_of_ble_eq_true rfl) (by cases h; exact hO) dX12_holds_155
              refine s_load0 X 2 rfl dX12_holds_124 ?_
              refine s_getR (id := 3) X fk_X12_16 SHM_0 rfl dX12_holds_125 ?_
              refine s_bipush X (by omega) dX12_holds_128 ?_
              refine s_iload X 1 rfl dX12_holds_130 ?_
              refine s_imul X g67.1 dX12_holds_132 ?_
              refine s_iload X 0 rfl dX12_holds_133 ?_
              refine s_iadd X g67.2.1 dX12_holds_135 ?_
              refine s_iald X SHM_3 g67.2.2.1 g67.2.2.2 dX12_holds_136 ?_
              refine s_ldc (z := 1000000) X (by unfold InR; omega) kc_X12_150 dX12_holds_137 ?_
              refine s_icmplt_f (tgt := 146) X dX12_holds_139 (by omega) (fun c69 => ?_) (fun c70 => ?_)
              · refine s_const X (by unfold InR; omega) dX12_holds_146 ?_
                exact s_eqt (if_neg c69) kM68
              · refine s_const X (by unfold InR; omega) dX12_holds_142 ?_
                refine s_goto (tgt := 147) X dX12_holds_143 (by omega) ?_
                exact s_eqt (if_pos c70) kM68
            · replace h := ite_pos h c60
              refine s_const X (by unfold InR; omega) dX12_holds_88 ?_
              exact s_zret X (Or.inl rfl) (Nat.le_of_ble_eq_true rfl) (Nat.le_of_ble_eq_true rfl) (by cases h; exact hO) dX12_holds_89
          refine s_load0 X 0 rfl dX12_holds_57 ?_
          refine s_iload_n X 2 rfl dX12_holds_58 ?_
          refine s_iload_n X 1 rfl dX12_holds_59 ?_
          obtain ⟨r_5, hq41, h⟩ := bnd_some h
          refine s_callV (As := [VI trip_, VI day_]) X cw_X12_294 SHM_0 rfl dX12_holds_60 (L_M_runs G trip_ day_ m_3 r_5 hq41) rfl ⟨Nat.le_of_ble_eq_true rfl, Nat.le_of_ble_eq_true rfl⟩ ⟨Nat.le_of_ble_eq_true rfl, Nat.le_of_ble_eq_true rfl⟩ (Nat.le_of_ble_eq_true rfl) noT (kkR ?_)
          refine s_ifeq_f (tgt := 76) X dX12_holds_63 (by omega) (fun c44 => ?_) (fun c45 => ?_)
          · replace h := ite_neg h c44
            refine s_const X (by unfold InR; omega) dX12_holds_76 ?_
            refine s_goto (tgt := 81) X dX12_holds_77 (by omega) ?_
            exact s_kn rfl rfl (K40 _ h)
          · replace h := ite_pos h c45
            refine s_load0 X 0 rfl dX12_holds_66 ?_
            refine s_iload X 4 rfl dX12_holds_67 ?_
            refine s_iload_n X 1 rfl dX12_holds_69 ?_
            obtain ⟨r_6, hq48, h⟩ := bnd_some h
            refine s_callV (As := [VI other_, VI day_]) X cw_X12_294 SHM_0 rfl dX12_holds_70 (L_M_runs G other_ day_ m_3 r_6 hq48) rfl ⟨Nat.le_of_ble_eq_true rfl, Nat.le_of_ble_eq_true rfl⟩ ⟨Nat.le_of_ble_eq_true rfl, Nat.le_of_ble_eq_true rfl⟩ (Nat.le_of_ble_eq_true rfl) noT (kkR ?_)
            refine s_ifne_t (tgt := 80) X dX12_holds_73 (by omega) (fun c51 => ?_) (fun c52 => ?_)
            · replace h := ite_pos h c51
              refine s_const X (by unfold InR; omega) dX12_holds_80 ?_
              exact s_kn rfl rfl (K40 _ h)
            · replace h := ite_neg h c52
              refine s_const X (by unfold InR; omega) dX12_holds_76 ?_
              refine s_goto (tgt := 81) X dX12_holds_77 (by omega) ?_
              exact s_kn rfl rfl (K40 _ h)
      refine s_iload_n X 1 rfl dX12_holds_21 ?_
      refine s_const X (by unfold InR; omega) dX12_holds_22 ?_
      refine s_bipush X (by omega) dX12_holds_23 ?_
      refine s_callS (As := [VI day_, VI 0, VI 27]) X cw_X12_126 dX12_holds_25 (L_M_isIn G day_ 0 27 m_2) rfl ⟨Nat.le_of_ble_eq_true rfl, Nat.le_of_ble_eq_true rfl⟩ ⟨Nat.le_of_ble_eq_true rfl, Nat.le_of_ble_eq_true rfl⟩ (Nat.le_of_ble_eq_true rfl) noT (kkR ?_)
      refine s_ifeq_t (tgt := 44) X dX12_holds_28 (by omega) (fun c20 => ?_) (fun c21 => ?_)
      · replace h := ite_pos h c20
        refine s_const X (by unfold InR; omega) dX12_holds_44 ?_
        refine s_goto (tgt := 49) X dX12_holds_45 (by omega) ?_
        exact s_kn rfl rfl (K17 _ h)
      · replace h := ite_neg h c21
        refine s_load0 X 0 rfl dX12_holds_31 ?_
        refine s_iload_n X 2 rfl dX12_holds_32 ?_
        refine s_iload_n X 3 rfl dX12_holds_33 ?_
        refine s_iload X 4 rfl dX12_holds_34 ?_
        refine s_iload X 5 rfl dX12_holds_36 ?_
        obtain ⟨r_3, hq24, h⟩ := bnd_some h
        refine s_callV (As := [VI trip_, VI call_, VI other_, VI otherCall_]) X cw_X12_291 SHM_0 rfl dX12_holds_38 (L_M_isChangeWrong G trip_ call_ other_ otherCall_ m_2 r_3 hq24) rfl ⟨Nat.le_of_ble_eq_true rfl, Nat.le_of_ble_eq_true rfl⟩ ⟨Nat.le_of_ble_eq_true rfl, Nat.le_of_ble_eq_true rfl⟩ (Nat.le_of_ble_eq_true rfl) noT (kkR ?_)
        refine s_ifeq_f (tgt := 48) X dX12_holds_41 (by omega) (fun c27 => ?_) (fun c28 => ?_)
        · replace h := ite_neg h c27
          refine s_const X (by unfold InR; omega) dX12_holds_48 ?_
          exact s_kn rfl rfl (K17 _ h)
        · replace h := ite_pos h c28
          refine s_const X (by unfold InR; omega) dX12_holds_44 ?_
          refine s_goto (tgt := 49) X dX12_holds_45 (by omega) ?_
          exact s_kn rfl rfl (K17 _ h)
set_option maxRecDepth 20000 in
set_option maxHeartbeats 4000000 in
theorem L_M_wish (G : Gl) (trip_ : Int) (call_ : Int) (other_ : Int) (otherCall_ : Int) (many_ : Int) (m : Mem) (r : (Int × Mem))  (h : M_wish trip_ call_ other_ otherCall_ many_ m = some r) : Con SHM G yX12_wish cX12_wish 6 (some .int) rm_X12_wish [VR 0, VI trip_, VI call_, VI other_, VI otherCall_, VI many_] m (((.inl (some (VI r.1)), r.2) : Res × Mem)) := by
  refine con_of (own := "LastbusModel") (by decide) rfl (Nat.le_of_ble_eq_true rfl) (fun C X => ?_)
  obtain ⟨O, hO⟩ : ∃ O : Res × Mem, O = (((.inl (some (VI r.1)), r.2) : Res × Mem)) := ⟨_, rfl⟩
  rw [← hO]
  show J SHM G rm_X12_wish (.inl O) C 0 0 0 [(0, VR 0), (1, VI trip_), (2, VI call_), (3, VI other_), (4, VI otherCall_), (5, VI many_)] [] m
  unfold M_wish at h
  refine s_load0 X 0 rfl dX12_wish_0 ?_
  refine s_iload_n X 1 rfl dX12_wish_1 ?_
  refine s_iload_n X 2 rfl dX12_wish_2 ?_
  obtain ⟨r_, m_, hq2, h⟩ := bq2_some h
  refine s_callV (As := [VI trip_, VI call_]) X cw_X12_162 SHM_0 rfl dX12_wish_3 (L_M_isNoCall G trip_ call_ m (r_, m_) hq2) rfl ⟨Nat.le_of_ble_eq_true rfl, Nat.le_of_ble_eq_true rfl⟩ ⟨Nat.le_of_ble_eq_true rfl, Nat.le_of_ble_eq_true rfl⟩ (Nat.le_of_ble_eq_true rfl) noT (kkR ?_)
  refine s_ifne_t (tgt := 55) X dX12_wish_6 (by omega) (fun c5 => ?_) (fun c6 => ?_)
  · replace h := ite_pos h c5
    refine s_const X (by unfold InR; omega) dX12_wish_55 ?_
    exact s_iret X (Nat.le_of_ble_eq_true rfl) (Nat.le_of_ble_eq_true rfl) (by cases h; exact hO) dX12_wish_56
  · replace h := ite_neg h c6
    refine s_load0 X 0 rfl dX12_wish_9 ?_
    refine s_iload_n X 3 rfl dX12_wish_10 ?_
    refine s_iload X 4 rfl dX12_wish_11 ?_
    obtain ⟨r_2, m_2, hq9, h⟩ := bq2_some h
    refine s_callV (As := [VI other_, VI otherCall_]) X cw_X12_162 SHM_0 rfl dX12_wish_13 (L_M_isNoCall G other_ otherCall_ m_ (r_2, m_2) hq9) rfl ⟨Nat.le_of_ble_eq_true rfl, Nat.le_of_ble_eq_true rfl⟩ ⟨Nat.le_of_ble_eq_true rfl, Nat.le_of_ble_eq_true rfl⟩ (Nat.le_of_ble_eq_true rfl) noT (kkR ?_)
    refine s_ifne_t (tgt := 55) X dX12_wish_16 (by omega) (fun c12 => ?_) (fun c13 => ?_)
    · replace h := ite_pos h c12
      refine s_const X (by unfold InR; omega) dX12_wish_55 ?_
      exact s_iret X (Nat.le_of_ble_eq_true rfl) (Nat.le_of_ble_eq_true rfl) (by cases h; exact hO) dX12_wish_56
    · replace h := ite_neg h c13
      refine s_load0 X 0 rfl dX12_wish_19 ?_
      obtain ⟨kj_, hk16, h⟩ := ltv_elim h
      have K17 : ∀ (v_ : Int), kj_ v_ = some r → J SHM G rm_X12_wish (.inl O) C 0 0 48 [(0, VR 0), (1, VI trip_), (2, VI call_), (3, VI other_), (4, VI otherCall_), (5, VI many_)] [VI v_, VR 0] m_2 := by
        intro v_ h
        subst hk16
        dsimp only at h
        refine s_const X (by unfold InR; omega) dX12_wish_48 ?_
        obtain ⟨r_4, m_3, hq32, h⟩ := bq2_some h
        refine s_callV (As := [VI v_, VI 2]) X cw_X12_130 SHM_0 rfl dX12_wish_49 (L_M_isThrown G v_ 2 m_2 (r_4, m_3) hq32) rfl ⟨Nat.le_of_ble_eq_true rfl, Nat.le_of_ble_eq_true rfl⟩ ⟨Nat.le_of_ble_eq_true rfl, Nat.le_of_ble_eq_true rfl⟩ (Nat.le_of_ble_eq_true rfl) noT (kkR ?_)
        refine s_ifeq_f (tgt := 57) X dX12_wish_52 (by omega) (fun c35 => ?_) (fun c36 => ?_)
        · replace h := ite_neg h c35
          obtain ⟨g37, h⟩ := grd_some h
          refine s_load0 X 0 rfl dX12_wish_57 ?_
          have kM38 : J SHM G rm_X12_wish (.inl O) C 0 0 89 [(0, VR 0), (1, VI trip_), (2, VI call_), (3, VI other_), (4, VI otherCall_), (5, VI many_)] [VI (if ¬ m_3 7 (8 * trip_ + call_).toNat = m_3 7 (8 * other_ + otherCall_).toNat then 1 else 0), VR 0] m_3 := by
            refine s_const X (by unfold InR; omega) dX12_wish_89 ?_
            obtain ⟨r_5, m_4, hq41, h⟩ := bq2_some h
            refine s_callV (As := [VI (if ¬ m_3 7 (8 * trip_ + call_).toNat = m_3 7 (8 * other_ + otherCall_).toNat then 1 else 0), VI 3]) X cw_X12_130 SHM_0 rfl dX12_wish_90 (L_M_isThrown G (if ¬ m_3 7 (8 * trip_ + call_).toNat = m_3 7 (8 * other_ + otherCall_).toNat then 1 else 0) 3 m_3 (r_5, m_4) hq41) rfl ⟨Nat.le_of_ble_eq_true rfl, Nat.le_of_ble_eq_true rfl⟩ ⟨Nat.le_of_ble_eq_true rfl, Nat.le_of_ble_eq_true rfl⟩ (Nat.le_of_ble_eq_true rfl) noT (kkR ?_)
            refine s_ifne_t (tgt := 118) X dX12_wish_93 (by omega) (fun c44 => ?_) (fun c45 => ?_)
            · replace h := ite_pos h c44
              refine s_const X (by unfold InR; omega) dX12_wish_118 ?_
              exact s_iret X (Nat.le_of_ble_eq_true rfl) (Nat.le_of_ble_eq_true rfl) (by cases h; exact hO) dX12_wish_119
            · replace h := ite_neg h c45
              refine s_load0 X 0 rfl dX12_wish_96 ?_
              have kM48 : J SHM G rm_X12_wish (.inl O) C 0 0 111 [(0, VR 0), (1, VI trip_), (2, VI call_), (3, VI other_), (4, VI otherCall_), (5, VI many_)] [VI (if m_4 0 36 = 6 then 1 else 0), VR 0] m_4 := by
                refine s_const X (by unfold InR; omega) dX12_wish_111 ?_
                obtain ⟨r_6, m_5, hq51, h⟩ := bq2_some h
                refine s_callV (As := [VI (if m_4 0 36 = 6 then 1 else 0), VI 4]) X cw_X12_130 SHM_0 rfl dX12_wish_112 (L_M_isThrown G (if m_4 0 36 = 6 then 1 else 0) 4 m_4 (r_6, m_5) hq51) rfl ⟨Nat.le_of_ble_eq_true rfl, Nat.le_of_ble_eq_true rfl⟩ ⟨Nat.le_of_ble_eq_true rfl, Nat.le_of_ble_eq_true rfl⟩ (Nat.le_of_ble_eq_true rfl) noT (kkR ?_)
                refine s_ifeq_f (tgt := 120) X dX12_wish_115 (by omega) (fun c54 => ?_) (fun c55 => ?_)
                · replace h := ite_neg h c54
                  obtain ⟨g56, h⟩ := grd_some h
                  refine s_load0 X 0 rfl dX12_wish_120 ?_
                  refine s_getR (id := 24) X fk_X12_90 SHM_0 rfl dX12_wish_121 ?_
                  refine s_load0 X 0 rfl dX12_wish_124 ?_
                  refine s_getI X fk_X12_297 SHM_0 rfl dX12_wish_125 ?_
                  refine s_iload_n X 1 rfl dX12_wish_128 ?_
                  obtain ⟨m_6, e57, h⟩ := ltv_elim h
                  refine s_iast X e57 SHM_24 g56.1 g56.2 dX12_wish_129 ?_
                  obtain ⟨g58, h⟩ := grd_some h
                  refine s_load0 X 0 rfl dX12_wish_130 ?_
                  refine s_getR (id := 25) X fk_X12_93 SHM_0 rfl dX12_wish_131 ?_
                  refine s_load0 X 0 rfl dX12_wish_134 ?_
                  refine s_getI X fk_X12_297 SHM_0 rfl dX12_wish_135 ?_
                  refine s_iload_n X 2 rfl dX12_wish_138 ?_
                  obtain ⟨m_7, e59, h⟩ := ltv_elim h
                  refine s_iast X e59 SHM_25 g58.1 g58.2 dX12_wish_139 ?_
                  obtain ⟨g60, h⟩ := grd_some h
                  refine s_load0 X 0 rfl dX12_wish_140 ?_
                  refine s_getR (id := 26) X fk_X12_96 SHM_0 rfl dX12_wish_141 ?_
                  refine s_load0 X 0 rfl dX12_wish_144 ?_
                  refine s_getI X fk_X12_297 SHM_0 rfl dX12_wish_145 ?_
                  refine s_iload_n X 3 rfl dX12_wish_148 ?_
                  obtain ⟨m_8, e61, h⟩ := ltv_elim h
                  refine s_iast X e61 SHM_26 g60.1 g60.2 dX12_wish_149 ?_
                  obtain ⟨g62, h⟩ := grd_some h
                  refine s_load0 X 0 rfl dX12_wish_150 ?_
                  refine s_getR (id := 27) X fk_X12_99 SHM_0 rfl dX12_wish_151 ?_
                  refine s_load0 X 0 rfl dX12_wish_154 ?_
                  refine s_getI X fk_X12_297 SHM_0 rfl dX12_wish_155 ?_
                  refine s_iload X 4 rfl dX12_wish_158 ?_
                  obtain ⟨m_9, e63, h⟩ := ltv_elim h
                  refine s_iast X e63 SHM_27 g62.1 g62.2 dX12_wish_160 ?_
                  obtain ⟨g64, h⟩ := grd_some h
                  refine s_load0 X 0 rfl dX12_wish_161 ?_
                  refine s_getR (id := 28) X fk_X12_102 SHM_0 rfl dX12_wish_162 ?_
                  refine s_load0 X 0 rfl dX12_wish_165 ?_
                  refine s_getI X fk_X12_297 SHM_0 rfl dX12_wish_166 ?_
                  refine s_iload X 5 rfl dX12_wish_169 ?_
                  obtain ⟨m_10, e65, h⟩ := ltv_elim h
                  refine s_iast X e65 SHM_28 g64.1 g64.2 dX12_wish_171 ?_
                  obtain ⟨g66, h⟩ := grd_some h
                  refine s_load0 X 0 rfl dX12_wish_172 ?_
                  refine s_dup X rfl dX12_wish_173 ?_
                  refine s_getI X fk_X12_297 SHM_0 rfl dX12_wish_174 ?_
                  refine s_const X (by unfold InR; omega) dX12_wish_177 ?_
                  refine s_iadd X g66 dX12_wish_178 ?_
                  obtain ⟨m_11, e67, h⟩ := ltv_elim h
                  refine s_putI X e67 fp_X12_297 SHM_0 rfl trivial dX12_wish_179 ?_
                  obtain ⟨g68, h⟩ := grd_some h
                  refine s_load0 X 0 rfl dX12_wish_182 ?_
                  refine s_getI X fk_X12_297 SHM_0 rfl dX12_wish_183 ?_
                  refine s_const X (by unfold InR; omega) dX12_wish_186 ?_
                  refine s_isub X g68 dX12_wish_187 ?_
                  exact s_iret X (Nat.le_of_ble_eq_true rfl) (Nat.le_of_ble_eq_true rfl) (by cases h; exact hO) dX12_wish_188
                · replace h := ite_pos h c55
                  refine s_const X (by unfold InR; omega) dX12_wish_118 ?_
                  exact s_iret X (Nat.le_of_ble_eq_true rfl) (Nat.le_of_ble_eq_true rfl) (by cases h; exact hO) dX12_wish_119
              refine s_load0 X 0 rfl dX12_wish_97 ?_
              refine s_getI X fk_X12_297 SHM_0 rfl dX12_wish_98 ?_
              refine s_bipush X (by omega) dX12_wish_101 ?_
              refine s_icmpne_f (tgt := 110) X dX12_wish_103 (by omega) (fun c49 => ?_) (fun c50 => ?_)
              · refine s_const X (by unfold InR; omega) dX12_wish_110 ?_
                exact s_eqt (if_neg c49) kM48
              · refine s_const X (by unfold InR; omega) dX12_wish_106 ?_
                refine s_goto (tgt := 111) X dX12_wish_107 (by omega) ?_
                exact s_eqt (if_pos c50) kM48
          refine s_load0 X 0 rfl dX12_wish_58 ?_
          refine s_getR (id := 7) X fk_X12_33 SHM_0 rfl dX12_wish_59 ?_
          refine s_bipush X (by omega) dX12_wish_62 ?_
          refine s_iload_n X 1 rfl dX12_wish_64 ?_
          refine s_imul X g37.1 dX12_wish_65 ?_
          refine s_iload_n X 2 rfl dX12_wish_66 ?_
          refine s_iadd X g37.2.1 dX12_wish_67 ?_
          refine s_iald X SHM_7 g37.2.2.1 g37.2.2.2.1 dX12_wish_68 ?_
          refine s_load0 X 0 rfl dX12_wish_69 ?_
          refine s_getR (id := 7) X fk_X12_33 SHM_0 rfl dX12_wish_70 ?_
          refine s_bipush X (by omega) dX12_wish_73 ?_
          refine s_iload_n X 3 rfl dX12_wish_75 ?_
          refine s_imul X g37.2.2.2.2.1 dX12_wish_76 ?_
          refine s_iload X 4 rfl dX12_wish_77 ?_
          refine s_iadd X g37.2.2.2.2.2.1 dX12_wish_79 ?_
          refine s_iald X SHM_7 g37.2.2.2.2.2.2.1 g37.2.2.2.2.2.2.2 dX12_wish_80 ?_
          refine s_icmpeq_f (tgt := 88) X dX12_wish_81 (by omega) (fun c39 => ?_) (fun c40 => ?_)
          · refine s_const X (by unfold InR; omega) dX12_wish_88 ?_
            exact s_eqt (if_neg c39) kM38
          · refine s_const X (by unfold InR; omega) dX12_wish_84 ?_
            refine s_goto (tgt := 89) X dX12_wish_85 (by omega) ?_
            exact s_eqt (if_pos c40) kM38
        · replace h := ite_pos h c36
          refine s_const X (by unfold InR; omega) dX12_wish_55 ?_
          exact s_iret X (Nat.le_of_ble_eq_true rfl) (Nat.le_of_ble_eq_true rfl) (by cases h; exact hO) dX12_wish_56
      refine s_load0 X 0 rfl dX12_wish_20 ?_
      refine s_iload_n X 1 rfl dX12_wish_21 ?_
      refine s_iload_n X 2 rfl dX12_wish_22 ?_
      refine s_iload_n X 3 rfl dX12_wish_23 ?_
      refine s_iload X 4 rfl dX12_wish_24 ?_
      obtain ⟨r_3, hq18, h⟩ := bnd_some h
      refine s_callV (As := [VI trip_, VI call_, VI other_, VI otherCall_]) X cw_X12_291 SHM_0 rfl dX12_wish_26 (L_M_isChangeWrong G trip_ call_ other_ otherCall_ m_2 r_3 hq18) rfl ⟨Nat.le_of_ble_eq_true rfl, Nat.le_of_ble_eq_true rfl⟩ ⟨Nat.le_of_ble_eq_true rfl, Nat.le_of_ble_eq_true rfl⟩ (Nat.le_of_ble_eq_true rfl) noT (kkR ?_)
      refine s_ifne_t (tgt := 43) X dX12_wish_29 (by omega) (fun c21 => ?_) (fun c22 => ?_)
      · replace h := ite_pos h c21
        refine s_const X (by unfold InR; omega) dX12_wish_43 ?_
        refine s_goto (tgt := 48) X dX12_wish_44 (by omega) ?_
        exact s_kn rfl rfl (K17 _ h)
      · replace h := ite_neg h c22
        refine s_iload X 5 rfl dX12_wish_32 ?_
        refine s_const X (by unfold InR; omega) dX12_wish_34 ?_
        refine s_bipush X (by omega) dX12_wish_35 ?_
        refine s_callS (As := [VI many_, VI 1, VI 99]) X cw_X12_126 dX12_wish_37 (L_M_isIn G many_ 1 99 m_2) rfl ⟨Nat.le_of_ble_eq_true rfl, Nat.le_of_ble_eq_true rfl⟩ ⟨Nat.le_of_ble_eq_true rfl, Nat.le_of_ble_eq_true rfl⟩ (Nat.le_of_ble_eq_true rfl) noT (kkR ?_)
        refine s_ifne_f (tgt := 47) X dX12_wish_40 (by omega) (fun c27 => ?_) (fun c28 => ?_)
        · replace h := ite_neg h c27
          refine s_const X (by unfold InR; omega) dX12_wish_47 ?_
          exact s_kn rfl rfl (K17 _ h)
        · replace h := ite_pos h c28
          refine s_const X (by unfold InR; omega) dX12_wish_43 ?_
          refine s_goto (tgt := 48) X dX12_wish_44 (by omega) ?_
          exact s_kn rfl rfl (K17 _ h)
set_option maxRecDepth 20000 in
set_option maxHeartbeats 4000000 in
theorem L_M_dropWishes (G : Gl)  (m : Mem) (r : (Int × Mem))  (h : M_dropWishes  m = some r) : Con SHM G yX12_dropWishes cX12_dropWishes 2 (some .int) rm_X12_dropWishes [VR 0] m (((.inl (some (VI r.1)), r.2) : Res × Mem)) := by
  refine con_of (own := "LastbusModel") (by decide) rfl (Nat.le_of_ble_eq_true rfl) (fun C X => ?_)
  obtain ⟨O, hO⟩ : ∃ O : Res × Mem, O = (((.inl (some (VI r.1)), r.2) : Res × Mem)) := ⟨_, rfl⟩
  rw [← hO]
  show J SHM G rm_X12_dropWishes (.inl O) C 0 0 0 [(0, VR 0)] [] m
  unfold M_dropWishes at h
  refine s_load0 X 0 rfl dX12_dropWishes_0 ?_
  refine s_const X (by unfold InR; omega) dX12_dropWishes_1 ?_
  obtain ⟨m_, e2, h⟩ := ltv_elim h
  refine s_putI X e2 fp_X12_120 SHM_0 rfl trivial dX12_dropWishes_2 ?_
  refine s_load0 X 0 rfl dX12_dropWishes_5 ?_
  refine s_getI X fk_X12_297 SHM_0 rfl dX12_dropWishes_6 ?_
  obtain ⟨had_, e4, h⟩ := ltv_elim h
  refine s_istore_n X e4 rfl (by omega) dX12_dropWishes_9 ?_
  refine s_load0 X 1 rfl dX12_dropWishes_10 ?_
  refine s_const X (by unfold InR; omega) dX12_dropWishes_11 ?_
  obtain ⟨m_2, e6, h⟩ := ltv_elim h
  refine s_putI X e6 fp_X12_297 SHM_0 rfl trivial dX12_dropWishes_12 ?_
  refine s_iload_n X 0 rfl dX12_dropWishes_15 ?_
  exact s_iret X (Nat.le_of_ble_eq_true rfl) (Nat.le_of_ble_eq_true rfl) (by cases h; exact hO) dX12_dropWishes_16
set_option maxRecDepth 20000 in
set_option maxHeartbeats 4000000 in
theorem L_M_counts (G : Gl) (wish_ : Int) (day_ : Int) (m : Mem) (r : Int)  (h : M_counts wish_ day_ m = some r) : Con SHM G yX12_counts cX12_counts 3 (some .boolean) rm_X12_counts [VR 0, VI wish_, VI day_] m (((.inl (some (VI r)), m) : Res × Mem)) := by
  refine con_of (own := "LastbusModel") (by decide) rfl (Nat.le_of_ble_eq_true rfl) (fun C X => ?_)
  obtain ⟨O, hO⟩ : ∃ O : Res × Mem, O = (((.inl (some (VI r)), m) : Res × Mem)) := ⟨_, rfl⟩
  rw [← hO]
  show J SHM G rm_X12_counts (.inl O) C 0 0 0 [(0, VR 0), (1, VI wish_), (2, VI day_)] [] m
  unfold M_counts at h
  obtain ⟨g1, h⟩ := grd_some h
  refine s_load0 X 0 rfl dX12_counts_0 ?_
  refine s_load0 X 0 rfl dX12_counts_1 ?_
  refine s_getR (id := 24) X fk_X12_90 SHM_0 rfl dX12_counts_2 ?_
  refine s_iload_n X 1 rfl dX12_counts_5 ?_
  refine s_iald X SHM_24 g1.1 g1.2 dX12_counts_6 ?_
  refine s_iload_n X 2 rfl dX12_counts_7 ?_
  obtain ⟨r_, hq2, h⟩ := bnd_some h
  refine s_callV (As := [VI (m 24 wish_.toNat), VI day_]) X cw_X12_294 SHM_0 rfl dX12_counts_8 (L_M_runs G (m 24 wish_.toNat) day_ m r_ hq2) rfl ⟨Nat.le_of_ble_eq_true rfl, Nat.le_of_ble_eq_true rfl⟩ ⟨Nat.le_of_ble_eq_true rfl, Nat.le_of_ble_eq_true rfl⟩ (Nat.le_of_ble_eq_true rfl) noT (kkR ?_)
  refine s_ifeq_f (tgt := 32) X dX12_counts_11 (by omega) (fun c5 => ?_) (fun c6 => ?_)
  · replace h := ite_neg h c5
    refine s_const X (by unfold InR; omega) dX12_counts_32 ?_
    exact s_zret X (Or.inl rfl) (Nat.le_of_ble_eq_true rfl) (Nat.le_of_ble_eq_true rfl) (by cases h; exact hO) dX12_counts_33
  · replace h := ite_pos h c6
    refine s_load0 X 0 rfl dX12_counts_14 ?_
    refine s_load0 X 0 rfl dX12_counts_15 ?_
    refine s_getR (id := 26) X fk_X12_96 SHM_0 rfl dX12_counts_16 ?_
    refine s_iload_n X 1 rfl dX12_counts_19 ?_
    refine s_iald X SHM_26 g1.1 g1.2 dX12_counts_20 ?_
    refine s_iload_n X 2 rfl dX12_counts_21 ?_
    obtain ⟨r_2, hq9, h⟩ := bnd_some h
    refine s_callV (As := [VI (m 26 wish_.toNat), VI day_]) X cw_X12_294 SHM_0 rfl dX12_counts_22 (L_M_runs G (m 26 wish_.toNat) day_ m r_2 hq9) rfl ⟨Nat.le_of_ble_eq_true rfl, Nat.le_of_ble_eq_true rfl⟩ ⟨Nat.le_of_ble_eq_true rfl, Nat.le_of_ble_eq_true rfl⟩ (Nat.le_of_ble_eq_true rfl) noT (kkR ?_)
    refine s_ifeq_f (tgt := 32) X dX12_counts_25 (by omega) (fun c12 => ?_) (fun c13 => ?_)
    · replace h := ite_neg h c12
      refine s_const X (by unfold InR; omega) dX12_counts_32 ?_
      exact s_zret X (Or.inl rfl) (Nat.le_of_ble_eq_true rfl) (Nat.le_of_ble_eq_true rfl) (by cases h; exact hO) dX12_counts_33
    · replace h := ite_pos h c13
      refine s_const X (by unfold InR; omega) dX12_counts_28 ?_
      refine s_goto (tgt := 33) X dX12_counts_29 (by omega) ?_
      exact s_zret X (Or.inr rfl) (Nat.le_of_ble_eq_true rfl) (Nat.le_of_ble_eq_true rfl) (by cases h; exact hO) dX12_counts_33
set_option maxRecDepth 20000 in
set_option maxHeartbeats 4000000 in
theorem L_M_missedBy (G : Gl) (wish_ : Int) (m : Mem) (r : Int)  (h : M_missedBy wish_ m = some r) : Con SHM G yX12_missedBy cX12_missedBy 5 (some .int) rm_X12_missedBy [VR 0, VI wish_] m (((.inl (some (VI r)), m) : Res × Mem)) := by
  refine con_of (own := "LastbusModel") (by decide) rfl (Nat.le_of_ble_eq_true rfl) (fun C X => ?_)
  obtain ⟨O, hO⟩ : ∃ O : Res × Mem, O = (((.inl (some (VI r)), m) : Res × Mem)) := ⟨_, rfl⟩
  rw [← hO]
  show J SHM G rm_X12_missedBy (.inl O) C 0 0 0 [(0, VR 0), (1, VI wish_)] [] m
  unfold M_missedBy at h
  obtain ⟨g1, h⟩ := grd_some h
  refine s_load0 X 0 rfl dX12_missedBy_0 ?_
  refine s_getR (id := 24) X fk_X12_90 SHM_0 rfl dX12_missedBy_1 ?_
  refine s_iload_n X 1 rfl dX12_missedBy_4 ?_
  refine s_iald X SHM_24 g1.1 g1.2 dX12_missedBy_5 ?_
  obtain ⟨trip_, e2, h⟩ := ltv_elim h
  refine s_istore_n X e2 rfl (by omega) dX12_missedBy_6 ?_
  refine s_load0 X 1 rfl dX12_missedBy_7 ?_
  refine s_getR (id := 25) X fk_X12_93 SHM_0 rfl dX12_missedBy_8 ?_
  refine s_iload_n X 2 rfl dX12_missedBy_11 ?_
  refine s_iald X SHM_25 g1.1 g1.2 dX12_missedBy_12 ?_
  obtain ⟨call_, e4, h⟩ := ltv_elim h
  refine s_istore_n X e4 rfl (by omega) dX12_missedBy_13 ?_
  obtain ⟨g5, h⟩ := grd_some h
  refine s_load0 X 2 rfl dX12_missedBy_14 ?_
  refine s_getR (id := 8) X fk_X12_36 SHM_0 rfl dX12_missedBy_15 ?_
  refine s_bipush X (by omega) dX12_missedBy_18 ?_
  refine s_iload_n X 1 rfl dX12_missedBy_20 ?_
  refine s_imul X g5.1 dX12_missedBy_21 ?_
  refine s_iload_n X 0 rfl dX12_missedBy_22 ?_
  refine s_iadd X g5.2.1 dX12_missedBy_23 ?_
  refine s_iald X SHM_8 g5.2.2.1 g5.2.2.2.1 dX12_missedBy_24 ?_
  refine s_load0 X 2 rfl dX12_missedBy_25 ?_
  refine s_getR (id := 29) X fk_X12_105 SHM_0 rfl dX12_missedBy_26 ?_
  refine s_bipush X (by omega) dX12_missedBy_29 ?_
  refine s_iload_n X 1 rfl dX12_missedBy_31 ?_
  refine s_imul X g5.1 dX12_missedBy_32 ?_
  refine s_iload_n X 0 rfl dX12_missedBy_33 ?_
  refine s_iadd X g5.2.1 dX12_missedBy_34 ?_
  refine s_const X (by unfold InR; omega) dX12_missedBy_35 ?_
  refine s_isub X g5.2.2.2.2.1 dX12_missedBy_36 ?_
  refine s_iald X SHM_29 g5.2.2.2.2.2.1 g5.2.2.2.2.2.2.1 dX12_missedBy_37 ?_
  refine s_iadd X g5.2.2.2.2.2.2.2 dX12_missedBy_38 ?_
  obtain ⟨came_, e6, h⟩ := ltv_elim h
  refine s_istore X e6 rfl (by omega) dX12_missedBy_39 ?_
  obtain ⟨g7, h⟩ := grd_some h
  refine s_iload X 0 rfl dX12_missedBy_41 ?_
  refine s_load0 X 3 rfl dX12_missedBy_43 ?_
  refine s_getR (id := 1) X fk_X12_9 SHM_0 rfl dX12_missedBy_44 ?_
  refine s_load0 X 3 rfl dX12_missedBy_47 ?_
  refine s_getR (id := 7) X fk_X12_33 SHM_0 rfl dX12_missedBy_48 ?_
  refine s_bipush X (by omega) dX12_missedBy_51 ?_
  refine s_iload_n X 2 rfl dX12_missedBy_53 ?_
  refine s_imul X g5.1 dX12_missedBy_54 ?_
  refine s_iload_n X 1 rfl dX12_missedBy_55 ?_
  refine s_iadd X g5.2.1 dX12_missedBy_56 ?_
  refine s_iald X SHM_7 g5.2.2.1 g5.2.2.2.1 dX12_missedBy_57 ?_
  refine s_iald X SHM_1 g7.1 g7.2.1 dX12_missedBy_58 ?_
  refine s_iadd X g7.2.2.1 dX12_missedBy_59 ?_
  refine s_load0 X 3 rfl dX12_missedBy_60 ?_
  refine s_getR (id := 9) X fk_X12_39 SHM_0 rfl dX12_missedBy_61 ?_
  refine s_bipush X (by omega) dX12_missedBy_64 ?_
  refine s_load0 X 3 rfl dX12_missedBy_66 ?_
  refine s_getR (id := 26) X fk_X12_96 SHM_0 rfl dX12_missedBy_67 ?_
  refine s_iload_n X 4 rfl dX12_missedBy_70 ?_
  refine s_iald X SHM_26 g1.1 g1.2 dX12_missedBy_71 ?_
  refine s_imul X g7.2.2.2.1 dX12_missedBy_72 ?_
  refine s_load0 X 3 rfl dX12_missedBy_73 ?_
  refine s_getR (id := 27) X fk_X12_99 SHM_0 rfl dX12_missedBy_74 ?_
  refine s_iload_n X 4 rfl dX12_missedBy_77 ?_
  refine s_iald X SHM_27 g1.1 g1.2 dX12_missedBy_78 ?_
  refine s_iadd X g7.2.2.2.2.1 dX12_missedBy_79 ?_
  refine s_iald X SHM_9 g7.2.2.2.2.2.1 g7.2.2.2.2.2.2.1 dX12_missedBy_80 ?_
  refine s_isub X g7.2.2.2.2.2.2.2 dX12_missedBy_81 ?_
  exact s_iret X (Nat.le_of_ble_eq_true rfl) (Nat.le_of_ble_eq_true rfl) (by cases h; exact hO) dX12_missedBy_82
set_option maxRecDepth 20000 in
set_option maxHeartbeats 4000000 in
theorem L_M_costOf (G : Gl) (day_ : Int) (mask_ : Int) (m : Mem) (r : (Int × Mem))  (h : M_costOf day_ mask_ m = some r) : Con SHM G yX12_costOf cX12_costOf 7 (some .int) rm_X12_costOf [VR 0, VI day_, VI mask_] m (((.inl (some (VI r.1)), r.2) : Res × Mem)) := by
  refine con_of (own := "LastbusModel") (by decide) rfl (Nat.le_of_ble_eq_true rfl) (fun C X => ?_)
  obtain ⟨O, hO⟩ : ∃ O : Res × Mem, O = (((.inl (some (VI r.1)), r.2) : Res × Mem)) := ⟨_, rfl⟩
  rw [← hO]
  show J SHM G rm_X12_costOf (.inl O) C 0 0 0 [(0, VR 0), (1, VI day_), (2, VI mask_)] [] m
  unfold M_costOf at h
  refine s_const X (by unfold InR; omega) dX12_costOf_0 ?_
  obtain ⟨t_, e2, h⟩ := ltv_elim h
  refine s_istore_n X e2 rfl (by omega) dX12_costOf_1 ?_
  obtain ⟨t_4, m_5, hl12, h⟩ := bq2_some h
  obtain ⟨fu30, hl13⟩ := loop_iter hl12
  have KX9 : ∀ q9 : Int × Mem, q9 = (t_4, m_5) → J SHM G rm_X12_costOf (.inl O) C 0 0 69 [(3, VI q9.1), (0, VR 0), (1, VI day_), (2, VI mask_)] [] (q9.2) := by
    intro q9 e9
    subst e9
    show J SHM G rm_X12_costOf (.inl O) C 0 0 69 [(3, VI t_4), (0, VR 0), (1, VI day_), (2, VI mask_)] [] m_5
    refine s_const X (by unfold InR; omega) dX12_costOf_69 ?_
    obtain ⟨goesOn_, e57, h⟩ := ltv_elim h
    refine s_istore_n X e57 rfl (by omega) dX12_costOf_70 ?_
    obtain ⟨s65, hl67, h⟩ := br2_some h
    obtain ⟨fu580, hl68⟩ := loop_iter hl67
    have KR66 : ∀ q9 : (Int × Mem), .inr q9 = s65 → O = ((.inl (some (VI q9.1)), q9.2) : Res × Mem) := by
      intro q9 e9
      subst e9
      replace h := brm2_inr h
      exact (by cases h; exact hO)
    have KX64 : ∀ q9 : Int × Mem, .inl q9 = s65 → J SHM G rm_X12_costOf (.inl O) C 0 0 294 [(3, VI q9.1), (0, VR 0), (1, VI day_), (2, VI mask_)] [] (q9.2) := by
      intro q9 e9
      subst e9
      obtain ⟨goesOn_12, m_15⟩ := q9
      replace h := brm2_inl h
      show J SHM G rm_X12_costOf (.inl O) C 0 0 294 [(3, VI goesOn_12), (0, VR 0), (1, VI day_), (2, VI mask_)] [] m_15
      refine s_const X (by unfold InR; omega) dX12_costOf_294 ?_
      obtain ⟨cost_, e192, h⟩ := ltv_elim h
      refine s_istore X e192 rfl (by omega) dX12_costOf_295 ?_
      refine s_const X (by unfold InR; omega) dX12_costOf_297 ?_
      obtain ⟨t_9, e194, h⟩ := ltv_elim h
      refine s_istore X e194 rfl (by omega) dX12_costOf_298 ?_
      obtain ⟨cost_4, t_12, hl204, h⟩ := bq2_some h
      obtain ⟨fu1950, hl205⟩ := loop_iter hl204
      have KX201 : ∀ q9 : Int × Int, q9 = (cost_4, t_12) → J SHM G rm_X12_costOf (.inl O) C 0 0 365 [(5, VI q9.2), (4, VI q9.1), (3, VI goesOn_12), (0, VR 0), (1, VI day_), (2, VI mask_)] [] m_15 := by
        intro q9 e9
        subst e9
        show J SHM G rm_X12_costOf (.inl O) C 0 0 365 [(5, VI t_12), (4, VI cost_4), (3, VI goesOn_12), (0, VR 0), (1, VI day_), (2, VI mask_)] [] m_15
        refine s_const X (by unfold InR; omega) dX12_costOf_365 ?_
        obtain ⟨w_8, e232, h⟩ := ltv_elim h
        refine s_istore X e232 rfl (by omega) dX12_costOf_366 ?_
        obtain ⟨cost_7, w_11, hl242, h⟩ := bq2_some h
        obtain ⟨fu2330, hl243⟩ := loop_iter hl242
        have KX239 : ∀ q9 : Int × Int, q9 = (cost_7, w_11) → J SHM G rm_X12_costOf (.inl O) C 0 0 465 [(5, VI q9.2), (4, VI q9.1), (3, VI goesOn_12), (0, VR 0), (1, VI day_), (2, VI mask_)] [] m_15 := by
          intro q9 e9
          subst e9
          show J SHM G rm_X12_costOf (.inl O) C 0 0 465 [(5, VI w_11), (4, VI cost_7), (3, VI goesOn_12), (0, VR 0), (1, VI day_), (2, VI mask_)] [] m_15
          refine s_iload X 1 rfl dX12_costOf_465 ?_
          exact s_iret X (Nat.le_of_ble_eq_true rfl) (Nat.le_of_ble_eq_true rfl) (by cases h; exact hO) dX12_costOf_467
        have LP238 : ∀ (fu233 : Nat) (cost_5 : Int) (w_9 : Int), iter (fun s => M_costOf_b8 day_ mask_ m_15 s.1 s.2) fu233 (cost_5, w_9) = some (cost_7, w_11) → J SHM G rm_X12_costOf (.inl O) C 0 0 368 [(5, VI w_9), (4, VI cost_5), (3, VI goesOn_12), (0, VR 0), (1, VI day_), (2, VI mask_)] [] m_15 := by
          intro fu233
          induction fu233 with
          | zero => intro cost_5 w_9 hn234; exact absurd hn234 (by simp [iter])
          | succ fu233 ih237 =>
            intro cost_5 w_9 hn234
            obtain ⟨x235, h, hc236⟩ := iter_succ hn234
            replace h : M_costOf_b8 day_ mask_ m_15 cost_5 w_9 = some x235 := h
            unfold M_costOf_b8 at h
            refine s_iload X 0 rfl dX12_costOf_368 ?_
            refine s_load0 X 3 rfl dX12_costOf_370 ?_
            refine s_getI X fk_X12_297 SHM_0 rfl dX12_costOf_371 ?_
            refine s_icmpge_f (tgt := 465) X dX12_costOf_374 (by omega) (fun c247 => ?_) (fun c248 => ?_)
            · replace h := ite_neg h c247
              exact KX239 _ (iter_exit h hc236)
            · replace h := ite_pos h c248
              obtain ⟨kj_3, hk250, h⟩ := ltv_elim h
              have K251 : ∀ (v_3 : Int), kj_3 v_3 = some x235 → J SHM G rm_X12_costOf (.inl O) C 0 0 433 [(5, VI w_9), (4, VI cost_5), (3, VI goesOn_12), (0, VR 0), (1, VI day_), (2, VI mask_)] [VI v_3] m_15 := by
                intro v_3 h
                subst hk250
                dsimp only at h
                obtain ⟨isMissed_, e273, h⟩ := ltv_elim h
                refine s_istore X e273 rfl (by omega) dX12_costOf_433 ?_
                obtain ⟨g274, h⟩ := grd_some h
                refine s_iload X 2 rfl dX12_costOf_435 ?_
                have kM275 : J SHM G rm_X12_costOf (.inl O) C 0 0 456 [(6, VI isMissed_), (5, VI w_9), (4, VI cost_5), (3, VI goesOn_12), (0, VR 0), (1, VI day_), (2, VI mask_)] [VI (if ¬ isMissed_ = 0 then 60 * (m_15 28 w_9.toNat) else 0), VI cost_5] m_15 := by
                  refine s_iadd X g274.2.2.2 dX12_costOf_456 ?_
                  obtain ⟨cost_6, e278, h⟩ := ltv_elim h
                  refine s_istore X e278 rfl (by omega) dX12_costOf_457 ?_
                  obtain ⟨g279, h⟩ := grd_some h
                  obtain ⟨w_10, e280, h⟩ := ltv_elim h
                  refine s_iinc X 2 rfl g279 e280 rfl (by omega) dX12_costOf_459 ?_
                  refine s_goto (tgt := 368) X dX12_costOf_462 (by omega) ?_
                  refine s_loc [0, 1, 3, 4, 5, 6] rfl ?_
                  exact ih237 _ _ (iter_next h hc236)
                refine s_iload X 0 rfl dX12_costOf_437 ?_
                refine s_ifeq_f (tgt := 455) X dX12_costOf_439 (by omega) (fun c276 => ?_) (fun c277 => ?_)
                · refine s_const X (by unfold InR; omega) dX12_costOf_455 ?_
                  exact s_eqt (if_neg c276) kM275
                · refine s_bipush X (by omega) dX12_costOf_442 ?_
                  refine s_load0 X 4 rfl dX12_costOf_444 ?_
                  refine s_getR (id := 28) X fk_X12_102 SHM_0 rfl dX12_costOf_445 ?_
                  refine s_iload X 1 rfl dX12_costOf_448 ?_
                  refine s_iald X SHM_28 (g274.1 c277) (g274.2.1 c277) dX12_costOf_450 ?_
                  refine s_imul X (g274.2.2.1 c277) dX12_costOf_451 ?_
                  refine s_goto (tgt := 456) X dX12_costOf_452 (by omega) ?_
                  exact s_eqt (if_pos c277) kM275
              refine s_iload_n X 5 rfl dX12_costOf_377 ?_
              refine s_iload X 0 rfl dX12_costOf_378 ?_
              refine s_ishr X dX12_costOf_380 ?_
              refine s_const X (by unfold InR; omega) dX12_costOf_381 ?_
              refine s_iand X dX12_costOf_382 ?_
              refine s_ifne_f (tgt := 432) X dX12_costOf_383 (by omega) (fun c254 => ?_) (fun c255 => ?_)
              · replace h := ite_neg h c254
                refine s_const X (by unfold InR; omega) dX12_costOf_432 ?_
                exact s_kn rfl rfl (K251 _ h)
              · replace h := ite_pos h c255
                refine s_load0 X 3 rfl dX12_costOf_386 ?_
                refine s_iload X 0 rfl dX12_costOf_387 ?_
                refine s_iload_n X 4 rfl dX12_costOf_389 ?_
                obtain ⟨r_8, hq258, h⟩ := bnd_some h
                refine s_callV (As := [VI w_9, VI day_]) X cw_X12_300 SHM_0 rfl dX12_costOf_390 (L_M_counts G w_9 day_ m_15 r_8 hq258) rfl ⟨Nat.le_of_ble_eq_true rfl, Nat.le_of_ble_eq_true rfl⟩ ⟨Nat.le_of_ble_eq_true rfl, Nat.le_of_ble_eq_true rfl⟩ (Nat.le_of_ble_eq_true rfl) noT (kkR ?_)
                refine s_ifeq_f (tgt := 432) X dX12_costOf_393 (by omega) (fun c261 => ?_) (fun c262 => ?_)
                · replace h := ite_neg h c261
                  refine s_const X (by unfold InR; omega) dX12_costOf_432 ?_
                  exact s_kn rfl rfl (K251 _ h)
                · replace h := ite_pos h c262
                  refine s_load0 X 3 rfl dX12_costOf_396 ?_
                  refine s_iload X 0 rfl dX12_costOf_397 ?_
                  obtain ⟨r_9, hq265, h⟩ := bnd_some h
                  refine s_callV (As := [VI w_9]) X cw_X12_303 SHM_0 rfl dX12_costOf_399 (L_M_missedBy G w_9 m_15 r_9 hq265) rfl ⟨Nat.le_of_ble_eq_true rfl, Nat.le_of_ble_eq_true rfl⟩ ⟨Nat.le_of_ble_eq_true rfl, Nat.le_of_ble_eq_true rfl⟩ (Nat.le_of_ble_eq_true rfl) noT (kkR ?_)
                  obtain ⟨g267, h⟩ := grd_some h
                  refine s_load0 X 3 rfl dX12_costOf_402 ?_
                  refine s_getR (id := 29) X fk_X12_105 SHM_0 rfl dX12_costOf_403 ?_
                  refine s_bipush X (by omega) dX12_costOf_406 ?_
                  refine s_load0 X 3 rfl dX12_costOf_408 ?_
                  refine s_getR (id := 26) X fk_X12_96 SHM_0 rfl dX12_costOf_409 ?_
                  refine s_iload X 0 rfl dX12_costOf_412 ?_
                  refine s_iald X SHM_26 g267.1 g267.2.1 dX12_costOf_414 ?_
                  refine s_imul X g267.2.2.1 dX12_costOf_415 ?_
                  refine s_load0 X 3 rfl dX12_costOf_416 ?_
                  refine s_getR (id := 27) X fk_X12_99 SHM_0 rfl dX12_costOf_417 ?_
                  refine s_iload X 0 rfl dX12_costOf_420 ?_
                  refine s_iald X SHM_27 g267.1 g267.2.1 dX12_costOf_422 ?_
                  refine s_iadd X g267.2.2.2.1 dX12_costOf_423 ?_
                  refine s_iald X SHM_29 g267.2.2.2.2.1 g267.2.2.2.2.2 dX12_costOf_424 ?_
                  refine s_icmple_f (tgt := 432) X dX12_costOf_425 (by omega) (fun c268 => ?_) (fun c269 => ?_)
                  · replace h := ite_neg h c268
                    refine s_const X (by unfold InR; omega) dX12_costOf_432 ?_
                    exact s_kn rfl rfl (K251 _ h)
                  · replace h := ite_pos h c269
                    refine s_const X (by unfold InR; omega) dX12_costOf_428 ?_
                    refine s_goto (tgt := 433) X dX12_costOf_429 (by omega) ?_
                    exact s_kn rfl rfl (K251 _ h)
        exact LP238 _ _ _ hl243
      have LP200 : ∀ (fu195 : Nat) (cost_2 : Int) (t_10 : Int), iter (fun s => M_costOf_b7 day_ m_15 s.1 s.2) fu195 (cost_2, t_10) = some (cost_4, t_12) → J SHM G rm_X12_costOf (.inl O) C 0 0 300 [(5, VI t_10), (4, VI cost_2), (3, VI goesOn_12), (0, VR 0), (1, VI day_), (2, VI mask_)] [] m_15 := by
        intro fu195
        induction fu195 with
        | zero => intro cost_2 t_10 hn196; exact absurd hn196 (by simp [iter])
        | succ fu195 ih199 =>
          intro cost_2 t_10 hn196
          obtain ⟨x197, h, hc198⟩ := iter_succ hn196
          replace h : M_costOf_b7 day_ m_15 cost_2 t_10 = some x197 := h
          unfold M_costOf_b7 at h
          refine s_iload X 0 rfl dX12_costOf_300 ?_
          refine s_load0 X 3 rfl dX12_costOf_302 ?_
          refine s_getI X fk_X12_137 SHM_0 rfl dX12_costOf_303 ?_
          refine s_icmpge_f (tgt := 365) X dX12_costOf_306 (by omega) (fun c209 => ?_) (fun c210 => ?_)
          · replace h := ite_neg h c209
            exact KX201 _ (iter_exit h hc198)
          · replace h := ite_pos h c210
            refine s_iload X 1 rfl dX12_costOf_309 ?_
            obtain ⟨kj_2, hk212, h⟩ := ltv_elim h
            have K213 : ∀ (v_2 : Int), kj_2 v_2 = some x197 → J SHM G rm_X12_costOf (.inl O) C 0 0 356 [(5, VI t_10), (4, VI cost_2), (3, VI goesOn_12), (0, VR 0), (1, VI day_), (2, VI mask_)] [VI v_2, VI cost_2] m_15 := by
              intro v_2 h
              subst hk212
              dsimp only at h
              obtain ⟨g227, h⟩ := grd_some h
              refine s_iadd X g227 dX12_costOf_356 ?_
              obtain ⟨cost_3, e228, h⟩ := ltv_elim h
              refine s_istore X e228 rfl (by omega) dX12_costOf_357 ?_
              obtain ⟨g229, h⟩ := grd_some h
              obtain ⟨t_11, e230, h⟩ := ltv_elim h
              refine s_iinc X 1 rfl g229 e230 rfl (by omega) dX12_costOf_359 ?_
              refine s_goto (tgt := 300) X dX12_costOf_362 (by omega) ?_
              exact ih199 _ _ (iter_next h hc198)
            refine s_load0 X 3 rfl dX12_costOf_311 ?_
            refine s_iload X 0 rfl dX12_costOf_312 ?_
            refine s_iload_n X 4 rfl dX12_costOf_314 ?_
            obtain ⟨r_7, hq214, h⟩ := bnd_some h
            refine s_callV (As := [VI t_10, VI day_]) X cw_X12_294 SHM_0 rfl dX12_costOf_315 (L_M_runs G t_10 day_ m_15 r_7 hq214) rfl ⟨Nat.le_of_ble_eq_true rfl, Nat.le_of_ble_eq_true rfl⟩ ⟨Nat.le_of_ble_eq_true rfl, Nat.le_of_ble_eq_true rfl⟩ (Nat.le_of_ble_eq_true rfl) noT (kkR ?_)
            refine s_ifeq_f (tgt := 355) X dX12_costOf_318 (by omega) (fun c217 => ?_) (fun c218 => ?_)
            · replace h := ite_neg h c217
              refine s_const X (by unfold InR; omega) dX12_costOf_355 ?_
              exact s_kn rfl rfl (K213 _ h)
            · replace h := ite_pos h c218
              obtain ⟨g220, h⟩ := grd_some h
              refine s_load0 X 3 rfl dX12_costOf_321 ?_
              refine s_getR (id := 6) X fk_X12_30 SHM_0 rfl dX12_costOf_322 ?_
              refine s_iload X 0 rfl dX12_costOf_325 ?_
              refine s_iald X SHM_6 g220.1 g220.2 dX12_costOf_327 ?_
              refine s_const X (by unfold InR; omega) dX12_costOf_328 ?_
              refine s_icmple_f (tgt := 355) X dX12_costOf_329 (by omega) (fun c223 => ?_) (fun c224 => ?_)
              · replace h := ite_neg h c223
                refine s_const X (by unfold InR; omega) dX12_costOf_355 ?_
                exact s_kn rfl rfl (K213 _ h)
              · replace h := ite_pos h c224
                obtain ⟨g226, h⟩ := grd_some h
                refine s_load0 X 3 rfl dX12_costOf_332 ?_
                refine s_getR (id := 29) X fk_X12_105 SHM_0 rfl dX12_costOf_333 ?_
                refine s_bipush X (by omega) dX12_costOf_336 ?_
                refine s_iload X 0 rfl dX12_costOf_338 ?_
                refine s_imul X g226.1 dX12_costOf_340 ?_
                refine s_load0 X 3 rfl dX12_costOf_341 ?_
                refine s_getR (id := 6) X fk_X12_30 SHM_0 rfl dX12_costOf_342 ?_
                refine s_iload X 0 rfl dX12_costOf_345 ?_
                refine s_iald X SHM_6 g220.1 g220.2 dX12_costOf_347 ?_
                refine s_iadd X g226.2.1 dX12_costOf_348 ?_
                refine s_const X (by unfold InR; omega) dX12_costOf_349 ?_
                refine s_isub X g226.2.2.1 dX12_costOf_350 ?_
                refine s_iald X SHM_29 g226.2.2.2.1 g226.2.2.2.2 dX12_costOf_351 ?_
                refine s_goto (tgt := 356) X dX12_costOf_352 (by omega) ?_
                exact s_kn rfl rfl (K213 _ h)
      exact LP200 _ _ _ hl205
    have LP63 : ∀ (fu58 : Nat) (goesOn_2 : Int) (m_6 : Mem), iter (fun s => M_costOf_b3 day_ mask_ s.1 s.2) fu58 (goesOn_2, m_6) = some s65 → J SHM G rm_X12_costOf (.inl O) C 0 0 71 [(3, VI goesOn_2), (0, VR 0), (1, VI day_), (2, VI mask_)] [] m_6 := by
      intro fu58
      induction fu58 with
      | zero => intro goesOn_2 m_6 hn59; exact absurd hn59 (by simp [iter])
      | succ fu58 ih62 =>
        intro goesOn_2 m_6 hn59
        obtain ⟨x60, h, hc61⟩ := iter_succ hn59
        replace h : M_costOf_b3 day_ mask_ goesOn_2 m_6 = some x60 := h
        unfold M_costOf_b3 at h
        refine s_iload_n X 0 rfl dX12_costOf_71 ?_
        refine s_ifeq_f (tgt := 294) X dX12_costOf_72 (by omega) (fun c72 => ?_) (fun c73 => ?_)
        · replace h := ite_neg h c72
          exact KX64 _ (iter_exit h hc61)
        · replace h := ite_pos h c73
          refine s_const X (by unfold InR; omega) dX12_costOf_75 ?_
          obtain ⟨goesOn_3, e75, h⟩ := ltv_elim h
          refine s_istore_n X e75 rfl (by omega) dX12_costOf_76 ?_
          refine s_const X (by unfold InR; omega) dX12_costOf_77 ?_
          obtain ⟨t_5, e77, h⟩ := ltv_elim h
          refine s_istore X e77 rfl (by omega) dX12_costOf_78 ?_
          obtain ⟨goesOn_8, t_8, m_11, hl87, h⟩ := bq3_some h
          obtain ⟨fu780, hl88⟩ := loop_iter hl87
          have KX84 : ∀ q9 : Int × Int × Mem, q9 = (goesOn_8, t_8, m_11) → J SHM G rm_X12_costOf (.inl O) C 0 0 187 [(4, VI q9.2.1), (3, VI q9.1), (0, VR 0), (1, VI day_), (2, VI mask_)] [] (q9.2.2) := by
            intro q9 e9
            subst e9
            show J SHM G rm_X12_costOf (.inl O) C 0 0 187 [(4, VI t_8), (3, VI goesOn_8), (0, VR 0), (1, VI day_), (2, VI mask_)] [] m_11
            refine s_const X (by unfold InR; omega) dX12_costOf_187 ?_
            obtain ⟨w_, e134, h⟩ := ltv_elim h
            refine s_istore X e134 rfl (by omega) dX12_costOf_188 ?_
            obtain ⟨s142, hl144, h⟩ := br3_some h
            obtain ⟨fu1350, hl145⟩ := loop_iter hl144
            have KR143 : ∀ q9 : (Int × Mem), .inr q9 = s142 → O = ((.inl (some (VI q9.1)), q9.2) : Res × Mem) := by
              intro q9 e9
              subst e9
              replace h := brm3_inr h
              exact (KR66 _ (iter_exit h hc61))
            have KX141 : ∀ q9 : Int × Int × Mem, .inl q9 = s142 → J SHM G rm_X12_costOf (.inl O) C 0 0 291 [(4, VI q9.2.1), (3, VI q9.1), (0, VR 0), (1, VI day_), (2, VI mask_)] [] (q9.2.2) := by
              intro q9 e9
              subst e9
              obtain ⟨goesOn_11, w_7, m_14⟩ := q9
              replace h := brm3_inl h
              show J SHM G rm_X12_costOf (.inl O) C 0 0 291 [(4, VI w_7), (3, VI goesOn_11), (0, VR 0), (1, VI day_), (2, VI mask_)] [] m_14
              refine s_goto (tgt := 71) X dX12_costOf_291 (by omega) ?_
              refine s_loc [1, 2, 3, 4] rfl ?_
              exact ih62 _ _ (iter_next h hc61)
            have LP140 : ∀ (fu135 : Nat) (goesOn_9 : Int) (w_2 : Int) (m_12 : Mem), iter (fun s => M_costOf_b6 day_ mask_ s.1 s.2.1 s.2.2) fu135 (goesOn_9, w_2, m_12) = some s142 → J SHM G rm_X12_costOf (.inl O) C 0 0 190 [(4, VI w_2), (3, VI goesOn_9), (0, VR 0), (1, VI day_), (2, VI mask_)] [] m_12 := by
              intro fu135
              induction fu135 with
              | zero => intro goesOn_9 w_2 m_12 hn136; exact absurd hn136 (by simp [iter])
              | succ fu135 ih139 =>
                intro goesOn_9 w_2 m_12 hn136
                obtain ⟨x137, h, hc138⟩ := iter_succ hn136
                replace h : M_costOf_b6 day_ mask_ goesOn_9 w_2 m_12 = some x137 := h
                unfold M_costOf_b6 at h
                refine s_iload X 0 rfl dX12_costOf_190 ?_
                refine s_load0 X 2 rfl dX12_costOf_192 ?_
                refine s_getI X fk_X12_297 SHM_0 rfl dX12_costOf_193 ?_
                refine s_icmpge_f (tgt := 291) X dX12_costOf_196 (by omega) (fun c149 => ?_) (fun c150 => ?_)
                · replace h := ite_neg h c149
                  exact KX141 _ (iter_exit h hc138)
                · replace h := ite_pos h c150
                  obtain ⟨g151, h⟩ := grd_some h
                  refine s_bipush X (by omega) dX12_costOf_199 ?_
                  refine s_load0 X 2 rfl dX12_costOf_201 ?_
                  refine s_getR (id := 26) X fk_X12_96 SHM_0 rfl dX12_costOf_202 ?_
                  refine s_iload X 0 rfl dX12_costOf_205 ?_
                  refine s_iald X SHM_26 g151.1 g151.2.1 dX12_costOf_207 ?_
                  refine s_imul X g151.2.2.1 dX12_costOf_208 ?_
                  refine s_load0 X 2 rfl dX12_costOf_209 ?_
                  refine s_getR (id := 27) X fk_X12_99 SHM_0 rfl dX12_costOf_210 ?_
                  refine s_iload X 0 rfl dX12_costOf_213 ?_
                  refine s_iald X SHM_27 g151.1 g151.2.1 dX12_costOf_215 ?_
                  refine s_iadd X g151.2.2.2 dX12_costOf_216 ?_
                  obtain ⟨at_, e152, h⟩ := ltv_elim h
                  refine s_istore X e152 rfl (by omega) dX12_costOf_217 ?_
                  refine s_iload_n X 5 rfl dX12_costOf_219 ?_
                  refine s_iload X 1 rfl dX12_costOf_220 ?_
                  refine s_ishr X dX12_costOf_222 ?_
                  refine s_const X (by unfold InR; omega) dX12_costOf_223 ?_
                  refine s_iand X dX12_costOf_224 ?_
                  refine s_const X (by unfold InR; omega) dX12_costOf_225 ?_
                  refine s_icmpne_f (tgt := 285) X dX12_costOf_226 (by omega) (fun c156 => ?_) (fun c157 => ?_)
                  · replace h := ite_neg h c156
                    obtain ⟨g158, h⟩ := grd_some h
                    obtain ⟨w_3, e159, h⟩ := ltv_elim h
                    refine s_iinc X 1 rfl g158 e159 rfl (by omega) dX12_costOf_285 ?_
                    refine s_goto (tgt := 190) X dX12_costOf_288 (by omega) ?_
                    refine s_loc [0, 2, 3, 4, 5] rfl ?_
                    exact ih139 _ _ _ (iter_next h hc138)
                  · replace h := ite_pos h c157
                    refine s_load0 X 3 rfl dX12_costOf_229 ?_
                    refine s_iload X 1 rfl dX12_costOf_230 ?_
                    refine s_iload_n X 4 rfl dX12_costOf_232 ?_
                    obtain ⟨r_4, hq161, h⟩ := bnd_some h
                    refine s_callV (As := [VI w_2, VI day_]) X cw_X12_300 SHM_0 rfl dX12_costOf_233 (L_M_counts G w_2 day_ m_12 r_4 hq161) rfl ⟨Nat.le_of_ble_eq_true rfl, Nat.le_of_ble_eq_true rfl⟩ ⟨Nat.le_of_ble_eq_true rfl, Nat.le_of_ble_eq_true rfl⟩ (Nat.le_of_ble_eq_true rfl) noT (kkR ?_)
                    refine s_ifeq_f (tgt := 285) X dX12_costOf_236 (by omega) (fun c164 => ?_) (fun c165 => ?_)
                    · replace h := ite_neg h c164
                      obtain ⟨g166, h⟩ := grd_some h
                      obtain ⟨w_4, e167, h⟩ := ltv_elim h
                      refine s_iinc X 1 rfl g166 e167 rfl (by omega) dX12_costOf_285 ?_
                      refine s_goto (tgt := 190) X dX12_costOf_288 (by omega) ?_
                      refine s_loc [0, 2, 3, 4, 5] rfl ?_
                      exact ih139 _ _ _ (iter_next h hc138)
                    · replace h := ite_pos h c165
                      obtain ⟨g168, h⟩ := grd_some h
                      refine s_load0 X 3 rfl dX12_costOf_239 ?_
                      refine s_getR (id := 29) X fk_X12_105 SHM_0 rfl dX12_costOf_240 ?_
                      refine s_iload X 0 rfl dX12_costOf_243 ?_
                      refine s_iald X SHM_29 g168.1 g168.2 dX12_costOf_245 ?_
                      refine s_load0 X 3 rfl dX12_costOf_246 ?_
                      refine s_iload X 1 rfl dX12_costOf_247 ?_
                      obtain ⟨r_5, hq169, h⟩ := bnd_some h
                      refine s_callV (As := [VI w_2]) X cw_X12_303 SHM_0 rfl dX12_costOf_249 (L_M_missedBy G w_2 m_12 r_5 hq169) rfl ⟨Nat.le_of_ble_eq_true rfl, Nat.le_of_ble_eq_true rfl⟩ ⟨Nat.le_of_ble_eq_true rfl, Nat.le_of_ble_eq_true rfl⟩ (Nat.le_of_ble_eq_true rfl) noT (kkR ?_)
                      refine s_icmpge_f (tgt := 285) X dX12_costOf_252 (by omega) (fun c172 => ?_) (fun c173 => ?_)
                      · replace h := ite_neg h c172
                        obtain ⟨g174, h⟩ := grd_some h
                        obtain ⟨w_5, e175, h⟩ := ltv_elim h
                        refine s_iinc X 1 rfl g174 e175 rfl (by omega) dX12_costOf_285 ?_
                        refine s_goto (tgt := 190) X dX12_costOf_288 (by omega) ?_
                        refine s_loc [0, 2, 3, 4, 5] rfl ?_
                        exact ih139 _ _ _ (iter_next h hc138)
                      · replace h := ite_pos h c173
                        refine s_load0 X 3 rfl dX12_costOf_255 ?_
                        refine s_getR (id := 29) X fk_X12_105 SHM_0 rfl dX12_costOf_256 ?_
                        refine s_iload X 0 rfl dX12_costOf_259 ?_
                        refine s_load0 X 3 rfl dX12_costOf_261 ?_
                        refine s_iload X 1 rfl dX12_costOf_262 ?_
                        obtain ⟨r_6, hq177, h⟩ := bnd_some h
                        refine s_callV (As := [VI w_2]) X cw_X12_303 SHM_0 rfl dX12_costOf_264 (L_M_missedBy G w_2 m_12 r_6 hq177) rfl ⟨Nat.le_of_ble_eq_true rfl, Nat.le_of_ble_eq_true rfl⟩ ⟨Nat.le_of_ble_eq_true rfl, Nat.le_of_ble_eq_true rfl⟩ (Nat.le_of_ble_eq_true rfl) noT (kkR ?_)
                        obtain ⟨m_13, e180, h⟩ := ltv_elim h
                        refine s_iast X e180 SHM_29 g168.1 g168.2 dX12_costOf_267 ?_
                        refine s_const X (by unfold InR; omega) dX12_costOf_268 ?_
                        obtain ⟨goesOn_10, e182, h⟩ := ltv_elim h
                        refine s_istore_n X e182 rfl (by omega) dX12_costOf_269 ?_
                        refine s_load0 X 3 rfl dX12_costOf_270 ?_
                        refine s_getR (id := 29) X fk_X12_105 SHM_0 rfl dX12_costOf_271 ?_
                        refine s_iload X 1 rfl dX12_costOf_274 ?_
                        refine s_iald X SHM_29 g168.1 g168.2 dX12_costOf_276 ?_
                        refine s_sipush X (by omega) dX12_costOf_277 ?_
                        refine s_icmple_f (tgt := 285) X dX12_costOf_280 (by omega) (fun c186 => ?_) (fun c187 => ?_)
                        · replace h := ite_neg h c186
                          obtain ⟨g188, h⟩ := grd_some h
                          obtain ⟨w_6, e189, h⟩ := ltv_elim h
                          refine s_iinc X 2 rfl g188 e189 rfl (by omega) dX12_costOf_285 ?_
                          refine s_goto (tgt := 190) X dX12_costOf_288 (by omega) ?_
                          refine s_loc [0, 1, 3, 4, 5] rfl ?_
                          exact ih139 _ _ _ (iter_next h hc138)
                        · replace h := ite_pos h c187
                          refine s_const X (by unfold InR; omega) dX12_costOf_283 ?_
                          exact s_iret X (Nat.le_of_ble_eq_true rfl) (Nat.le_of_ble_eq_true rfl) (KR143 _ (iter_exit h hc138)) dX12_costOf_284
            exact LP140 _ _ _ _ hl145
          have LP83 : ∀ (fu78 : Nat) (goesOn_4 : Int) (t_6 : Int) (m_7 : Mem), iter (fun s => M_costOf_b4 day_ s.1 s.2.1 s.2.2) fu78 (goesOn_4, t_6, m_7) = some (goesOn_8, t_8, m_11) → J SHM G rm_X12_costOf (.inl O) C 0 0 80 [(4, VI t_6), (3, VI goesOn_4), (0, VR 0), (1, VI day_), (2, VI mask_)] [] m_7 := by
            intro fu78
            induction fu78 with
            | zero => intro goesOn_4 t_6 m_7 hn79; exact absurd hn79 (by simp [iter])
            | succ fu78 ih82 =>
              intro goesOn_4 t_6 m_7 hn79
              obtain ⟨x80, h, hc81⟩ := iter_succ hn79
              replace h : M_costOf_b4 day_ goesOn_4 t_6 m_7 = some x80 := h
              unfold M_costOf_b4 at h
              refine s_iload X 0 rfl dX12_costOf_80 ?_
              refine s_load0 X 2 rfl dX12_costOf_82 ?_
              refine s_getI X fk_X12_137 SHM_0 rfl dX12_costOf_83 ?_
              refine s_icmpge_f (tgt := 187) X dX12_costOf_86 (by omega) (fun c92 => ?_) (fun c93 => ?_)
              · replace h := ite_neg h c92
                exact KX84 _ (iter_exit h hc81)
              · replace h := ite_pos h c93
                refine s_const X (by unfold InR; omega) dX12_costOf_89 ?_
                obtain ⟨c_5, e95, h⟩ := ltv_elim h
                refine s_istore X e95 rfl (by omega) dX12_costOf_90 ?_
                obtain ⟨goesOn_7, c_9, m_10, hl105, h⟩ := bq3_some h
                obtain ⟨fu960, hl106⟩ := loop_iter hl105
                have KX102 : ∀ q9 : Int × Int × Mem, q9 = (goesOn_7, c_9, m_10) → J SHM G rm_X12_costOf (.inl O) C 0 0 181 [(5, VI q9.2.1), (4, VI t_6), (3, VI q9.1), (0, VR 0), (1, VI day_), (2, VI mask_)] [] (q9.2.2) := by
                  intro q9 e9
                  subst e9
                  show J SHM G rm_X12_costOf (.inl O) C 0 0 181 [(5, VI c_9), (4, VI t_6), (3, VI goesOn_7), (0, VR 0), (1, VI day_), (2, VI mask_)] [] m_10
                  obtain ⟨g131, h⟩ := grd_some h
                  obtain ⟨t_7, e132, h⟩ := ltv_elim h
                  refine s_iinc X 1 rfl g131 e132 rfl (by omega) dX12_costOf_181 ?_
                  refine s_goto (tgt := 80) X dX12_costOf_184 (by omega) ?_
                  refine s_loc [0, 2, 3, 4, 5] rfl ?_
                  exact ih82 _ _ _ (iter_next h hc81)
                have LP101 : ∀ (fu96 : Nat) (goesOn_5 : Int) (c_6 : Int) (m_8 : Mem), iter (fun s => M_costOf_b5 day_ t_6 s.1 s.2.1 s.2.2) fu96 (goesOn_5, c_6, m_8) = some (goesOn_7, c_9, m_10) → J SHM G rm_X12_costOf (.inl O) C 0 0 92 [(5, VI c_6), (4, VI t_6), (3, VI goesOn_5), (0, VR 0), (1, VI day_), (2, VI mask_)] [] m_8 := by
                  intro fu96
                  induction fu96 with
                  | zero => intro goesOn_5 c_6 m_8 hn97; exact absurd hn97 (by simp [iter])
                  | succ fu96 ih100 =>
                    intro goesOn_5 c_6 m_8 hn97
                    obtain ⟨x98, h, hc99⟩ := iter_succ hn97
                    replace h : M_costOf_b5 day_ t_6 goesOn_5 c_6 m_8 = some x98 := h
                    unfold M_costOf_b5 at h
                    refine s_load0 X 3 rfl dX12_costOf_92 ?_
                    refine s_iload X 1 rfl dX12_costOf_93 ?_
                    refine s_iload_n X 4 rfl dX12_costOf_95 ?_
                    obtain ⟨r_3, hq108, h⟩ := bnd_some h
                    refine s_callV (As := [VI t_6, VI day_]) X cw_X12_294 SHM_0 rfl dX12_costOf_96 (L_M_runs G t_6 day_ m_8 r_3 hq108) rfl ⟨Nat.le_of_ble_eq_true rfl, Nat.le_of_ble_eq_true rfl⟩ ⟨Nat.le_of_ble_eq_true rfl, Nat.le_of_ble_eq_true rfl⟩ (Nat.le_of_ble_eq_true rfl) noT (kkR ?_)
                    refine s_ifeq_f (tgt := 181) X dX12_costOf_99 (by omega) (fun c111 => ?_) (fun c112 => ?_)
                    · replace h := ite_neg h c111
                      exact KX102 _ (iter_exit h hc99)
                    · replace h := ite_pos h c112
                      obtain ⟨g113, h⟩ := grd_some h
                      refine s_iload X 0 rfl dX12_costOf_102 ?_
                      refine s_load0 X 3 rfl dX12_costOf_104 ?_
                      refine s_getR (id := 6) X fk_X12_30 SHM_0 rfl dX12_costOf_105 ?_
                      refine s_iload X 1 rfl dX12_costOf_108 ?_
                      refine s_iald X SHM_6 g113.1 g113.2 dX12_costOf_110 ?_
                      refine s_icmpge_f (tgt := 181) X dX12_costOf_111 (by omega) (fun c116 => ?_) (fun c117 => ?_)
                      · replace h := ite_neg h c116
                        exact KX102 _ (iter_exit h hc99)
                      · replace h := ite_pos h c117
                        obtain ⟨g118, h⟩ := grd_some h
                        refine s_load0 X 3 rfl dX12_costOf_114 ?_
                        refine s_getR (id := 29) X fk_X12_105 SHM_0 rfl dX12_costOf_115 ?_
                        refine s_bipush X (by omega) dX12_costOf_118 ?_
                        refine s_iload X 1 rfl dX12_costOf_120 ?_
                        refine s_imul X g118.1 dX12_costOf_122 ?_
                        refine s_iload X 0 rfl dX12_costOf_123 ?_
                        refine s_iadd X g118.2.1 dX12_costOf_125 ?_
                        refine s_iald X SHM_29 g118.2.2.1 g118.2.2.2.1 dX12_costOf_126 ?_
                        refine s_load0 X 3 rfl dX12_costOf_127 ?_
                        refine s_getR (id := 29) X fk_X12_105 SHM_0 rfl dX12_costOf_128 ?_
                        refine s_bipush X (by omega) dX12_costOf_131 ?_
                        refine s_iload X 1 rfl dX12_costOf_133 ?_
                        refine s_imul X g118.1 dX12_costOf_135 ?_
                        refine s_iload X 0 rfl dX12_costOf_136 ?_
                        refine s_iadd X g118.2.1 dX12_costOf_138 ?_
                        refine s_const X (by unfold InR; omega) dX12_costOf_139 ?_
                        refine s_isub X g118.2.2.2.2.1 dX12_costOf_140 ?_
                        refine s_iald X SHM_29 g118.2.2.2.2.2.1 g118.2.2.2.2.2.2 dX12_costOf_141 ?_
                        refine s_icmpge_f (tgt := 175) X dX12_costOf_142 (by omega) (fun c121 => ?_) (fun c122 => ?_)
                        · replace h := ite_neg h c121
                          obtain ⟨g123, h⟩ := grd_some h
                          obtain ⟨c_7, e124, h⟩ := ltv_elim h
                          refine s_iinc X 0 rfl g123 e124 rfl (by omega) dX12_costOf_175 ?_
                          refine s_goto (tgt := 92) X dX12_costOf_178 (by omega) ?_
                          exact ih100 _ _ _ (iter_next h hc99)
                        · replace h := ite_pos h c122
                          refine s_load0 X 3 rfl dX12_costOf_145 ?_
                          refine s_getR (id := 29) X fk_X12_105 SHM_0 rfl dX12_costOf_146 ?_
                          refine s_bipush X (by omega) dX12_costOf_149 ?_
                          refine s_iload X 1 rfl dX12_costOf_151 ?_
                          refine s_imul X g118.1 dX12_costOf_153 ?_
                          refine s_iload X 0 rfl dX12_costOf_154 ?_
                          refine s_iadd X g118.2.1 dX12_costOf_156 ?_
                          refine s_load0 X 3 rfl dX12_costOf_157 ?_
                          refine s_getR (id := 29) X fk_X12_105 SHM_0 rfl dX12_costOf_158 ?_
                          refine s_bipush X (by omega) dX12_costOf_161 ?_
                          refine s_iload X 1 rfl dX12_costOf_163 ?_
                          refine s_imul X g118.1 dX12_costOf_165 ?_
                          refine s_iload X 0 rfl dX12_costOf_166 ?_
                          refine s_iadd X g118.2.1 dX12_costOf_168 ?_
                          refine s_const X (by unfold InR; omega) dX12_costOf_169 ?_
                          refine s_isub X g118.2.2.2.2.1 dX12_costOf_170 ?_
                          refine s_iald X SHM_29 g118.2.2.2.2.2.1 g118.2.2.2.2.2.2 dX12_costOf_171 ?_
                          obtain ⟨m_9, e126, h⟩ := ltv_elim h
                          refine s_iast X e126 SHM_29 g118.2.2.1 g118.2.2.2.1 dX12_costOf_172 ?_
                          refine s_const X (by unfold InR; omega) dX12_costOf_173 ?_
                          obtain ⟨goesOn_6, e128, h⟩ := ltv_elim h
                          refine s_istore_n X e128 rfl (by omega) dX12_costOf_174 ?_
                          obtain ⟨g129, h⟩ := grd_some h
                          obtain ⟨c_8, e130, h⟩ := ltv_elim h
                          refine s_iinc X 1 rfl g129 e130 rfl (by omega) dX12_costOf_175 ?_
                          refine s_goto (tgt := 92) X dX12_costOf_178 (by omega) ?_
                          refine s_loc [0, 2, 1, 3, 4, 5] rfl ?_
                          exact ih100 _ _ _ (iter_next h hc99)
                exact LP101 _ _ _ _ hl106
          exact LP83 _ _ _ _ hl88
    exact LP63 _ _ _ hl68
  have LP8 : ∀ (fu3 : Nat) (t_2 : Int) (m_ : Mem), iter (fun s => M_costOf_b1 day_ s.1 s.2) fu3 (t_2, m_) = some (t_4, m_5) → J SHM G rm_X12_costOf (.inl O) C 0 0 2 [(3, VI t_2), (0, VR 0), (1, VI day_), (2, VI mask_)] [] m_ := by
    intro fu3
    induction fu3 with
    | zero => intro t_2 m_ hn4; exact absurd hn4 (by simp [iter])
    | succ fu3 ih7 =>
      intro t_2 m_ hn4
      obtain ⟨x5, h, hc6⟩ := iter_succ hn4
      replace h : M_costOf_b1 day_ t_2 m_ = some x5 := h
      unfold M_costOf_b1 at h
      refine s_iload_n X 0 rfl dX12_costOf_2 ?_
      refine s_load0 X 1 rfl dX12_costOf_3 ?_
      refine s_getI X fk_X12_137 SHM_0 rfl dX12_costOf_4 ?_
      refine s_icmpge_f (tgt := 69) X dX12_costOf_7 (by omega) (fun c17 => ?_) (fun c18 => ?_)
      · replace h := ite_neg h c17
        exact KX9 _ (iter_exit h hc6)
      · replace h := ite_pos h c18
        refine s_const X (by unfold InR; omega) dX12_costOf_10 ?_
        obtain ⟨c_, e20, h⟩ := ltv_elim h
        refine s_istore X e20 rfl (by omega) dX12_costOf_11 ?_
        obtain ⟨c_4, m_4, hl30, h⟩ := bq2_some h
        obtain ⟨fu210, hl31⟩ := loop_iter hl30
        have KX27 : ∀ q9 : Int × Mem, q9 = (c_4, m_4) → J SHM G rm_X12_costOf (.inl O) C 0 0 63 [(4, VI q9.1), (3, VI t_2), (0, VR 0), (1, VI day_), (2, VI mask_)] [] (q9.2) := by
          intro q9 e9
          subst e9
          show J SHM G rm_X12_costOf (.inl O) C 0 0 63 [(4, VI c_4), (3, VI t_2), (0, VR 0), (1, VI day_), (2, VI mask_)] [] m_4
          obtain ⟨g54, h⟩ := grd_some h
          obtain ⟨t_3, e55, h⟩ := ltv_elim h
          refine s_iinc X 1 rfl g54 e55 rfl (by omega) dX12_costOf_63 ?_
          refine s_goto (tgt := 2) X dX12_costOf_66 (by omega) ?_
          refine s_loc [0, 2, 3, 4] rfl ?_
          exact ih7 _ _ (iter_next h hc6)
        have LP26 : ∀ (fu21 : Nat) (c_2 : Int) (m_2 : Mem), iter (fun s => M_costOf_b2 day_ t_2 s.1 s.2) fu21 (c_2, m_2) = some (c_4, m_4) → J SHM G rm_X12_costOf (.inl O) C 0 0 13 [(4, VI c_2), (3, VI t_2), (0, VR 0), (1, VI day_), (2, VI mask_)] [] m_2 := by
          intro fu21
          induction fu21 with
          | zero => intro c_2 m_2 hn22; exact absurd hn22 (by simp [iter])
          | succ fu21 ih25 =>
            intro c_2 m_2 hn22
            obtain ⟨x23, h, hc24⟩ := iter_succ hn22
            replace h : M_costOf_b2 day_ t_2 c_2 m_2 = some x23 := h
            unfold M_costOf_b2 at h
            obtain ⟨g32, h⟩ := grd_some h
            refine s_iload X 0 rfl dX12_costOf_13 ?_
            refine s_load0 X 2 rfl dX12_costOf_15 ?_
            refine s_getR (id := 6) X fk_X12_30 SHM_0 rfl dX12_costOf_16 ?_
            refine s_iload_n X 1 rfl dX12_costOf_19 ?_
            refine s_iald X SHM_6 g32.1 g32.2 dX12_costOf_20 ?_
            refine s_icmpge_f (tgt := 63) X dX12_costOf_21 (by omega) (fun c35 => ?_) (fun c36 => ?_)
            · replace h := ite_neg h c35
              exact KX27 _ (iter_exit h hc24)
            · replace h := ite_pos h c36
              obtain ⟨g37, h⟩ := grd_some h
              refine s_load0 X 2 rfl dX12_costOf_24 ?_
              refine s_getR (id := 29) X fk_X12_105 SHM_0 rfl dX12_costOf_25 ?_
              refine s_bipush X (by omega) dX12_costOf_28 ?_
              refine s_iload_n X 1 rfl dX12_costOf_30 ?_
              refine s_imul X g37.1 dX12_costOf_31 ?_
              refine s_iload X 0 rfl dX12_costOf_32 ?_
              refine s_iadd X g37.2.1 dX12_costOf_34 ?_
              obtain ⟨kj_, hk38, h⟩ := ltv_elim h
              have K39 : ∀ (v_ : Int), kj_ v_ = some x23 → J SHM G rm_X12_costOf (.inl O) C 0 0 56 [(4, VI c_2), (3, VI t_2), (0, VR 0), (1, VI day_), (2, VI mask_)] [VI v_, VI (8 * t_2 + c_2), VR 29] m_2 := by
                intro v_ h
                subst hk38
                dsimp only at h
                obtain ⟨m_3, e51, h⟩ := ltv_elim h
                refine s_iast X e51 SHM_29 g37.2.2.1 g37.2.2.2 dX12_costOf_56 ?_
                obtain ⟨g52, h⟩ := grd_some h
                obtain ⟨c_3, e53, h⟩ := ltv_elim h
                refine s_iinc X 0 rfl g52 e53 rfl (by omega) dX12_costOf_57 ?_
                refine s_goto (tgt := 13) X dX12_costOf_60 (by omega) ?_
                exact ih25 _ _ (iter_next h hc24)
              refine s_load0 X 2 rfl dX12_costOf_35 ?_
              refine s_iload_n X 1 rfl dX12_costOf_36 ?_
              refine s_iload_n X 3 rfl dX12_costOf_37 ?_
              obtain ⟨r_, hq40, h⟩ := bnd_some h
              refine s_callV (As := [VI t_2, VI day_]) X cw_X12_294 SHM_0 rfl dX12_costOf_38 (L_M_runs G t_2 day_ m_2 r_ hq40) rfl ⟨Nat.le_of_ble_eq_true rfl, Nat.le_of_ble_eq_true rfl⟩ ⟨Nat.le_of_ble_eq_true rfl, Nat.le_of_ble_eq_true rfl⟩ (Nat.le_of_ble_eq_true rfl) noT (kkR ?_)
              refine s_ifeq_f (tgt := 55) X dX12_costOf_41 (by omega) (fun c43 => ?_) (fun c44 => ?_)
              · replace h := ite_neg h c43
                refine s_const X (by unfold InR; omega) dX12_costOf_55 ?_
                exact s_kn rfl rfl (K39 _ h)
              · replace h := ite_pos h c44
                refine s_load0 X 2 rfl dX12_costOf_44 ?_
                refine s_iload_n X 3 rfl dX12_costOf_45 ?_
                refine s_iload_n X 1 rfl dX12_costOf_46 ?_
                refine s_iload X 0 rfl dX12_costOf_47 ?_
                obtain ⟨r_2, hq47, h⟩ := bnd_some h
                refine s_callV (As := [VI day_, VI t_2, VI c_2]) X cw_X12_195 SHM_0 rfl dX12_costOf_49 (L_M_lateOf G day_ t_2 c_2 m_2 r_2 hq47) rfl ⟨Nat.le_of_ble_eq_true rfl, Nat.le_of_ble_eq_true rfl⟩ ⟨Nat.le_of_ble_eq_true rfl, Nat.le_of_ble_eq_true rfl⟩ (Nat.le_of_ble_eq_true rfl) noT (kkR ?_)
                refine s_goto (tgt := 56) X dX12_costOf_52 (by omega) ?_
                exact s_kn rfl rfl (K39 _ h)
        exact LP26 _ _ _ hl31
  exact LP8 _ _ _ hl13
set_option maxRecDepth 20000 in
set_option maxHeartbeats 4000000 in
theorem L_M_waitCost (G : Gl) (day_ : Int) (mask_ : Int) (m : Mem) (r : (Int × Mem))  (h : M_waitCost day_ mask_ m = some r) : Con SHM G yX12_waitCost cX12_waitCost 4 (some .int) rm_X12_waitCost [VR 0, VI day_, VI mask_] m (((.inl (some (VI r.1)), r.2) : Res × Mem)) := by
  refine con_of (own := "LastbusModel") (by decide) rfl (Nat.le_of_ble_eq_true rfl) (fun C X => ?_)
  obtain ⟨O, hO⟩ : ∃ O : Res × Mem, O = (((.inl (some (VI r.1)), r.2) : Res × Mem)) := ⟨_, rfl⟩
  rw [← hO]
  show J SHM G rm_X12_waitCost (.inl O) C 0 0 0 [(0, VR 0), (1, VI day_), (2, VI mask_)] [] m
  unfold M_waitCost at h
  obtain ⟨g1, h⟩ := grd_some h
  refine s_load0 X 0 rfl dX12_waitCost_0 ?_
  have kM2 : J SHM G rm_X12_waitCost (.inl O) C 0 0 32 [(0, VR 0), (1, VI day_), (2, VI mask_)] [VI (if (M_isIn day_ 0 27 = 0) ∨ (M_isIn mask_ 0 (jishl 1 (m 0 36) - 1) = 0) then 1 else 0), VR 0] m := by
    refine s_const X (by unfold InR; omega) dX12_waitCost_32 ?_
    obtain ⟨r_, m_, hq8, h⟩ := bq2_some h
    refine s_callV (As := [VI (if (M_isIn day_ 0 27 = 0) ∨ (M_isIn mask_ 0 (jishl 1 (m 0 36) - 1) = 0) then 1 else 0), VI 1]) X cw_X12_130 SHM_0 rfl dX12_waitCost_33 (L_M_isThrown G (if (M_isIn day_ 0 27 = 0) ∨ (M_isIn mask_ 0 (jishl 1 (m 0 36) - 1) = 0) then 1 else 0) 1 m (r_, m_) hq8) rfl ⟨Nat.le_of_ble_eq_true rfl, Nat.le_of_ble_eq_true rfl⟩ ⟨Nat.le_of_ble_eq_true rfl, Nat.le_of_ble_eq_true rfl⟩ (Nat.le_of_ble_eq_true rfl) noT (kkR ?_)
    refine s_ifeq_f (tgt := 41) X dX12_waitCost_36 (by omega) (fun c11 => ?_) (fun c12 => ?_)
    · replace h := ite_neg h c11
      refine s_load0 X 0 rfl dX12_waitCost_41 ?_
      refine s_iload_n X 1 rfl dX12_waitCost_42 ?_
      refine s_iload_n X 2 rfl dX12_waitCost_43 ?_
      obtain ⟨r_2, m_2, hq14, h⟩ := bq2_some h
      refine s_callV (As := [VI day_, VI mask_]) X cw_X12_306 SHM_0 rfl dX12_waitCost_44 (L_M_costOf G day_ mask_ m_ (r_2, m_2) hq14) rfl ⟨Nat.le_of_ble_eq_true rfl, Nat.le_of_ble_eq_true rfl⟩ ⟨Nat.le_of_ble_eq_true rfl, Nat.le_of_ble_eq_true rfl⟩ (Nat.le_of_ble_eq_true rfl) noT (kkR ?_)
      obtain ⟨cost_, e17, h⟩ := ltv_elim h
      refine s_istore_n X e17 rfl (by omega) dX12_waitCost_47 ?_
      refine s_load0 X 1 rfl dX12_waitCost_48 ?_
      have kM19 : J SHM G rm_X12_waitCost (.inl O) C 0 0 58 [(3, VI cost_), (0, VR 0), (1, VI day_), (2, VI mask_)] [VI (if cost_ < 0 then 1 else 0), VR 0] m_2 := by
        refine s_const X (by unfold InR; omega) dX12_waitCost_58 ?_
        obtain ⟨r_3, m_3, hq22, h⟩ := bq2_some h
        refine s_callV (As := [VI (if cost_ < 0 then 1 else 0), VI 2]) X cw_X12_130 SHM_0 rfl dX12_waitCost_59 (L_M_isThrown G (if cost_ < 0 then 1 else 0) 2 m_2 (r_3, m_3) hq22) rfl ⟨Nat.le_of_ble_eq_true rfl, Nat.le_of_ble_eq_true rfl⟩ ⟨Nat.le_of_ble_eq_true rfl, Nat.le_of_ble_eq_true rfl⟩ (Nat.le_of_ble_eq_true rfl) noT (kkR ?_)
        refine s_ifeq_f (tgt := 69) X dX12_waitCost_62 (by omega) (fun c25 => ?_) (fun c26 => ?_)
        · replace h := ite_neg h c25
          refine s_iload_n X 0 rfl dX12_waitCost_69 ?_
          exact s_iret X (Nat.le_of_ble_eq_true rfl) (Nat.le_of_ble_eq_true rfl) (by cases h; exact hO) dX12_waitCost_70
        · replace h := ite_pos h c26
          refine s_const X (by unfold InR; omega) dX12_waitCost_65 ?_
          refine s_goto (tgt := 70) X dX12_waitCost_66 (by omega) ?_
          exact s_iret X (Nat.le_of_ble_eq_true rfl) (Nat.le_of_ble_eq_true rfl) (by cases h; exact hO) dX12_waitCost_70
      refine s_iload_n X 0 rfl dX12_waitCost_49 ?_
      refine s_ifge_f (tgt := 57) X dX12_waitCost_50 (by omega) (fun c20 => ?_) (fun c21 => ?_)
      · refine s_const X (by unfold InR; omega) dX12_waitCost_57 ?_
        exact s_eqt (if_neg c20) kM19
      · refine s_const X (by unfold InR; omega) dX12_waitCost_53 ?_
        refine s_goto (tgt := 58) X dX12_waitCost_54 (by omega) ?_
        exact s_eqt (if_pos c21) kM19
    · replace h := ite_pos h c12
      refine s_const X (by unfold InR; omega) dX12_waitCost_39 ?_
      exact s_iret X (Nat.le_of_ble_eq_true rfl) (Nat.le_of_ble_eq_true rfl) (by cases h; exact hO) dX12_waitCost_40
  refine s_iload_n X 1 rfl dX12_waitCost_1 ?_
  refine s_const X (by unfold InR; omega) dX12_waitCost_2 ?_
  refine s_bipush X (by omega) dX12_waitCost_3 ?_
  refine s_callS (As := [VI day_, VI 0, VI 27]) X cw_X12_126 dX12_waitCost_5 (L_M_isIn G day_ 0 27 m) rfl ⟨Nat.le_of_ble_eq_true rfl, Nat.le_of_ble_eq_true rfl⟩ ⟨Nat.le_of_ble_eq_true rfl, Nat.le_of_ble_eq_true rfl⟩ (Nat.le_of_ble_eq_true rfl) noT (kkR ?_)
  refine s_ifeq_t (tgt := 27) X dX12_waitCost_8 (by omega) (fun c3 => ?_) (fun c4 => ?_)
  · refine s_const X (by unfold InR; omega) dX12_waitCost_27 ?_
    refine s_goto (tgt := 32) X dX12_waitCost_28 (by omega) ?_
    exact s_eqt (if_pos (Or.inl c3)) kM2
  · have a5 : ¬ (M_isIn day_ 0 27 = 0) := c4
    refine s_iload_n X 2 rfl dX12_waitCost_11 ?_
    refine s_const X (by unfold InR; omega) dX12_waitCost_12 ?_
    refine s_const X (by unfold InR; omega) dX12_waitCost_13 ?_
    refine s_load0 X 0 rfl dX12_waitCost_14 ?_
    refine s_getI X fk_X12_297 SHM_0 rfl dX12_waitCost_15 ?_
    refine s_ishl X dX12_waitCost_18 ?_
    refine s_const X (by unfold InR; omega) dX12_waitCost_19 ?_
    refine s_isub X (g1 a5) dX12_waitCost_20 ?_
    refine s_callS (As := [VI mask_, VI 0, VI (jishl 1 (m 0 36) - 1)]) X cw_X12_126 dX12_waitCost_21 (L_M_isIn G mask_ 0 (jishl 1 (m 0 36) - 1) m) rfl ⟨Nat.le_of_ble_eq_true rfl, Nat.le_of_ble_eq_true rfl⟩ ⟨Nat.le_of_ble_eq_true rfl, Nat.le_of_ble_eq_true rfl⟩ (Nat.le_of_ble_eq_true rfl) noT (kkR ?_)
    refine s_ifne_f (tgt := 31) X dX12_waitCost_24 (by omega) (fun c6 => ?_) (fun c7 => ?_)
    · refine s_const X (by unfold InR; omega) dX12_waitCost_31 ?_
      exact s_eqt (if_neg (fun q => q.elim a5 c6)) kM2
    · refine s_const X (by unfold InR; omega) dX12_waitCost_27 ?_
      refine s_goto (tgt := 32) X dX12_waitCost_28 (by omega) ?_
      exact s_eqt (if_pos (Or.inr c7)) kM2
set_option maxRecDepth 20000 in
set_option maxHeartbeats 4000000 in
theorem L_M_bestWaits (G : Gl) (day_ : Int) (m : Mem) (r : (Int × Mem))  (h : M_bestWaits day_ m = some r) : Con SHM G yX12_bestWaits cX12_bestWaits 6 (some .int) rm_X12_bestWaits [VR 0, VI day_] m (((.inl (some (VI r.1)), r.2) : Res × Mem)) := by
  refine con_of (own := "LastbusModel") (by decide) rfl (Nat.le_of_ble_eq_true rfl) (fun C X => ?_)
  obtain ⟨O, hO⟩ : ∃ O : Res × Mem, O = (((.inl (some (VI r.1)), r.2) : Res × Mem)) := ⟨_, rfl⟩
  rw [← hO]
  show J SHM G rm_X12_bestWaits (.inl O) C 0 0 0 [(0, VR 0), (1, VI day_)] [] m
  unfold M_bestWaits at h
  refine s_load0 X 0 rfl dX12_bestWaits_0 ?_
  refine s_iload_n X 1 rfl dX12_bestWaits_1 ?_
  refine s_const X (by unfold InR; omega) dX12_bestWaits_2 ?_
  obtain ⟨r_, m_, hq2, h⟩ := bq2_some h
  refine s_callV (As := [VI day_, VI 1]) X cw_X12_154 SHM_0 rfl dX12_bestWaits_3 (L_M_isNoDay G day_ 1 m (r_, m_) hq2) rfl ⟨Nat.le_of_ble_eq_true rfl, Nat.le_of_ble_eq_true rfl⟩ ⟨Nat.le_of_ble_eq_true rfl, Nat.le_of_ble_eq_true rfl⟩ (Nat.le_of_ble_eq_true rfl) noT (kkR ?_)
  refine s_ifeq_f (tgt := 11) X dX12_bestWaits_6 (by omega) (fun c5 => ?_) (fun c6 => ?_)
  · replace h := ite_neg h c5
    refine s_const X (by unfold InR; omega) dX12_bestWaits_11 ?_
    obtain ⟨best_, e8, h⟩ := ltv_elim h
    refine s_istore_n X e8 rfl (by omega) dX12_bestWaits_12 ?_
    refine s_ldc (z := 1000000) X (by unfold InR; omega) kc_X12_150 dX12_bestWaits_13 ?_
    obtain ⟨least_, e10, h⟩ := ltv_elim h
    refine s_istore_n X e10 rfl (by omega) dX12_bestWaits_15 ?_
    refine s_const X (by unfold InR; omega) dX12_bestWaits_16 ?_
    obtain ⟨mask_, e12, h⟩ := ltv_elim h
    refine s_istore X e12 rfl (by omega) dX12_bestWaits_17 ?_
    obtain ⟨best_4, least_4, mask_5, m_4, hl22, h⟩ := bq4_some h
    obtain ⟨fu130, hl23⟩ := loop_iter hl22
    have KX19 : ∀ q9 : Int × Int × Int × Mem, q9 = (best_4, least_4, mask_5, m_4) → J SHM G rm_X12_bestWaits (.inl O) C 0 0 62 [(4, VI q9.2.2.1), (3, VI q9.2.1), (2, VI q9.1), (0, VR 0), (1, VI day_)] [] (q9.2.2.2) := by
      intro q9 e9
      subst e9
      show J SHM G rm_X12_bestWaits (.inl O) C 0 0 62 [(4, VI mask_5), (3, VI least_4), (2, VI best_4), (0, VR 0), (1, VI day_)] [] m_4
      refine s_iload_n X 2 rfl dX12_bestWaits_62 ?_
      exact s_iret X (Nat.le_of_ble_eq_true rfl) (Nat.le_of_ble_eq_true rfl) (by cases h; exact hO) dX12_bestWaits_63
    have LP18 : ∀ (fu13 : Nat) (best_2 : Int) (least_2 : Int) (mask_2 : Int) (m_2 : Mem), iter (fun s => M_bestWaits_b1 day_ s.1 s.2.1 s.2.2.1 s.2.2.2) fu13 (best_2, least_2, mask_2, m_2) = some (best_4, least_4, mask_5, m_4) → J SHM G rm_X12_bestWaits (.inl O) C 0 0 19 [(4, VI mask_2), (3, VI least_2), (2, VI best_2), (0, VR 0), (1, VI day_)] [] m_2 := by
      intro fu13
      induction fu13 with
      | zero => intro best_2 least_2 mask_2 m_2 hn14; exact absurd hn14 (by simp [iter])
      | succ fu13 ih17 =>
        intro best_2 least_2 mask_2 m_2 hn14
        obtain ⟨x15, h, hc16⟩ := iter_succ hn14
        replace h : M_bestWaits_b1 day_ best_2 least_2 mask_2 m_2 = some x15 := h
        unfold M_bestWaits_b1 at h
        refine s_iload X 0 rfl dX12_bestWaits_19 ?_
        refine s_const X (by unfold InR; omega) dX12_bestWaits_21 ?_
        refine s_load0 X 3 rfl dX12_bestWaits_22 ?_
        refine s_getI X fk_X12_297 SHM_0 rfl dX12_bestWaits_23 ?_
        refine s_ishl X dX12_bestWaits_26 ?_
        refine s_icmpge_f (tgt := 62) X dX12_bestWaits_27 (by omega) (fun c27 => ?_) (fun c28 => ?_)
        · replace h := ite_neg h c27
          exact KX19 _ (iter_exit h hc16)
        · replace h := ite_pos h c28
          refine s_load0 X 3 rfl dX12_bestWaits_30 ?_
          refine s_iload_n X 4 rfl dX12_bestWaits_31 ?_
          refine s_iload X 0 rfl dX12_bestWaits_32 ?_
          obtain ⟨r_2, m_3, hq30, h⟩ := bq2_some h
          refine s_callV (As := [VI day_, VI mask_2]) X cw_X12_306 SHM_0 rfl dX12_bestWaits_34 (L_M_costOf G day_ mask_2 m_2 (r_2, m_3) hq30) rfl ⟨Nat.le_of_ble_eq_true rfl, Nat.le_of_ble_eq_true rfl⟩ ⟨Nat.le_of_ble_eq_true rfl, Nat.le_of_ble_eq_true rfl⟩ (Nat.le_of_ble_eq_true rfl) noT (kkR ?_)
          obtain ⟨cost_, e33, h⟩ := ltv_elim h
          refine s_istore X e33 rfl (by omega) dX12_bestWaits_37 ?_
          have kF36 : ¬ ((0 ≤ cost_) ∧ (cost_ < least_2)) → J SHM G rm_X12_bestWaits (.inl O) C 0 0 56 [(5, VI cost_), (4, VI mask_2), (3, VI least_2), (2, VI best_2), (0, VR 0), (1, VI day_)] [] m_3 := by
            intro c41
            replace h := ite_neg h c41
            obtain ⟨g39, h⟩ := grd_some h
            obtain ⟨mask_3, e40, h⟩ := ltv_elim h
            refine s_iinc X 1 rfl g39 e40 rfl (by omega) dX12_bestWaits_56 ?_
            refine s_goto (tgt := 19) X dX12_bestWaits_59 (by omega) ?_
            refine s_loc [0, 2, 3, 4, 5] rfl ?_
            exact ih17 _ _ _ _ (iter_next h hc16)
          refine s_iload X 0 rfl dX12_bestWaits_39 ?_
          refine s_iflt_f (tgt := 56) X dX12_bestWaits_41 (by omega) (fun c37 => ?_) (fun c38 => ?_)
          · exact kF36 (fun q => c37 q.1)
          · have a42 : 0 ≤ cost_ := c38
            refine s_iload X 0 rfl dX12_bestWaits_44 ?_
            refine s_iload_n X 2 rfl dX12_bestWaits_46 ?_
            refine s_icmpge_f (tgt := 56) X dX12_bestWaits_47 (by omega) (fun c43 => ?_) (fun c44 => ?_)
            · exact kF36 (fun q => c43 q.2)
            · replace h := ite_pos h ⟨a42, c44⟩
              refine s_iload X 0 rfl dX12_bestWaits_50 ?_
              obtain ⟨least_3, e46, h⟩ := ltv_elim h
              refine s_istore_n X e46 rfl (by omega) dX12_bestWaits_52 ?_
              refine s_iload X 2 rfl dX12_bestWaits_53 ?_
              obtain ⟨best_3, e48, h⟩ := ltv_elim h
              refine s_istore_n X e48 rfl (by omega) dX12_bestWaits_55 ?_
              obtain ⟨g49, h⟩ := grd_some h
              obtain ⟨mask_4, e50, h⟩ := ltv_elim h
              refine s_iinc X 3 rfl g49 e50 rfl (by omega) dX12_bestWaits_56 ?_
              refine s_goto (tgt := 19) X dX12_bestWaits_59 (by omega) ?_
              refine s_loc [0, 2, 1, 4, 5] rfl ?_
              exact ih17 _ _ _ _ (iter_next h hc16)
    exact LP18 _ _ _ _ _ hl23
  · replace h := ite_pos h c6
    refine s_const X (by unfold InR; omega) dX12_bestWaits_9 ?_
    exact s_iret X (Nat.le_of_ble_eq_true rfl) (Nat.le_of_ble_eq_true rfl) (by cases h; exact hO) dX12_bestWaits_10
set_option maxRecDepth 20000 in
set_option maxHeartbeats 4000000 in
theorem L_M_tellAll (G : Gl) (day_ : Int) (minute_ : Int) (m : Mem) (r : Mem)  (h : M_tellAll day_ minute_ m = some r) : Con SHM G yX12_tellAll cX12_tellAll 6 none rm_X12_tellAll [VR 0, VI day_, VI minute_] m (((.inl none, r) : Res × Mem)) := by
  refine con_of (own := "LastbusModel") (by decide) rfl (Nat.le_of_ble_eq_true rfl) (fun C X => ?_)
  obtain ⟨O, hO⟩ : ∃ O : Res × Mem, O = (((.inl none, r) : Res × Mem)) := ⟨_, rfl⟩
  rw [← hO]
  show J SHM G rm_X12_tellAll (.inl O) C 0 0 0 [(0, VR 0), (1, VI day_), (2, VI minute_)] [] m
  unfold M_tellAll at h
  refine s_const X (by unfold InR; omega) dX12_tellAll_0 ?_
  obtain ⟨a_, e2, h⟩ := ltv_elim h
  refine s_istore_n X e2 rfl (by omega) dX12_tellAll_1 ?_
  obtain ⟨a_4, m_6, hl12, h⟩ := bq2_some h
  obtain ⟨fu30, hl13⟩ := loop_iter hl12
  have KX9 : ∀ q9 : Int × Mem, q9 = (a_4, m_6) → J SHM G rm_X12_tellAll (.inl O) C 0 0 62 [(3, VI q9.1), (0, VR 0), (1, VI day_), (2, VI minute_)] [] (q9.2) := by
    intro q9 e9
    subst e9
    show J SHM G rm_X12_tellAll (.inl O) C 0 0 62 [(3, VI a_4), (0, VR 0), (1, VI day_), (2, VI minute_)] [] m_6
    exact s_vret X (Nat.le_of_ble_eq_true rfl) (Nat.le_of_ble_eq_true rfl) (by cases h; exact hO) dX12_tellAll_62
  have LP8 : ∀ (fu3 : Nat) (a_2 : Int) (m_ : Mem), iter (fun s => M_tellAll_b1 day_ minute_ s.1 s.2) fu3 (a_2, m_) = some (a_4, m_6) → J SHM G rm_X12_tellAll (.inl O) C 0 0 2 [(3, VI a_2), (0, VR 0), (1, VI day_), (2, VI minute_)] [] m_ := by
    intro fu3
    induction fu3 with
    | zero => intro a_2 m_ hn4; exact absurd hn4 (by simp [iter])
    | succ fu3 ih7 =>
      intro a_2 m_ hn4
      obtain ⟨x5, h, hc6⟩ := iter_succ hn4
      replace h : M_tellAll_b1 day_ minute_ a_2 m_ = some x5 := h
      unfold M_tellAll_b1 at h
      refine s_iload_n X 0 rfl dX12_tellAll_2 ?_
      refine s_load0 X 1 rfl dX12_tellAll_3 ?_
      refine s_getI X fk_X12_123 SHM_0 rfl dX12_tellAll_4 ?_
      refine s_icmpge_f (tgt := 62) X dX12_tellAll_7 (by omega) (fun c17 => ?_) (fun c18 => ?_)
      · replace h := ite_neg h c17
        exact KX9 _ (iter_exit h hc6)
      · replace h := ite_pos h c18
        refine s_load0 X 1 rfl dX12_tellAll_10 ?_
        refine s_iload_n X 0 rfl dX12_tellAll_11 ?_
        refine s_iload_n X 0 rfl dX12_tellAll_12 ?_
        refine s_iload_n X 2 rfl dX12_tellAll_13 ?_
        refine s_iload_n X 3 rfl dX12_tellAll_14 ?_
        obtain ⟨r_, m_2, hq20, h⟩ := bq2_some h
        refine s_callV (As := [VI a_2, VI a_2, VI day_, VI minute_]) X cw_X12_243 SHM_0 rfl dX12_tellAll_15 (L_M_earliestOf G a_2 a_2 day_ minute_ m_ (r_, m_2) hq20) rfl ⟨Nat.le_of_ble_eq_true rfl, Nat.le_of_ble_eq_true rfl⟩ ⟨Nat.le_of_ble_eq_true rfl, Nat.le_of_ble_eq_true rfl⟩ (Nat.le_of_ble_eq_true rfl) noT (kkR ?_)
        obtain ⟨time_, e23, h⟩ := ltv_elim h
        refine s_istore X e23 rfl (by omega) dX12_tellAll_18 ?_
        refine s_const X (by unfold InR; omega) dX12_tellAll_20 ?_
        obtain ⟨b_, e25, h⟩ := ltv_elim h
        refine s_istore X e25 rfl (by omega) dX12_tellAll_21 ?_
        obtain ⟨b_4, m_5, hl35, h⟩ := bq2_some h
        obtain ⟨fu260, hl36⟩ := loop_iter hl35
        have KX32 : ∀ q9 : Int × Mem, q9 = (b_4, m_5) → J SHM G rm_X12_tellAll (.inl O) C 0 0 56 [(5, VI q9.1), (4, VI time_), (3, VI a_2), (0, VR 0), (1, VI day_), (2, VI minute_)] [] (q9.2) := by
          intro q9 e9
          subst e9
          show J SHM G rm_X12_tellAll (.inl O) C 0 0 56 [(5, VI b_4), (4, VI time_), (3, VI a_2), (0, VR 0), (1, VI day_), (2, VI minute_)] [] m_5
          obtain ⟨g49, h⟩ := grd_some h
          obtain ⟨a_3, e50, h⟩ := ltv_elim h
          refine s_iinc X 2 rfl g49 e50 rfl (by omega) dX12_tellAll_56 ?_
          refine s_goto (tgt := 2) X dX12_tellAll_59 (by omega) ?_
          refine s_loc [0, 3, 4, 5] rfl ?_
          exact ih7 _ _ (iter_next h hc6)
        have LP31 : ∀ (fu26 : Nat) (b_2 : Int) (m_3 : Mem), iter (fun s => M_tellAll_b2 a_2 s.1 s.2) fu26 (b_2, m_3) = some (b_4, m_5) → J SHM G rm_X12_tellAll (.inl O) C 0 0 23 [(5, VI b_2), (4, VI time_), (3, VI a_2), (0, VR 0), (1, VI day_), (2, VI minute_)] [] m_3 := by
          intro fu26
          induction fu26 with
          | zero => intro b_2 m_3 hn27; exact absurd hn27 (by simp [iter])
          | succ fu26 ih30 =>
            intro b_2 m_3 hn27
            obtain ⟨x28, h, hc29⟩ := iter_succ hn27
            replace h : M_tellAll_b2 a_2 b_2 m_3 = some x28 := h
            unfold M_tellAll_b2 at h
            refine s_iload X 0 rfl dX12_tellAll_23 ?_
            refine s_load0 X 3 rfl dX12_tellAll_25 ?_
            refine s_getI X fk_X12_123 SHM_0 rfl dX12_tellAll_26 ?_
            refine s_icmpge_f (tgt := 56) X dX12_tellAll_29 (by omega) (fun c40 => ?_) (fun c41 => ?_)
            · replace h := ite_neg h c40
              exact KX32 _ (iter_exit h hc29)
            · replace h := ite_pos h c41
              obtain ⟨g42, h⟩ := grd_some h
              refine s_load0 X 3 rfl dX12_tellAll_32 ?_
              refine s_getR (id := 30) X fk_X12_108 SHM_0 rfl dX12_tellAll_33 ?_
              refine s_bipush X (by omega) dX12_tellAll_36 ?_
              refine s_iload_n X 2 rfl dX12_tellAll_38 ?_
              refine s_imul X g42.1 dX12_tellAll_39 ?_
              refine s_iload X 0 rfl dX12_tellAll_40 ?_
              refine s_iadd X g42.2.1 dX12_tellAll_42 ?_
              refine s_load0 X 3 rfl dX12_tellAll_43 ?_
              refine s_iload X 0 rfl dX12_tellAll_44 ?_
              obtain ⟨r_2, hq43, h⟩ := bnd_some h
              refine s_callV (As := [VI b_2]) X cw_X12_235 SHM_0 rfl dX12_tellAll_46 (L_M_at G b_2 m_3 r_2 hq43) rfl ⟨Nat.le_of_ble_eq_true rfl, Nat.le_of_ble_eq_true rfl⟩ ⟨Nat.le_of_ble_eq_true rfl, Nat.le_of_ble_eq_true rfl⟩ (Nat.le_of_ble_eq_true rfl) noT (kkR ?_)
              obtain ⟨m_4, e46, h⟩ := ltv_elim h
              refine s_iast X e46 SHM_30 g42.2.2.1 g42.2.2.2 dX12_tellAll_49 ?_
              obtain ⟨g47, h⟩ := grd_some h
              obtain ⟨b_3, e48, h⟩ := ltv_elim h
              refine s_iinc X 0 rfl g47 e48 rfl (by omega) dX12_tellAll_50 ?_
              refine s_goto (tgt := 23) X dX12_tellAll_53 (by omega) ?_
              exact ih30 _ _ (iter_next h hc29)
        exact LP31 _ _ _ hl36
  exact LP8 _ _ _ hl13
set_option maxRecDepth 20000 in
set_option maxHeartbeats 4000000 in
theorem L_M_lostBy (G : Gl) (stop_ : Int) (day_ : Int) (m : Mem) (r : (Int × Mem))  (h : M_lostBy stop_ day_ m = some r) : Con SHM G yX12_lostBy cX12_lostBy 6 (some .int) rm_X12_lostBy [VR 0, VI stop_, VI day_] m (((.inl (some (VI r.1)), r.2) : Res × Mem)) := by
  refine con_of (own := "LastbusModel") (by decide) rfl (Nat.le_of_ble_eq_true rfl) (fun C X => ?_)
  obtain ⟨O, hO⟩ : ∃ O : Res × Mem, O = (((.inl (some (VI r.1)), r.2) : Res × Mem)) := ⟨_, rfl⟩
  rw [← hO]
  show J SHM G rm_X12_lostBy (.inl O) C 0 0 0 [(0, VR 0), (1, VI stop_), (2, VI day_)] [] m
  unfold M_lostBy at h
  refine s_load0 X 0 rfl dX12_lostBy_0 ?_
  refine s_iload_n X 2 rfl dX12_lostBy_1 ?_
  refine s_const X (by unfold InR; omega) dX12_lostBy_2 ?_
  obtain ⟨m_, hq2, h⟩ := bnd_some h
  refine s_callV (As := [VI day_, VI 0]) X cw_X12_309 SHM_0 rfl dX12_lostBy_3 (L_M_tellAll G day_ 0 m m_ hq2) rfl ⟨Nat.le_of_ble_eq_true rfl, Nat.le_of_ble_eq_true rfl⟩ ⟨Nat.le_of_ble_eq_true rfl, Nat.le_of_ble_eq_true rfl⟩ (Nat.le_of_ble_eq_true rfl) noT (kkU ?_)
  refine s_load0 X 0 rfl dX12_lostBy_6 ?_
  refine s_iload_n X 1 rfl dX12_lostBy_7 ?_
  obtain ⟨m_2, e6, h⟩ := ltv_elim h
  refine s_putI X e6 fp_X12_19 SHM_0 rfl trivial dX12_lostBy_8 ?_
  refine s_load0 X 0 rfl dX12_lostBy_11 ?_
  obtain ⟨m_3, hq8, h⟩ := bnd_some h
  refine s_callV (As := []) X cw_X12_144 SHM_0 rfl dX12_lostBy_12 (L_M_walks G m_2 m_3 hq8) rfl ⟨Nat.le_of_ble_eq_true rfl, Nat.le_of_ble_eq_true rfl⟩ ⟨Nat.le_of_ble_eq_true rfl, Nat.le_of_ble_eq_true rfl⟩ (Nat.le_of_ble_eq_true rfl) noT (kkU ?_)
  refine s_const X (by unfold InR; omega) dX12_lostBy_15 ?_
  obtain ⟨many_, e12, h⟩ := ltv_elim h
  refine s_istore_n X e12 rfl (by omega) dX12_lostBy_16 ?_
  refine s_const X (by unfold InR; omega) dX12_lostBy_17 ?_
  obtain ⟨a_, e14, h⟩ := ltv_elim h
  refine s_istore X e14 rfl (by omega) dX12_lostBy_18 ?_
  obtain ⟨many_6, a_4, m_8, hl24, h⟩ := bq3_some h
  obtain ⟨fu150, hl25⟩ := loop_iter hl24
  have KX21 : ∀ q9 : Int × Int × Mem, q9 = (many_6, a_4, m_8) → J SHM G rm_X12_lostBy (.inl O) C 0 0 108 [(4, VI q9.2.1), (3, VI q9.1), (0, VR 0), (1, VI stop_), (2, VI day_)] [] (q9.2.2) := by
    intro q9 e9
    subst e9
    show J SHM G rm_X12_lostBy (.inl O) C 0 0 108 [(4, VI a_4), (3, VI many_6), (0, VR 0), (1, VI stop_), (2, VI day_)] [] m_8
    refine s_load0 X 2 rfl dX12_lostBy_108 ?_
    refine s_const X (by unfold InR; omega) dX12_lostBy_109 ?_
    obtain ⟨m_9, e81, h⟩ := ltv_elim h
    refine s_putI X e81 fp_X12_19 SHM_0 rfl trivial dX12_lostBy_110 ?_
    refine s_load0 X 2 rfl dX12_lostBy_113 ?_
    obtain ⟨m_10, hq83, h⟩ := bnd_some h
    refine s_callV (As := []) X cw_X12_144 SHM_0 rfl dX12_lostBy_114 (L_M_walks G m_9 m_10 hq83) rfl ⟨Nat.le_of_ble_eq_true rfl, Nat.le_of_ble_eq_true rfl⟩ ⟨Nat.le_of_ble_eq_true rfl, Nat.le_of_ble_eq_true rfl⟩ (Nat.le_of_ble_eq_true rfl) noT (kkU ?_)
    refine s_iload_n X 1 rfl dX12_lostBy_117 ?_
    exact s_iret X (Nat.le_of_ble_eq_true rfl) (Nat.le_of_ble_eq_true rfl) (by cases h; exact hO) dX12_lostBy_118
  have LP20 : ∀ (fu15 : Nat) (many_2 : Int) (a_2 : Int) (m_4 : Mem), iter (fun s => M_lostBy_b1 stop_ day_ s.1 s.2.1 s.2.2) fu15 (many_2, a_2, m_4) = some (many_6, a_4, m_8) → J SHM G rm_X12_lostBy (.inl O) C 0 0 20 [(4, VI a_2), (3, VI many_2), (0, VR 0), (1, VI stop_), (2, VI day_)] [] m_4 := by
    intro fu15
    induction fu15 with
    | zero => intro many_2 a_2 m_4 hn16; exact absurd hn16 (by simp [iter])
    | succ fu15 ih19 =>
      intro many_2 a_2 m_4 hn16
      obtain ⟨x17, h, hc18⟩ := iter_succ hn16
      replace h : M_lostBy_b1 stop_ day_ many_2 a_2 m_4 = some x17 := h
      unfold M_lostBy_b1 at h
      refine s_iload X 0 rfl dX12_lostBy_20 ?_
      refine s_load0 X 2 rfl dX12_lostBy_22 ?_
      refine s_getI X fk_X12_123 SHM_0 rfl dX12_lostBy_23 ?_
      refine s_icmpge_f (tgt := 108) X dX12_lostBy_26 (by omega) (fun c29 => ?_) (fun c30 => ?_)
      · replace h := ite_neg h c29
        exact KX21 _ (iter_exit h hc18)
      · replace h := ite_pos h c30
        refine s_const X (by unfold InR; omega) dX12_lostBy_29 ?_
        obtain ⟨b_, e32, h⟩ := ltv_elim h
        refine s_istore X e32 rfl (by omega) dX12_lostBy_30 ?_
        obtain ⟨many_5, b_6, m_7, hl42, h⟩ := bq3_some h
        obtain ⟨fu330, hl43⟩ := loop_iter hl42
        have KX39 : ∀ q9 : Int × Int × Mem, q9 = (many_5, b_6, m_7) → J SHM G rm_X12_lostBy (.inl O) C 0 0 102 [(5, VI q9.2.1), (4, VI a_2), (3, VI q9.1), (0, VR 0), (1, VI stop_), (2, VI day_)] [] (q9.2.2) := by
          intro q9 e9
          subst e9
          show J SHM G rm_X12_lostBy (.inl O) C 0 0 102 [(5, VI b_6), (4, VI a_2), (3, VI many_5), (0, VR 0), (1, VI stop_), (2, VI day_)] [] m_7
          obtain ⟨g78, h⟩ := grd_some h
          obtain ⟨a_3, e79, h⟩ := ltv_elim h
          refine s_iinc X 1 rfl g78 e79 rfl (by omega) dX12_lostBy_102 ?_
          refine s_goto (tgt := 20) X dX12_lostBy_105 (by omega) ?_
          refine s_loc [0, 2, 3, 4, 5] rfl ?_
          exact ih19 _ _ _ (iter_next h hc18)
        have LP38 : ∀ (fu33 : Nat) (many_3 : Int) (b_2 : Int) (m_5 : Mem), iter (fun s => M_lostBy_b2 stop_ day_ a_2 s.1 s.2.1 s.2.2) fu33 (many_3, b_2, m_5) = some (many_5, b_6, m_7) → J SHM G rm_X12_lostBy (.inl O) C 0 0 32 [(5, VI b_2), (4, VI a_2), (3, VI many_3), (0, VR 0), (1, VI stop_), (2, VI day_)] [] m_5 := by
          intro fu33
          induction fu33 with
          | zero => intro many_3 b_2 m_5 hn34; exact absurd hn34 (by simp [iter])
          | succ fu33 ih37 =>
            intro many_3 b_2 m_5 hn34
            obtain ⟨x35, h, hc36⟩ := iter_succ hn34
            replace h : M_lostBy_b2 stop_ day_ a_2 many_3 b_2 m_5 = some x35 := h
            unfold M_lostBy_b2 at h
            refine s_iload X 0 rfl dX12_lostBy_32 ?_
            refine s_load0 X 3 rfl dX12_lostBy_34 ?_
            refine s_getI X fk_X12_123 SHM_0 rfl dX12_lostBy_35 ?_
            refine s_icmpge_f (tgt := 102) X dX12_lostBy_38 (by omega) (fun c47 => ?_) (fun c48 => ?_)
            · replace h := ite_neg h c47
              exact KX39 _ (iter_exit h hc36)
            · replace h := ite_pos h c48
              obtain ⟨g49, h⟩ := grd_some h
              have kF51 : ¬ ((((¬ a_2 = b_2) ∧ (¬ a_2 = stop_)) ∧ (¬ b_2 = stop_)) ∧ (m_5 30 (12 * a_2 + b_2).toNat < 1000000)) → J SHM G rm_X12_lostBy (.inl O) C 0 0 96 [(5, VI b_2), (4, VI a_2), (3, VI many_3), (0, VR 0), (1, VI stop_), (2, VI day_)] [] m_5 := by
                intro c56
                replace h := ite_neg h c56
                obtain ⟨g54, h⟩ := grd_some h
                obtain ⟨b_3, e55, h⟩ := ltv_elim h
                refine s_iinc X 0 rfl g54 e55 rfl (by omega) dX12_lostBy_96 ?_
                refine s_goto (tgt := 32) X dX12_lostBy_99 (by omega) ?_
                exact ih37 _ _ _ (iter_next h hc36)
              refine s_iload X 1 rfl dX12_lostBy_41 ?_
              refine s_iload X 0 rfl dX12_lostBy_43 ?_
              refine s_icmpeq_f (tgt := 96) X dX12_lostBy_45 (by omega) (fun c52 => ?_) (fun c53 => ?_)
              · exact kF51 (fun q => (fun q => (fun q => c52 q.1) q.1) q.1)
              · have a57 : ¬ a_2 = b_2 := c53
                refine s_iload X 1 rfl dX12_lostBy_48 ?_
                refine s_iload_n X 4 rfl dX12_lostBy_50 ?_
                refine s_icmpeq_f (tgt := 96) X dX12_lostBy_51 (by omega) (fun c58 => ?_) (fun c59 => ?_)
                · exact kF51 (fun q => (fun q => (fun q => c58 q.2) q.1) q.1)
                · have a60 : (¬ a_2 = b_2) ∧ (¬ a_2 = stop_) := ⟨a57, c59⟩
                  refine s_iload X 0 rfl dX12_lostBy_54 ?_
                  refine s_iload_n X 4 rfl dX12_lostBy_56 ?_
                  refine s_icmpeq_f (tgt := 96) X dX12_lostBy_57 (by omega) (fun c61 => ?_) (fun c62 => ?_)
                  · exact kF51 (fun q => (fun q => c61 q.2) q.1)
                  · have a63 : ((¬ a_2 = b_2) ∧ (¬ a_2 = stop_)) ∧ (¬ b_2 = stop_) := ⟨a60, c62⟩
                    refine s_load0 X 3 rfl dX12_lostBy_60 ?_
                    refine s_getR (id := 30) X fk_X12_108 SHM_0 rfl dX12_lostBy_61 ?_
                    refine s_bipush X (by omega) dX12_lostBy_64 ?_
                    refine s_iload X 1 rfl dX12_lostBy_66 ?_
                    refine s_imul X (g49.1 a63) dX12_lostBy_68 ?_
                    refine s_iload X 0 rfl dX12_lostBy_69 ?_
                    refine s_iadd X (g49.2.1 a63) dX12_lostBy_71 ?_
                    refine s_iald X SHM_30 (g49.2.2.1 a63) (g49.2.2.2 a63) dX12_lostBy_72 ?_
                    refine s_ldc (z := 1000000) X (by unfold InR; omega) kc_X12_150 dX12_lostBy_73 ?_
                    refine s_icmpge_f (tgt := 96) X dX12_lostBy_75 (by omega) (fun c64 => ?_) (fun c65 => ?_)
                    · exact kF51 (fun q => c64 q.2)
                    · replace h := ite_pos h ⟨a63, c65⟩
                      refine s_load0 X 3 rfl dX12_lostBy_78 ?_
                      refine s_iload X 1 rfl dX12_lostBy_79 ?_
                      refine s_iload X 0 rfl dX12_lostBy_81 ?_
                      refine s_iload_n X 5 rfl dX12_lostBy_83 ?_
                      refine s_const X (by unfold InR; omega) dX12_lostBy_84 ?_
                      obtain ⟨r_, m_6, hq67, h⟩ := bq2_some h
                      refine s_callV (As := [VI a_2, VI b_2, VI day_, VI 0]) X cw_X12_243 SHM_0 rfl dX12_lostBy_85 (L_M_earliestOf G a_2 b_2 day_ 0 m_5 (r_, m_6) hq67) rfl ⟨Nat.le_of_ble_eq_true rfl, Nat.le_of_ble_eq_true rfl⟩ ⟨Nat.le_of_ble_eq_true rfl, Nat.le_of_ble_eq_true rfl⟩ (Nat.le_of_ble_eq_true rfl) noT (kkR ?_)
                      refine s_ldc (z := 1000000) X (by unfold InR; omega) kc_X12_150 dX12_lostBy_88 ?_
                      refine s_icmplt_f (tgt := 96) X dX12_lostBy_90 (by omega) (fun c70 => ?_) (fun c71 => ?_)
                      · replace h := ite_neg h c70
                        obtain ⟨g72, h⟩ := grd_some h
                        obtain ⟨b_4, e73, h⟩ := ltv_elim h
                        refine s_iinc X 0 rfl g72 e73 rfl (by omega) dX12_lostBy_96 ?_
                        refine s_goto (tgt := 32) X dX12_lostBy_99 (by omega) ?_
                        exact ih37 _ _ _ (iter_next h hc36)
                      · replace h := ite_pos h c71
                        obtain ⟨g74, h⟩ := grd_some h
                        obtain ⟨many_4, e75, h⟩ := ltv_elim h
                        refine s_iinc X 2 rfl g74 e75 rfl (by omega) dX12_lostBy_93 ?_
                        obtain ⟨g76, h⟩ := grd_some h
                        obtain ⟨b_5, e77, h⟩ := ltv_elim h
                        refine s_iinc X 1 rfl g76 e77 rfl (by omega) dX12_lostBy_96 ?_
                        refine s_goto (tgt := 32) X dX12_lostBy_99 (by omega) ?_
                        refine s_loc [0, 2, 1, 3, 4, 5] rfl ?_
                        exact ih37 _ _ _ (iter_next h hc36)
        exact LP38 _ _ _ _ hl43
  exact LP20 _ _ _ _ hl25
