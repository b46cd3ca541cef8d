/-! ===== printed by a program out of the Java source and the decode rows: 34d.LM ===== -/
set_option maxRecDepth 20000 in
set_option maxHeartbeats 4000000 in
theorem L_M_getsOnBy (G : Gl) (round_ : Int) (stop_ : Int) (time_ : Int) (m : Mem) (r : Int)  (h : M_getsOnBy round_ stop_ time_ m = some r) : Con SHM G yX12_getsOnBy cX12_getsOnBy 4 (some .boolean) rm_X12_getsOnBy [VR 0, VI round_, VI stop_, VI time_] m (((.inl (some (VI r)), m) : Res × Mem)) := by
  refine con_of (own := "LastbusModel") (by decide) rfl (Nat.le_of_ble_eq_true rfl) (fun C X => ?_)
  obtain ⟨O, hO⟩ : ∃ O : Res × Mem, O = (((.inl (some (VI r)), m) : Res × Mem)) := ⟨_, rfl⟩
  rw [← hO]
  show J SHM G rm_X12_getsOnBy (.inl O) C 0 0 0 [(0, VR 0), (1, VI round_), (2, VI stop_), (3, VI time_)] [] m
  unfold M_getsOnBy at h
  obtain ⟨g1, h⟩ := grd_some h
  have kM2 : J SHM G rm_X12_getsOnBy (.inl O) C 0 0 46 [(0, VR 0), (1, VI round_), (2, VI stop_), (3, VI time_)] [VI (if (0 ≤ time_) ∧ ((m 17 (12 * round_ + stop_).toNat ≤ time_) ∨ (m 18 (12 * round_ + stop_).toNat + m 1 stop_.toNat ≤ time_)) then 1 else 0)] m := by
    exact s_zret X okT_ite (Nat.le_of_ble_eq_true rfl) (Nat.le_of_ble_eq_true rfl) (by cases h; exact hO) dX12_getsOnBy_46
  refine s_iload_n X 3 rfl dX12_getsOnBy_0 ?_
  refine s_iflt_f (tgt := 45) X dX12_getsOnBy_1 (by omega) (fun c3 => ?_) (fun c4 => ?_)
  · refine s_const X (by unfold InR; omega) dX12_getsOnBy_45 ?_
    exact s_eqt (if_neg (fun q => c3 q.1)) kM2
  · have a5 : 0 ≤ time_ := c4
    refine s_load0 X 0 rfl dX12_getsOnBy_4 ?_
    refine s_getR (id := 17) X fk_X12_66 SHM_0 rfl dX12_getsOnBy_5 ?_
    refine s_bipush X (by omega) dX12_getsOnBy_8 ?_
    refine s_iload_n X 1 rfl dX12_getsOnBy_10 ?_
    refine s_imul X (g1.1 a5) dX12_getsOnBy_11 ?_
    refine s_iload_n X 2 rfl dX12_getsOnBy_12 ?_
    refine s_iadd X (g1.2.1 a5) dX12_getsOnBy_13 ?_
    refine s_iald X SHM_17 (g1.2.2.1 a5) (g1.2.2.2.1 a5) dX12_getsOnBy_14 ?_
    refine s_iload_n X 3 rfl dX12_getsOnBy_15 ?_
    refine s_icmple_t (tgt := 41) X dX12_getsOnBy_16 (by omega) (fun c6 => ?_) (fun c7 => ?_)
    · refine s_const X (by unfold InR; omega) dX12_getsOnBy_41 ?_
      refine s_goto (tgt := 46) X dX12_getsOnBy_42 (by omega) ?_
      exact s_eqt (if_pos ⟨a5, (Or.inl c6)⟩) kM2
    · have a8 : ¬ (m 17 (12 * round_ + stop_).toNat ≤ time_) := c7
      refine s_load0 X 0 rfl dX12_getsOnBy_19 ?_
      refine s_getR (id := 18) X fk_X12_69 SHM_0 rfl dX12_getsOnBy_20 ?_
      refine s_bipush X (by omega) dX12_getsOnBy_23 ?_
      refine s_iload_n X 1 rfl dX12_getsOnBy_25 ?_
      refine s_imul X (g1.2.2.2.2.1 a5 a8) dX12_getsOnBy_26 ?_
      refine s_iload_n X 2 rfl dX12_getsOnBy_27 ?_
      refine s_iadd X (g1.2.2.2.2.2.1 a5 a8) dX12_getsOnBy_28 ?_
      refine s_iald X SHM_18 (g1.2.2.2.2.2.2.1 a5 a8) (g1.2.2.2.2.2.2.2.1 a5 a8) dX12_getsOnBy_29 ?_
      refine s_load0 X 0 rfl dX12_getsOnBy_30 ?_
      refine s_getR (id := 1) X fk_X12_9 SHM_0 rfl dX12_getsOnBy_31 ?_
      refine s_iload_n X 2 rfl dX12_getsOnBy_34 ?_
      refine s_iald X SHM_1 (g1.2.2.2.2.2.2.2.2.1 a5 a8) (g1.2.2.2.2.2.2.2.2.2.1 a5 a8) dX12_getsOnBy_35 ?_
      refine s_iadd X (g1.2.2.2.2.2.2.2.2.2.2 a5 a8) dX12_getsOnBy_36 ?_
      refine s_iload_n X 3 rfl dX12_getsOnBy_37 ?_
      refine s_icmpgt_f (tgt := 45) X dX12_getsOnBy_38 (by omega) (fun c9 => ?_) (fun c10 => ?_)
      · refine s_const X (by unfold InR; omega) dX12_getsOnBy_45 ?_
        exact s_eqt (if_neg (fun q => (fun q => q.elim a8 c9) q.2)) kM2
      · refine s_const X (by unfold InR; omega) dX12_getsOnBy_41 ?_
        refine s_goto (tgt := 46) X dX12_getsOnBy_42 (by omega) ?_
        exact s_eqt (if_pos ⟨a5, (Or.inr c10)⟩) kM2
set_option maxRecDepth 20000 in
set_option maxHeartbeats 4000000 in
theorem L_M_tellRounds (G : Gl) (from_ : Int) (day_ : Int) (minute_ : Int) (m : Mem) (r : Mem)  (h : M_tellRounds from_ day_ minute_ m = some r) : Con SHM G yX12_tellRounds cX12_tellRounds 7 none rm_X12_tellRounds [VR 0, VI from_, VI day_, VI minute_] m (((.inl none, r) : Res × Mem)) := by
  refine con_of (own := "LastbusModel") (by decide) rfl (Nat.le_of_ble_eq_true rfl) (fun C X => ?_)
  obtain ⟨O, hO⟩ : ∃ O : Res × Mem, O = (((.inl none, r) : Res × Mem)) := ⟨_, rfl⟩
  rw [← hO]
  show J SHM G rm_X12_tellRounds (.inl O) C 0 0 0 [(0, VR 0), (1, VI from_), (2, VI day_), (3, VI minute_)] [] m
  unfold M_tellRounds at h
  refine s_load0 X 0 rfl dX12_tellRounds_0 ?_
  refine s_iload_n X 2 rfl dX12_tellRounds_1 ?_
  obtain ⟨m_, e2, h⟩ := ltv_elim h
  refine s_putI X e2 fp_X12_198 SHM_0 rfl trivial dX12_tellRounds_2 ?_
  refine s_load0 X 0 rfl dX12_tellRounds_5 ?_
  refine s_iload_n X 1 rfl dX12_tellRounds_6 ?_
  refine s_iload_n X 3 rfl dX12_tellRounds_7 ?_
  obtain ⟨m_2, hq4, h⟩ := bnd_some h
  refine s_callV (As := [VI from_, VI minute_]) X cw_X12_229 SHM_0 rfl dX12_tellRounds_8 (L_M_begin G from_ minute_ m_ m_2 hq4) rfl ⟨Nat.le_of_ble_eq_true rfl, Nat.le_of_ble_eq_true rfl⟩ ⟨Nat.le_of_ble_eq_true rfl, Nat.le_of_ble_eq_true rfl⟩ (Nat.le_of_ble_eq_true rfl) noT (kkU ?_)
  refine s_load0 X 0 rfl dX12_tellRounds_11 ?_
  refine s_const X (by unfold InR; omega) dX12_tellRounds_12 ?_
  obtain ⟨m_3, e8, h⟩ := ltv_elim h
  refine s_putI X e8 fp_X12_250 SHM_0 rfl trivial dX12_tellRounds_13 ?_
  refine s_load0 X 0 rfl dX12_tellRounds_16 ?_
  obtain ⟨m_4, hq10, h⟩ := bnd_some h
  refine s_callV (As := []) X cw_X12_253 SHM_0 rfl dX12_tellRounds_17 (L_M_keepRound G m_3 m_4 hq10) rfl ⟨Nat.le_of_ble_eq_true rfl, Nat.le_of_ble_eq_true rfl⟩ ⟨Nat.le_of_ble_eq_true rfl, Nat.le_of_ble_eq_true rfl⟩ (Nat.le_of_ble_eq_true rfl) noT (kkU ?_)
  refine s_load0 X 0 rfl dX12_tellRounds_20 ?_
  refine s_const X (by unfold InR; omega) dX12_tellRounds_21 ?_
  obtain ⟨m_5, e14, h⟩ := ltv_elim h
  refine s_putI X e14 fp_X12_204 SHM_0 rfl (Or.inr rfl) dX12_tellRounds_22 ?_
  obtain ⟨m_15, hl24, h⟩ := bq1_some h
  obtain ⟨fu150, hl25⟩ := loop_iter hl24
  have KX21 : ∀ q9 : Mem, q9 = m_15 → J SHM G rm_X12_tellRounds (.inl O) C 0 0 171 [(0, VR 0), (1, VI from_), (2, VI day_), (3, VI minute_)] [] q9 := by
    intro q9 e9
    rw [e9]
    show J SHM G rm_X12_tellRounds (.inl O) C 0 0 171 [(0, VR 0), (1, VI from_), (2, VI day_), (3, VI minute_)] [] m_15
    exact s_vret X (Nat.le_of_ble_eq_true rfl) (Nat.le_of_ble_eq_true rfl) (by cases h; exact hO) dX12_tellRounds_171
  have LP20 : ∀ (fu15 : Nat) (m_6 : Mem), iter (fun s => M_tellRounds_b1 s) fu15 m_6 = some m_15 → J SHM G rm_X12_tellRounds (.inl O) C 0 0 25 [(0, VR 0), (1, VI from_), (2, VI day_), (3, VI minute_)] [] m_6 := by
    intro fu15
    induction fu15 with
    | zero => intro m_6 hn16; exact absurd hn16 (by simp [iter])
    | succ fu15 ih19 =>
      intro m_6 hn16
      obtain ⟨x17, h, hc18⟩ := iter_succ hn16
      replace h : M_tellRounds_b1 m_6 = some x17 := h
      unfold M_tellRounds_b1 at h
      have kF28 : ¬ ((¬ m_6 0 25 = 0) ∧ (m_6 0 28 < 74)) → J SHM G rm_X12_tellRounds (.inl O) C 0 0 171 [(0, VR 0), (1, VI from_), (2, VI day_), (3, VI minute_)] [] m_6 := by
        intro c31
        replace h := ite_neg h c31
        exact KX21 _ (iter_exit h hc18)
      refine s_load0 X 0 rfl dX12_tellRounds_25 ?_
      refine s_getI X fk_X12_204 SHM_0 rfl dX12_tellRounds_26 ?_
      refine s_ifeq_f (tgt := 171) X dX12_tellRounds_29 (by omega) (fun c29 => ?_) (fun c30 => ?_)
      · exact kF28 (fun q => c29 q.1)
      · have a32 : ¬ m_6 0 25 = 0 := c30
        refine s_load0 X 0 rfl dX12_tellRounds_32 ?_
        refine s_getI X fk_X12_250 SHM_0 rfl dX12_tellRounds_33 ?_
        refine s_bipush X (by omega) dX12_tellRounds_36 ?_
        refine s_icmpge_f (tgt := 171) X dX12_tellRounds_38 (by omega) (fun c33 => ?_) (fun c34 => ?_)
        · exact kF28 (fun q => c33 q.2)
        · replace h := ite_pos h ⟨a32, c34⟩
          refine s_load0 X 0 rfl dX12_tellRounds_41 ?_
          refine s_const X (by unfold InR; omega) dX12_tellRounds_42 ?_
          obtain ⟨m_7, e36, h⟩ := ltv_elim h
          refine s_putI X e36 fp_X12_204 SHM_0 rfl (Or.inl rfl) dX12_tellRounds_43 ?_
          refine s_const X (by unfold InR; omega) dX12_tellRounds_46 ?_
          obtain ⟨run_, e38, h⟩ := ltv_elim h
          refine s_istore X e38 rfl (by omega) dX12_tellRounds_47 ?_
          obtain ⟨run_4, m_13, hl48, h⟩ := bq2_some h
          obtain ⟨fu390, hl49⟩ := loop_iter hl48
          have KX45 : ∀ q9 : Int × Mem, q9 = (run_4, m_13) → J SHM G rm_X12_tellRounds (.inl O) C 0 0 164 [(4, VI q9.1), (0, VR 0), (1, VI from_), (2, VI day_), (3, VI minute_)] [] (q9.2) := by
            intro q9 e9
            subst e9
            show J SHM G rm_X12_tellRounds (.inl O) C 0 0 164 [(4, VI run_4), (0, VR 0), (1, VI from_), (2, VI day_), (3, VI minute_)] [] m_13
            refine s_load0 X 1 rfl dX12_tellRounds_164 ?_
            obtain ⟨m_14, hq127, h⟩ := bnd_some h
            refine s_callV (As := []) X cw_X12_253 SHM_0 rfl dX12_tellRounds_165 (L_M_keepRound G m_13 m_14 hq127) rfl ⟨Nat.le_of_ble_eq_true rfl, Nat.le_of_ble_eq_true rfl⟩ ⟨Nat.le_of_ble_eq_true rfl, Nat.le_of_ble_eq_true rfl⟩ (Nat.le_of_ble_eq_true rfl) noT (kkU ?_)
            refine s_goto (tgt := 25) X dX12_tellRounds_168 (by omega) ?_
            refine s_loc [1, 2, 3, 4] rfl ?_
            exact ih19 _ (iter_next h hc18)
          have LP44 : ∀ (fu39 : Nat) (run_2 : Int) (m_8 : Mem), iter (fun s => M_tellRounds_b2 s.1 s.2) fu39 (run_2, m_8) = some (run_4, m_13) → J SHM G rm_X12_tellRounds (.inl O) C 0 0 49 [(4, VI run_2), (0, VR 0), (1, VI from_), (2, VI day_), (3, VI minute_)] [] m_8 := by
            intro fu39
            induction fu39 with
            | zero => intro run_2 m_8 hn40; exact absurd hn40 (by simp [iter])
            | succ fu39 ih43 =>
              intro run_2 m_8 hn40
              obtain ⟨x41, h, hc42⟩ := iter_succ hn40
              replace h : M_tellRounds_b2 run_2 m_8 = some x41 := h
              unfold M_tellRounds_b2 at h
              refine s_iload X 0 rfl dX12_tellRounds_49 ?_
              refine s_bipush X (by omega) dX12_tellRounds_51 ?_
              refine s_icmpge_f (tgt := 164) X dX12_tellRounds_53 (by omega) (fun c53 => ?_) (fun c54 => ?_)
              · replace h := ite_neg h c53
                exact KX45 _ (iter_exit h hc42)
              · replace h := ite_pos h c54
                refine s_const X (by unfold InR; omega) dX12_tellRounds_56 ?_
                obtain ⟨isOn_, e56, h⟩ := ltv_elim h
                refine s_istore X e56 rfl (by omega) dX12_tellRounds_57 ?_
                refine s_const X (by unfold InR; omega) dX12_tellRounds_59 ?_
                obtain ⟨c_, e58, h⟩ := ltv_elim h
                refine s_istore X e58 rfl (by omega) dX12_tellRounds_60 ?_
                obtain ⟨isOn_4, c_4, m_12, hl68, h⟩ := bq3_some h
                obtain ⟨fu590, hl69⟩ := loop_iter hl68
                have KX65 : ∀ q9 : Int × Int × Mem, q9 = (isOn_4, c_4, m_12) → J SHM G rm_X12_tellRounds (.inl O) C 0 0 158 [(6, VI q9.2.1), (5, VI q9.1), (4, VI run_2), (0, VR 0), (1, VI from_), (2, VI day_), (3, VI minute_)] [] (q9.2.2) := by
                  intro q9 e9
                  subst e9
                  show J SHM G rm_X12_tellRounds (.inl O) C 0 0 158 [(6, VI c_4), (5, VI isOn_4), (4, VI run_2), (0, VR 0), (1, VI from_), (2, VI day_), (3, VI minute_)] [] m_12
                  obtain ⟨g124, h⟩ := grd_some h
                  obtain ⟨run_3, e125, h⟩ := ltv_elim h
                  refine s_iinc X 2 rfl g124 e125 rfl (by omega) dX12_tellRounds_158 ?_
                  refine s_goto (tgt := 49) X dX12_tellRounds_161 (by omega) ?_
                  refine s_loc [0, 3, 4, 5, 6] rfl ?_
                  exact ih43 _ _ (iter_next h hc42)
                have LP64 : ∀ (fu59 : Nat) (isOn_2 : Int) (c_2 : Int) (m_9 : Mem), iter (fun s => M_tellRounds_b3 run_2 s.1 s.2.1 s.2.2) fu59 (isOn_2, c_2, m_9) = some (isOn_4, c_4, m_12) → J SHM G rm_X12_tellRounds (.inl O) C 0 0 62 [(6, VI c_2), (5, VI isOn_2), (4, VI run_2), (0, VR 0), (1, VI from_), (2, VI day_), (3, VI minute_)] [] m_9 := by
                  intro fu59
                  induction fu59 with
                  | zero => intro isOn_2 c_2 m_9 hn60; exact absurd hn60 (by simp [iter])
                  | succ fu59 ih63 =>
                    intro isOn_2 c_2 m_9 hn60
                    obtain ⟨x61, h, hc62⟩ := iter_succ hn60
                    replace h : M_tellRounds_b3 run_2 isOn_2 c_2 m_9 = some x61 := h
                    unfold M_tellRounds_b3 at h
                    refine s_load0 X 3 rfl dX12_tellRounds_62 ?_
                    refine s_iload X 2 rfl dX12_tellRounds_63 ?_
                    obtain ⟨r_, hq71, h⟩ := bnd_some h
                    refine s_callV (As := [VI run_2]) X cw_X12_208 SHM_0 rfl dX12_tellRounds_65 (L_M_isRun G run_2 m_9 r_ hq71) rfl ⟨Nat.le_of_ble_eq_true rfl, Nat.le_of_ble_eq_true rfl⟩ ⟨Nat.le_of_ble_eq_true rfl, Nat.le_of_ble_eq_true rfl⟩ (Nat.le_of_ble_eq_true rfl) noT (kkR ?_)
                    refine s_ifeq_f (tgt := 158) X dX12_tellRounds_68 (by omega) (fun c74 => ?_) (fun c75 => ?_)
                    · replace h := ite_neg h c74
                      exact KX65 _ (iter_exit h hc62)
                    · replace h := ite_pos h c75
                      obtain ⟨g76, h⟩ := grd_some h
                      refine s_iload X 0 rfl dX12_tellRounds_71 ?_
                      refine s_load0 X 3 rfl dX12_tellRounds_73 ?_
                      refine s_getR (id := 6) X fk_X12_30 SHM_0 rfl dX12_tellRounds_74 ?_
                      refine s_iload X 2 rfl dX12_tellRounds_77 ?_
                      refine s_bipush X (by omega) dX12_tellRounds_79 ?_
                      refine s_irem X (by omega) dX12_tellRounds_81 ?_
                      refine s_iald X SHM_6 g76.1 g76.2 dX12_tellRounds_82 ?_
                      refine s_icmpge_f (tgt := 158) X dX12_tellRounds_83 (by omega) (fun c79 => ?_) (fun c80 => ?_)
                      · replace h := ite_neg h c79
                        exact KX65 _ (iter_exit h hc62)
                      · replace h := ite_pos h c80
                        obtain ⟨kj_, hk81, h⟩ := ltv_elim h
                        have K82 : ∀ (m_10 : Mem), kj_ m_10 = some x61 → J SHM G rm_X12_tellRounds (.inl O) C 0 0 111 [(6, VI c_2), (5, VI isOn_2), (4, VI run_2), (0, VR 0), (1, VI from_), (2, VI day_), (3, VI minute_)] [] m_10 := by
                          intro m_10 h
                          subst hk81
                          dsimp only at h
                          obtain ⟨kj_2, hk99, h⟩ := ltv_elim h
                          have K100 : ∀ (v_ : Int), kj_2 v_ = some x61 → J SHM G rm_X12_tellRounds (.inl O) C 0 0 150 [(6, VI c_2), (5, VI isOn_2), (4, VI run_2), (0, VR 0), (1, VI from_), (2, VI day_), (3, VI minute_)] [VI v_] m_10 := by
                            intro v_ h
                            subst hk99
                            dsimp only at h
                            obtain ⟨isOn_3, e121, h⟩ := ltv_elim h
                            refine s_istore X e121 rfl (by omega) dX12_tellRounds_150 ?_
                            obtain ⟨g122, h⟩ := grd_some h
                            obtain ⟨c_3, e123, h⟩ := ltv_elim h
                            refine s_iinc X 1 rfl g122 e123 rfl (by omega) dX12_tellRounds_152 ?_
                            refine s_goto (tgt := 62) X dX12_tellRounds_155 (by omega) ?_
                            exact ih63 _ _ _ (iter_next h hc62)
                          refine s_iload X 1 rfl dX12_tellRounds_111 ?_
                          refine s_ifne_t (tgt := 145) X dX12_tellRounds_113 (by omega) (fun c103 => ?_) (fun c104 => ?_)
                          · replace h := ite_pos h c103
                            refine s_const X (by unfold InR; omega) dX12_tellRounds_145 ?_
                            refine s_goto (tgt := 150) X dX12_tellRounds_146 (by omega) ?_
                            exact s_kn rfl rfl (K100 _ h)
                          · replace h := ite_neg h c104
                            obtain ⟨g106, h⟩ := grd_some h
                            refine s_load0 X 3 rfl dX12_tellRounds_116 ?_
                            refine s_load0 X 3 rfl dX12_tellRounds_117 ?_
                            refine s_getI X fk_X12_250 SHM_0 rfl dX12_tellRounds_118 ?_
                            refine s_const X (by unfold InR; omega) dX12_tellRounds_121 ?_
                            refine s_isub X g106 dX12_tellRounds_122 ?_
                            refine s_load0 X 3 rfl dX12_tellRounds_123 ?_
                            refine s_iload X 2 rfl dX12_tellRounds_124 ?_
                            refine s_iload X 0 rfl dX12_tellRounds_126 ?_
                            obtain ⟨r_4, hq107, h⟩ := bnd_some h
                            refine s_callV (As := [VI run_2, VI c_2]) X cw_X12_214 SHM_0 rfl dX12_tellRounds_128 (L_M_stopIn G run_2 c_2 m_10 r_4 hq107) rfl ⟨Nat.le_of_ble_eq_true rfl, Nat.le_of_ble_eq_true rfl⟩ ⟨Nat.le_of_ble_eq_true rfl, Nat.le_of_ble_eq_true rfl⟩ (Nat.le_of_ble_eq_true rfl) noT (kkR ?_)
                            refine s_load0 X 3 rfl dX12_tellRounds_131 ?_
                            refine s_iload X 2 rfl dX12_tellRounds_132 ?_
                            refine s_iload X 0 rfl dX12_tellRounds_134 ?_
                            obtain ⟨r_5, hq110, h⟩ := bnd_some h
                            refine s_callV (As := [VI run_2, VI c_2]) X cw_X12_223 SHM_0 rfl dX12_tellRounds_136 (L_M_leavesAt G run_2 c_2 m_10 r_5 hq110) rfl ⟨Nat.le_of_ble_eq_true rfl, Nat.le_of_ble_eq_true rfl⟩ ⟨Nat.le_of_ble_eq_true rfl, Nat.le_of_ble_eq_true rfl⟩ (Nat.le_of_ble_eq_true rfl) noT (kkR ?_)
                            obtain ⟨r_6, hq113, h⟩ := bnd_some h
                            refine s_callV (As := [VI (m_10 0 28 - 1), VI r_4, VI r_5]) X cw_X12_256 SHM_0 rfl dX12_tellRounds_139 (L_M_getsOnBy G (m_10 0 28 - 1) r_4 r_5 m_10 r_6 hq113) rfl ⟨Nat.le_of_ble_eq_true rfl, Nat.le_of_ble_eq_true rfl⟩ ⟨Nat.le_of_ble_eq_true rfl, Nat.le_of_ble_eq_true rfl⟩ (Nat.le_of_ble_eq_true rfl) noT (kkR ?_)
                            refine s_ifeq_f (tgt := 149) X dX12_tellRounds_142 (by omega) (fun c116 => ?_) (fun c117 => ?_)
                            · replace h := ite_neg h c116
                              refine s_const X (by unfold InR; omega) dX12_tellRounds_149 ?_
                              exact s_kn rfl rfl (K100 _ h)
                            · replace h := ite_pos h c117
                              refine s_const X (by unfold InR; omega) dX12_tellRounds_145 ?_
                              refine s_goto (tgt := 150) X dX12_tellRounds_146 (by omega) ?_
                              exact s_kn rfl rfl (K100 _ h)
                        refine s_iload X 1 rfl dX12_tellRounds_86 ?_
                        refine s_ifeq_f (tgt := 111) X dX12_tellRounds_88 (by omega) (fun c86 => ?_) (fun c87 => ?_)
                        · replace h := ite_neg h c86
                          exact s_kn rfl rfl (K82 _ h)
                        · replace h := ite_pos h c87
                          refine s_load0 X 3 rfl dX12_tellRounds_91 ?_
                          refine s_load0 X 3 rfl dX12_tellRounds_92 ?_
                          refine s_iload X 2 rfl dX12_tellRounds_93 ?_
                          refine s_iload X 0 rfl dX12_tellRounds_95 ?_
                          obtain ⟨r_2, hq89, h⟩ := bnd_some h
                          refine s_callV (As := [VI run_2, VI c_2]) X cw_X12_214 SHM_0 rfl dX12_tellRounds_97 (L_M_stopIn G run_2 c_2 m_9 r_2 hq89) rfl ⟨Nat.le_of_ble_eq_true rfl, Nat.le_of_ble_eq_true rfl⟩ ⟨Nat.le_of_ble_eq_true rfl, Nat.le_of_ble_eq_true rfl⟩ (Nat.le_of_ble_eq_true rfl) noT (kkR ?_)
                          refine s_load0 X 3 rfl dX12_tellRounds_100 ?_
                          refine s_iload X 2 rfl dX12_tellRounds_101 ?_
                          refine s_iload X 0 rfl dX12_tellRounds_103 ?_
                          obtain ⟨r_3, hq92, h⟩ := bnd_some h
                          refine s_callV (As := [VI run_2, VI c_2]) X cw_X12_217 SHM_0 rfl dX12_tellRounds_105 (L_M_comesAt G run_2 c_2 m_9 r_3 hq92) rfl ⟨Nat.le_of_ble_eq_true rfl, Nat.le_of_ble_eq_true rfl⟩ ⟨Nat.le_of_ble_eq_true rfl, Nat.le_of_ble_eq_true rfl⟩ (Nat.le_of_ble_eq_true rfl) noT (kkR ?_)
                          obtain ⟨m_11, hq95, h⟩ := bnd_some h
                          refine s_callV (As := [VI r_2, VI r_3]) X cw_X12_220 SHM_0 rfl dX12_tellRounds_108 (L_M_getsOff G r_2 r_3 m_9 m_11 hq95) rfl ⟨Nat.le_of_ble_eq_true rfl, Nat.le_of_ble_eq_true rfl⟩ ⟨Nat.le_of_ble_eq_true rfl, Nat.le_of_ble_eq_true rfl⟩ (Nat.le_of_ble_eq_true rfl) noT (kkU ?_)
                          exact s_kn rfl rfl (K82 _ h)
                exact LP64 _ _ _ _ hl69
          exact LP44 _ _ _ hl49
  exact LP20 _ _ hl25
set_option maxRecDepth 20000 in
set_option maxHeartbeats 4000000 in
theorem L_M_atBy (G : Gl) (round_ : Int) (stop_ : Int) (m : Mem) (r : Int)  (h : M_atBy round_ stop_ m = some r) : Con SHM G yX12_atBy cX12_atBy 5 (some .int) rm_X12_atBy [VR 0, VI round_, VI stop_] m (((.inl (some (VI r)), m) : Res × Mem)) := by
  refine con_of (own := "LastbusModel") (by decide) rfl (Nat.le_of_ble_eq_true rfl) (fun C X => ?_)
  obtain ⟨O, hO⟩ : ∃ O : Res × Mem, O = (((.inl (some (VI r)), m) : Res × Mem)) := ⟨_, rfl⟩
  rw [← hO]
  show J SHM G rm_X12_atBy (.inl O) C 0 0 0 [(0, VR 0), (1, VI round_), (2, VI stop_)] [] m
  unfold M_atBy at h
  obtain ⟨g1, h⟩ := grd_some h
  refine s_load0 X 0 rfl dX12_atBy_0 ?_
  refine s_getR (id := 17) X fk_X12_66 SHM_0 rfl dX12_atBy_1 ?_
  refine s_bipush X (by omega) dX12_atBy_4 ?_
  refine s_iload_n X 1 rfl dX12_atBy_6 ?_
  refine s_imul X g1.1 dX12_atBy_7 ?_
  refine s_iload_n X 2 rfl dX12_atBy_8 ?_
  refine s_iadd X g1.2.1 dX12_atBy_9 ?_
  refine s_iald X SHM_17 g1.2.2.1 g1.2.2.2 dX12_atBy_10 ?_
  obtain ⟨one_, e2, h⟩ := ltv_elim h
  refine s_istore_n X e2 rfl (by omega) dX12_atBy_11 ?_
  refine s_load0 X 1 rfl dX12_atBy_12 ?_
  refine s_getR (id := 18) X fk_X12_69 SHM_0 rfl dX12_atBy_13 ?_
  refine s_bipush X (by omega) dX12_atBy_16 ?_
  refine s_iload_n X 2 rfl dX12_atBy_18 ?_
  refine s_imul X g1.1 dX12_atBy_19 ?_
  refine s_iload_n X 3 rfl dX12_atBy_20 ?_
  refine s_iadd X g1.2.1 dX12_atBy_21 ?_
  refine s_iald X SHM_18 g1.2.2.1 g1.2.2.2 dX12_atBy_22 ?_
  obtain ⟨other_, e4, h⟩ := ltv_elim h
  refine s_istore X e4 rfl (by omega) dX12_atBy_23 ?_
  have kM6 : J SHM G rm_X12_atBy (.inl O) C 0 0 37 [(4, VI other_), (3, VI one_), (0, VR 0), (1, VI round_), (2, VI stop_)] [VI (if one_ < other_ then one_ else other_)] m := by
    exact s_iret X (Nat.le_of_ble_eq_true rfl) (Nat.le_of_ble_eq_true rfl) (by cases h; exact hO) dX12_atBy_37
  refine s_iload_n X 1 rfl dX12_atBy_25 ?_
  refine s_iload X 0 rfl dX12_atBy_26 ?_
  refine s_icmpge_f (tgt := 35) X dX12_atBy_28 (by omega) (fun c7 => ?_) (fun c8 => ?_)
  · refine s_iload X 0 rfl dX12_atBy_35 ?_
    exact s_eqt (if_neg c7) kM6
  · refine s_iload_n X 1 rfl dX12_atBy_31 ?_
    refine s_goto (tgt := 37) X dX12_atBy_32 (by omega) ?_
    exact s_eqt (if_pos c8) kM6
set_option maxRecDepth 20000 in
set_option maxHeartbeats 4000000 in
theorem L_M_choicesOf (G : Gl) (to_ : Int) (index_ : Int) (m : Mem) (r : (Int × Mem))  (h : M_choicesOf to_ index_ m = some r) : Con SHM G yX12_choicesOf cX12_choicesOf 7 (some .int) rm_X12_choicesOf [VR 0, VI to_, VI index_] m (((.inl (some (VI r.1)), r.2) : Res × Mem)) := by
  refine con_of (own := "LastbusModel") (by decide) rfl (Nat.le_of_ble_eq_true rfl) (fun C X => ?_)
  obtain ⟨O, hO⟩ : ∃ O : Res × Mem, O = (((.inl (some (VI r.1)), r.2) : Res × Mem)) := ⟨_, rfl⟩
  rw [← hO]
  show J SHM G rm_X12_choicesOf (.inl O) C 0 0 0 [(0, VR 0), (1, VI to_), (2, VI index_)] [] m
  unfold M_choicesOf at h
  refine s_const X (by unfold InR; omega) dX12_choicesOf_0 ?_
  obtain ⟨many_, e2, h⟩ := ltv_elim h
  refine s_istore_n X e2 rfl (by omega) dX12_choicesOf_1 ?_
  refine s_ldc (z := 1000000) X (by unfold InR; omega) kc_X12_150 dX12_choicesOf_2 ?_
  obtain ⟨best_, e4, h⟩ := ltv_elim h
  refine s_istore X e4 rfl (by omega) dX12_choicesOf_4 ?_
  refine s_const X (by unfold InR; omega) dX12_choicesOf_6 ?_
  obtain ⟨k_, e6, h⟩ := ltv_elim h
  refine s_istore X e6 rfl (by omega) dX12_choicesOf_7 ?_
  obtain ⟨many_4, best_4, k_5, m_5, hl16, h⟩ := bq4_some h
  obtain ⟨fu70, hl17⟩ := loop_iter hl16
  have KX13 : ∀ q9 : Int × Int × Int × Mem, q9 = (many_4, best_4, k_5, m_5) → J SHM G rm_X12_choicesOf (.inl O) C 0 0 64 [(5, VI q9.2.2.1), (4, VI q9.2.1), (3, VI q9.1), (0, VR 0), (1, VI to_), (2, VI index_)] [] (q9.2.2.2) := by
    intro q9 e9
    subst e9
    show J SHM G rm_X12_choicesOf (.inl O) C 0 0 64 [(5, VI k_5), (4, VI best_4), (3, VI many_4), (0, VR 0), (1, VI to_), (2, VI index_)] [] m_5
    refine s_iload_n X 2 rfl dX12_choicesOf_64 ?_
    exact s_iret X (Nat.le_of_ble_eq_true rfl) (Nat.le_of_ble_eq_true rfl) (by cases h; exact hO) dX12_choicesOf_65
  have LP12 : ∀ (fu7 : Nat) (many_2 : Int) (best_2 : Int) (k_2 : Int) (m_ : Mem), iter (fun s => M_choicesOf_b1 to_ index_ s.1 s.2.1 s.2.2.1 s.2.2.2) fu7 (many_2, best_2, k_2, m_) = some (many_4, best_4, k_5, m_5) → J SHM G rm_X12_choicesOf (.inl O) C 0 0 9 [(5, VI k_2), (4, VI best_2), (3, VI many_2), (0, VR 0), (1, VI to_), (2, VI index_)] [] m_ := by
    intro fu7
    induction fu7 with
    | zero => intro many_2 best_2 k_2 m_ hn8; exact absurd hn8 (by simp [iter])
    | succ fu7 ih11 =>
      intro many_2 best_2 k_2 m_ hn8
      obtain ⟨x9, h, hc10⟩ := iter_succ hn8
      replace h : M_choicesOf_b1 to_ index_ many_2 best_2 k_2 m_ = some x9 := h
      unfold M_choicesOf_b1 at h
      refine s_iload X 0 rfl dX12_choicesOf_9 ?_
      refine s_load0 X 3 rfl dX12_choicesOf_11 ?_
      refine s_getI X fk_X12_250 SHM_0 rfl dX12_choicesOf_12 ?_
      refine s_icmpge_f (tgt := 64) X dX12_choicesOf_15 (by omega) (fun c21 => ?_) (fun c22 => ?_)
      · replace h := ite_neg h c21
        exact KX13 _ (iter_exit h hc10)
      · replace h := ite_pos h c22
        refine s_load0 X 3 rfl dX12_choicesOf_18 ?_
        refine s_iload X 0 rfl dX12_choicesOf_19 ?_
        refine s_iload_n X 4 rfl dX12_choicesOf_21 ?_
        obtain ⟨r_, hq24, h⟩ := bnd_some h
        refine s_callV (As := [VI k_2, VI to_]) X cw_X12_259 SHM_0 rfl dX12_choicesOf_22 (L_M_atBy G k_2 to_ m_ r_ hq24) rfl ⟨Nat.le_of_ble_eq_true rfl, Nat.le_of_ble_eq_true rfl⟩ ⟨Nat.le_of_ble_eq_true rfl, Nat.le_of_ble_eq_true rfl⟩ (Nat.le_of_ble_eq_true rfl) noT (kkR ?_)
        obtain ⟨time_, e27, h⟩ := ltv_elim h
        refine s_istore X e27 rfl (by omega) dX12_choicesOf_25 ?_
        refine s_iload X 0 rfl dX12_choicesOf_27 ?_
        refine s_iload X 2 rfl dX12_choicesOf_29 ?_
        refine s_icmpge_f (tgt := 58) X dX12_choicesOf_31 (by omega) (fun c31 => ?_) (fun c32 => ?_)
        · replace h := ite_neg h c31
          obtain ⟨g33, h⟩ := grd_some h
          obtain ⟨k_3, e34, h⟩ := ltv_elim h
          refine s_iinc X 1 rfl g33 e34 rfl (by omega) dX12_choicesOf_58 ?_
          refine s_goto (tgt := 9) X dX12_choicesOf_61 (by omega) ?_
          refine s_loc [0, 2, 3, 4, 5, 6] rfl ?_
          exact ih11 _ _ _ _ (iter_next h hc10)
        · replace h := ite_pos h c32
          obtain ⟨kj_, hk35, h⟩ := ltv_elim h
          have K36 : ∀ (m_2 : Mem), kj_ m_2 = some x9 → J SHM G rm_X12_choicesOf (.inl O) C 0 0 51 [(6, VI time_), (5, VI k_2), (4, VI best_2), (3, VI many_2), (0, VR 0), (1, VI to_), (2, VI index_)] [] m_2 := by
            intro m_2 h
            subst hk35
            dsimp only at h
            refine s_iload X 0 rfl dX12_choicesOf_51 ?_
            obtain ⟨best_3, e47, h⟩ := ltv_elim h
            refine s_istore X e47 rfl (by omega) dX12_choicesOf_53 ?_
            obtain ⟨g48, h⟩ := grd_some h
            obtain ⟨many_3, e49, h⟩ := ltv_elim h
            refine s_iinc X 3 rfl g48 e49 rfl (by omega) dX12_choicesOf_55 ?_
            obtain ⟨g50, h⟩ := grd_some h
            obtain ⟨k_4, e51, h⟩ := ltv_elim h
            refine s_iinc X 3 rfl g50 e51 rfl (by omega) dX12_choicesOf_58 ?_
            refine s_goto (tgt := 9) X dX12_choicesOf_61 (by omega) ?_
            refine s_loc [0, 2, 1, 4, 5, 6] rfl ?_
            exact ih11 _ _ _ _ (iter_next h hc10)
          refine s_iload_n X 3 rfl dX12_choicesOf_34 ?_
          refine s_iload_n X 6 rfl dX12_choicesOf_35 ?_
          refine s_icmpne_f (tgt := 51) X dX12_choicesOf_36 (by omega) (fun c40 => ?_) (fun c41 => ?_)
          · replace h := ite_neg h c40
            exact s_kn rfl rfl (K36 _ h)
          · replace h := ite_pos h c41
            refine s_load0 X 4 rfl dX12_choicesOf_39 ?_
            refine s_iload X 1 rfl dX12_choicesOf_40 ?_
            obtain ⟨m_3, e43, h⟩ := ltv_elim h
            refine s_putI X e43 fp_X12_262 SHM_0 rfl trivial dX12_choicesOf_42 ?_
            refine s_load0 X 4 rfl dX12_choicesOf_45 ?_
            refine s_iload X 0 rfl dX12_choicesOf_46 ?_
            obtain ⟨m_4, e45, h⟩ := ltv_elim h
            refine s_putI X e45 fp_X12_265 SHM_0 rfl trivial dX12_choicesOf_48 ?_
            exact s_kn rfl rfl (K36 _ h)
  exact LP12 _ _ _ _ _ hl17
set_option maxRecDepth 20000 in
set_option maxHeartbeats 4000000 in
theorem L_M_choices (G : Gl) (from_ : Int) (to_ : Int) (day_ : Int) (minute_ : Int) (m : Mem) (r : (Int × Mem))  (h : M_choices from_ to_ day_ minute_ m = some r) : Con SHM G yX12_choices cX12_choices 5 (some .int) rm_X12_choices [VR 0, VI from_, VI to_, VI day_, VI minute_] m (((.inl (some (VI r.1)), r.2) : Res × Mem)) := by
  refine con_of (own := "LastbusModel") (by decide) rfl (Nat.le_of_ble_eq_true rfl) (fun C X => ?_)
  obtain ⟨O, hO⟩ : ∃ O : Res × Mem, O = (((.inl (some (VI r.1)), r.2) : Res × Mem)) := ⟨_, rfl⟩
  rw [← hO]
  show J SHM G rm_X12_choices (.inl O) C 0 0 0 [(0, VR 0), (1, VI from_), (2, VI to_), (3, VI day_), (4, VI minute_)] [] m
  unfold M_choices at h
  refine s_load0 X 0 rfl dX12_choices_0 ?_
  refine s_iload_n X 1 rfl dX12_choices_1 ?_
  refine s_iload_n X 2 rfl dX12_choices_2 ?_
  refine s_iload_n X 3 rfl dX12_choices_3 ?_
  refine s_iload X 4 rfl dX12_choices_4 ?_
  obtain ⟨r_, m_, hq2, h⟩ := bq2_some h
  refine s_callV (As := [VI from_, VI to_, VI day_, VI minute_]) X cw_X12_239 SHM_0 rfl dX12_choices_6 (L_M_isAskedWrong G from_ to_ day_ minute_ m (r_, m_) hq2) rfl ⟨Nat.le_of_ble_eq_true rfl, Nat.le_of_ble_eq_true rfl⟩ ⟨Nat.le_of_ble_eq_true rfl, Nat.le_of_ble_eq_true rfl⟩ (Nat.le_of_ble_eq_true rfl) noT (kkR ?_)
  refine s_ifeq_f (tgt := 14) X dX12_choices_9 (by omega) (fun c5 => ?_) (fun c6 => ?_)
  · replace h := ite_neg h c5
    refine s_load0 X 0 rfl dX12_choices_14 ?_
    refine s_iload_n X 1 rfl dX12_choices_15 ?_
    refine s_iload_n X 3 rfl dX12_choices_16 ?_
    refine s_iload X 4 rfl dX12_choices_17 ?_
    obtain ⟨m_2, hq8, h⟩ := bnd_some h
    refine s_callV (As := [VI from_, VI day_, VI minute_]) X cw_X12_268 SHM_0 rfl dX12_choices_19 (L_M_tellRounds G from_ day_ minute_ m_ m_2 hq8) rfl ⟨Nat.le_of_ble_eq_true rfl, Nat.le_of_ble_eq_true rfl⟩ ⟨Nat.le_of_ble_eq_true rfl, Nat.le_of_ble_eq_true rfl⟩ (Nat.le_of_ble_eq_true rfl) noT (kkU ?_)
    refine s_load0 X 0 rfl dX12_choices_22 ?_
    refine s_iload_n X 2 rfl dX12_choices_23 ?_
    refine s_const X (by unfold InR; omega) dX12_choices_24 ?_
    obtain ⟨r_2, m_3, hq12, h⟩ := bq2_some h
    refine s_callV (As := [VI to_, VI (-1)]) X cw_X12_272 SHM_0 rfl dX12_choices_25 (L_M_choicesOf G to_ (-1) m_2 (r_2, m_3) hq12) rfl ⟨Nat.le_of_ble_eq_true rfl, Nat.le_of_ble_eq_true rfl⟩ ⟨Nat.le_of_ble_eq_true rfl, Nat.le_of_ble_eq_true rfl⟩ (Nat.le_of_ble_eq_true rfl) noT (kkR ?_)
    exact s_iret X (Nat.le_of_ble_eq_true rfl) (Nat.le_of_ble_eq_true rfl) (by cases h; exact hO) dX12_choices_28
  · replace h := ite_pos h c6
    refine s_const X (by unfold InR; omega) dX12_choices_12 ?_
    exact s_iret X (Nat.le_of_ble_eq_true rfl) (Nat.le_of_ble_eq_true rfl) (by cases h; exact hO) dX12_choices_13
set_option maxRecDepth 20000 in
set_option maxHeartbeats 4000000 in
theorem L_M_choice (G : Gl) (from_ : Int) (to_ : Int) (day_ : Int) (minute_ : Int) (index_ : Int) (m : Mem) (r : (Int × Mem))  (h : M_choice from_ to_ day_ minute_ index_ m = some r) : Con SHM G yX12_choice cX12_choice 6 (some .int) rm_X12_choice [VR 0, VI from_, VI to_, VI day_, VI minute_, VI index_] m (((.inl (some (VI r.1)), r.2) : Res × Mem)) := by
  refine con_of (own := "LastbusModel") (by decide) rfl (Nat.le_of_ble_eq_true rfl) (fun C X => ?_)
  obtain ⟨O, hO⟩ : ∃ O : Res × Mem, O = (((.inl (some (VI r.1)), r.2) : Res × Mem)) := ⟨_, rfl⟩
  rw [← hO]
  show J SHM G rm_X12_choice (.inl O) C 0 0 0 [(0, VR 0), (1, VI from_), (2, VI to_), (3, VI day_), (4, VI minute_), (5, VI index_)] [] m
  unfold M_choice at h
  refine s_load0 X 0 rfl dX12_choice_0 ?_
  refine s_iload_n X 1 rfl dX12_choice_1 ?_
  refine s_iload_n X 2 rfl dX12_choice_2 ?_
  refine s_iload_n X 3 rfl dX12_choice_3 ?_
  refine s_iload X 4 rfl dX12_choice_4 ?_
  obtain ⟨r_, m_, hq2, h⟩ := bq2_some h
  refine s_callV (As := [VI from_, VI to_, VI day_, VI minute_]) X cw_X12_239 SHM_0 rfl dX12_choice_6 (L_M_isAskedWrong G from_ to_ day_ minute_ m (r_, m_) hq2) rfl ⟨Nat.le_of_ble_eq_true rfl, Nat.le_of_ble_eq_true rfl⟩ ⟨Nat.le_of_ble_eq_true rfl, Nat.le_of_ble_eq_true rfl⟩ (Nat.le_of_ble_eq_true rfl) noT (kkR ?_)
  refine s_ifeq_f (tgt := 14) X dX12_choice_9 (by omega) (fun c5 => ?_) (fun c6 => ?_)
  · replace h := ite_neg h c5
    refine s_load0 X 0 rfl dX12_choice_14 ?_
    refine s_iload_n X 1 rfl dX12_choice_15 ?_
    refine s_iload_n X 3 rfl dX12_choice_16 ?_
    refine s_iload X 4 rfl dX12_choice_17 ?_
    obtain ⟨m_2, hq8, h⟩ := bnd_some h
    refine s_callV (As := [VI from_, VI day_, VI minute_]) X cw_X12_268 SHM_0 rfl dX12_choice_19 (L_M_tellRounds G from_ day_ minute_ m_ m_2 hq8) rfl ⟨Nat.le_of_ble_eq_true rfl, Nat.le_of_ble_eq_true rfl⟩ ⟨Nat.le_of_ble_eq_true rfl, Nat.le_of_ble_eq_true rfl⟩ (Nat.le_of_ble_eq_true rfl) noT (kkU ?_)
    refine s_load0 X 0 rfl dX12_choice_22 ?_
    obtain ⟨kj_, hk12, h⟩ := ltv_elim h
    have K13 : ∀ (v_ : Int) (m_3 : Mem), kj_ v_ m_3 = some r → J SHM G rm_X12_choice (.inl O) C 0 0 46 [(0, VR 0), (1, VI from_), (2, VI to_), (3, VI day_), (4, VI minute_), (5, VI index_)] [VI v_, VR 0] m_3 := by
      intro v_ m_3 h
      subst hk12
      dsimp only at h
      refine s_const X (by unfold InR; omega) dX12_choice_46 ?_
      obtain ⟨r_3, m_5, hq22, h⟩ := bq2_some h
      refine s_callV (As := [VI v_, VI 3]) X cw_X12_130 SHM_0 rfl dX12_choice_47 (L_M_isThrown G v_ 3 m_3 (r_3, m_5) hq22) rfl ⟨Nat.le_of_ble_eq_true rfl, Nat.le_of_ble_eq_true rfl⟩ ⟨Nat.le_of_ble_eq_true rfl, Nat.le_of_ble_eq_true rfl⟩ (Nat.le_of_ble_eq_true rfl) noT (kkR ?_)
      refine s_ifeq_f (tgt := 57) X dX12_choice_50 (by omega) (fun c25 => ?_) (fun c26 => ?_)
      · replace h := ite_neg h c25
        obtain ⟨g27, h⟩ := grd_some h
        refine s_sipush X (by omega) dX12_choice_57 ?_
        refine s_load0 X 0 rfl dX12_choice_60 ?_
        refine s_getI X fk_X12_262 SHM_0 rfl dX12_choice_61 ?_
        refine s_imul X g27.1 dX12_choice_64 ?_
        refine s_load0 X 0 rfl dX12_choice_65 ?_
        refine s_getI X fk_X12_265 SHM_0 rfl dX12_choice_66 ?_
        refine s_iadd X g27.2 dX12_choice_69 ?_
        exact s_iret X (Nat.le_of_ble_eq_true rfl) (Nat.le_of_ble_eq_true rfl) (by cases h; exact hO) dX12_choice_70
      · replace h := ite_pos h c26
        refine s_const X (by unfold InR; omega) dX12_choice_53 ?_
        refine s_goto (tgt := 70) X dX12_choice_54 (by omega) ?_
        exact s_iret X (Nat.le_of_ble_eq_true rfl) (Nat.le_of_ble_eq_true rfl) (by cases h; exact hO) dX12_choice_70
    refine s_iload X 5 rfl dX12_choice_23 ?_
    refine s_const X (by unfold InR; omega) dX12_choice_25 ?_
    refine s_load0 X 0 rfl dX12_choice_26 ?_
    refine s_iload_n X 2 rfl dX12_choice_27 ?_
    refine s_iload X 5 rfl dX12_choice_28 ?_
    obtain ⟨r_2, m_4, hq14, h⟩ := bq2_some h
    refine s_callV (As := [VI to_, VI index_]) X cw_X12_272 SHM_0 rfl dX12_choice_30 (L_M_choicesOf G to_ index_ m_2 (r_2, m_4) hq14) rfl ⟨Nat.le_of_ble_eq_true rfl, Nat.le_of_ble_eq_true rfl⟩ ⟨Nat.le_of_ble_eq_true rfl, Nat.le_of_ble_eq_true rfl⟩ (Nat.le_of_ble_eq_true rfl) noT (kkR ?_)
    obtain ⟨g16, h⟩ := grd_some h
    refine s_const X (by unfold InR; omega) dX12_choice_33 ?_
    refine s_isub X g16 dX12_choice_34 ?_
    refine s_callS (As := [VI index_, VI 0, VI (r_2 - 1)]) X cw_X12_126 dX12_choice_35 (L_M_isIn G index_ 0 (r_2 - 1) m_4) rfl ⟨Nat.le_of_ble_eq_true rfl, Nat.le_of_ble_eq_true rfl⟩ ⟨Nat.le_of_ble_eq_true rfl, Nat.le_of_ble_eq_true rfl⟩ (Nat.le_of_ble_eq_true rfl) noT (kkR ?_)
    refine s_ifne_t (tgt := 45) X dX12_choice_38 (by omega) (fun c17 => ?_) (fun c18 => ?_)
    · replace h := ite_pos h c17
      refine s_const X (by unfold InR; omega) dX12_choice_45 ?_
      exact s_kn rfl rfl (K13 _ _ h)
    · replace h := ite_neg h c18
      refine s_const X (by unfold InR; omega) dX12_choice_41 ?_
      refine s_goto (tgt := 46) X dX12_choice_42 (by omega) ?_
      exact s_kn rfl rfl (K13 _ _ h)
  · replace h := ite_pos h c6
    refine s_const X (by unfold InR; omega) dX12_choice_12 ?_
    exact s_iret X (Nat.le_of_ble_eq_true rfl) (Nat.le_of_ble_eq_true rfl) (by cases h; exact hO) dX12_choice_13
set_option maxRecDepth 20000 in
set_option maxHeartbeats 4000000 in
theorem L_M_findRide (G : Gl) (number_ : Int) (stop_ : Int) (time_ : Int) (isEnd_ : Int) (m : Mem) (r : Mem)  (h : M_findRide number_ stop_ time_ isEnd_ m = some r) : Con SHM G yX12_findRide cX12_findRide 10 none rm_X12_findRide [VR 0, VI number_, VI stop_, VI time_, VI isEnd_] m (((.inl none, r) : Res × Mem)) := by
  refine con_of (own := "LastbusModel") (by decide) rfl (Nat.le_of_ble_eq_true rfl) (fun C X => ?_)
  obtain ⟨O, hO⟩ : ∃ O : Res × Mem, O = (((.inl none, r) : Res × Mem)) := ⟨_, rfl⟩
  rw [← hO]
  show J SHM G rm_X12_findRide (.inl O) C 0 0 0 [(0, VR 0), (1, VI number_), (2, VI stop_), (3, VI time_), (4, VI isEnd_)] [] m
  unfold M_findRide at h
  obtain ⟨g1, h⟩ := grd_some h
  refine s_load0 X 0 rfl dX12_findRide_0 ?_
  refine s_getR (id := 19) X fk_X12_75 SHM_0 rfl dX12_findRide_1 ?_
  refine s_iload_n X 1 rfl dX12_findRide_4 ?_
  refine s_const X (by unfold InR; omega) dX12_findRide_5 ?_
  obtain ⟨m_, e2, h⟩ := ltv_elim h
  refine s_iast X e2 SHM_19 g1.1 g1.2 dX12_findRide_6 ?_
  refine s_const X (by unfold InR; omega) dX12_findRide_7 ?_
  obtain ⟨run_, e4, h⟩ := ltv_elim h
  refine s_istore X e4 rfl (by omega) dX12_findRide_8 ?_
  obtain ⟨run_4, m_10, hl14, h⟩ := bq2_some h
  obtain ⟨fu50, hl15⟩ := loop_iter hl14
  have KX11 : ∀ q9 : Int × Mem, q9 = (run_4, m_10) → J SHM G rm_X12_findRide (.inl O) C 0 0 217 [(5, VI q9.1), (0, VR 0), (1, VI number_), (2, VI stop_), (3, VI time_), (4, VI isEnd_)] [] (q9.2) := by
    intro q9 e9
    subst e9
    show J SHM G rm_X12_findRide (.inl O) C 0 0 217 [(5, VI run_4), (0, VR 0), (1, VI number_), (2, VI stop_), (3, VI time_), (4, VI isEnd_)] [] m_10
    exact s_vret X (Nat.le_of_ble_eq_true rfl) (Nat.le_of_ble_eq_true rfl) (by cases h; exact hO) dX12_findRide_217
  have LP10 : ∀ (fu5 : Nat) (run_2 : Int) (m_2 : Mem), iter (fun s => M_findRide_b1 number_ stop_ time_ isEnd_ s.1 s.2) fu5 (run_2, m_2) = some (run_4, m_10) → J SHM G rm_X12_findRide (.inl O) C 0 0 10 [(5, VI run_2), (0, VR 0), (1, VI number_), (2, VI stop_), (3, VI time_), (4, VI isEnd_)] [] m_2 := by
    intro fu5
    induction fu5 with
    | zero => intro run_2 m_2 hn6; exact absurd hn6 (by simp [iter])
    | succ fu5 ih9 =>
      intro run_2 m_2 hn6
      obtain ⟨x7, h, hc8⟩ := iter_succ hn6
      replace h : M_findRide_b1 number_ stop_ time_ isEnd_ run_2 m_2 = some x7 := h
      unfold M_findRide_b1 at h
      obtain ⟨g16, h⟩ := grd_some h
      have kF18 : ¬ ((run_2 < 72) ∧ (m_2 19 number_.toNat = (-1))) → J SHM G rm_X12_findRide (.inl O) C 0 0 217 [(5, VI run_2), (0, VR 0), (1, VI number_), (2, VI stop_), (3, VI time_), (4, VI isEnd_)] [] m_2 := by
        intro c21
        replace h := ite_neg h c21
        exact KX11 _ (iter_exit h hc8)
      refine s_iload X 0 rfl dX12_findRide_10 ?_
      refine s_bipush X (by omega) dX12_findRide_12 ?_
      refine s_icmpge_f (tgt := 217) X dX12_findRide_14 (by omega) (fun c19 => ?_) (fun c20 => ?_)
      · exact kF18 (fun q => c19 q.1)
      · have a22 : run_2 < 72 := c20
        refine s_load0 X 1 rfl dX12_findRide_17 ?_
        refine s_getR (id := 19) X fk_X12_75 SHM_0 rfl dX12_findRide_18 ?_
        refine s_iload_n X 2 rfl dX12_findRide_21 ?_
        refine s_iald X SHM_19 (g16.1 a22) (g16.2 a22) dX12_findRide_22 ?_
        refine s_const X (by unfold InR; omega) dX12_findRide_23 ?_
        refine s_icmpne_f (tgt := 217) X dX12_findRide_24 (by omega) (fun c23 => ?_) (fun c24 => ?_)
        · exact kF18 (fun q => c23 q.2)
        · replace h := ite_pos h ⟨a22, c24⟩
          refine s_const X (by unfold InR; omega) dX12_findRide_27 ?_
          obtain ⟨off_, e26, h⟩ := ltv_elim h
          refine s_istore X e26 rfl (by omega) dX12_findRide_28 ?_
          obtain ⟨off_5, m_9, hl36, h⟩ := bq2_some h
          obtain ⟨fu270, hl37⟩ := loop_iter hl36
          have KX33 : ∀ q9 : Int × Mem, q9 = (off_5, m_9) → J SHM G rm_X12_findRide (.inl O) C 0 0 211 [(6, VI q9.1), (5, VI run_2), (0, VR 0), (1, VI number_), (2, VI stop_), (3, VI time_), (4, VI isEnd_)] [] (q9.2) := by
            intro q9 e9
            subst e9
            show J SHM G rm_X12_findRide (.inl O) C 0 0 211 [(6, VI off_5), (5, VI run_2), (0, VR 0), (1, VI number_), (2, VI stop_), (3, VI time_), (4, VI isEnd_)] [] m_9
            obtain ⟨g121, h⟩ := grd_some h
            obtain ⟨run_3, e122, h⟩ := ltv_elim h
            refine s_iinc X 1 rfl g121 e122 rfl (by omega) dX12_findRide_211 ?_
            refine s_goto (tgt := 10) X dX12_findRide_214 (by omega) ?_
            refine s_loc [0, 2, 3, 4, 5, 6] rfl ?_
            exact ih9 _ _ (iter_next h hc8)
          have LP32 : ∀ (fu27 : Nat) (off_2 : Int) (m_3 : Mem), iter (fun s => M_findRide_b2 number_ stop_ time_ isEnd_ run_2 s.1 s.2) fu27 (off_2, m_3) = some (off_5, m_9) → J SHM G rm_X12_findRide (.inl O) C 0 0 30 [(6, VI off_2), (5, VI run_2), (0, VR 0), (1, VI number_), (2, VI stop_), (3, VI time_), (4, VI isEnd_)] [] m_3 := by
            intro fu27
            induction fu27 with
            | zero => intro off_2 m_3 hn28; exact absurd hn28 (by simp [iter])
            | succ fu27 ih31 =>
              intro off_2 m_3 hn28
              obtain ⟨x29, h, hc30⟩ := iter_succ hn28
              replace h : M_findRide_b2 number_ stop_ time_ isEnd_ run_2 off_2 m_3 = some x29 := h
              unfold M_findRide_b2 at h
              refine s_load0 X 2 rfl dX12_findRide_30 ?_
              refine s_iload X 1 rfl dX12_findRide_31 ?_
              obtain ⟨r_, hq39, h⟩ := bnd_some h
              refine s_callV (As := [VI run_2]) X cw_X12_208 SHM_0 rfl dX12_findRide_33 (L_M_isRun G run_2 m_3 r_ hq39) rfl ⟨Nat.le_of_ble_eq_true rfl, Nat.le_of_ble_eq_true rfl⟩ ⟨Nat.le_of_ble_eq_true rfl, Nat.le_of_ble_eq_true rfl⟩ (Nat.le_of_ble_eq_true rfl) noT (kkR ?_)
              refine s_ifeq_f (tgt := 211) X dX12_findRide_36 (by omega) (fun c42 => ?_) (fun c43 => ?_)
              · replace h := ite_neg h c42
                exact KX33 _ (iter_exit h hc30)
              · replace h := ite_pos h c43
                obtain ⟨g44, h⟩ := grd_some h
                refine s_iload X 0 rfl dX12_findRide_39 ?_
                refine s_load0 X 2 rfl dX12_findRide_41 ?_
                refine s_getR (id := 6) X fk_X12_30 SHM_0 rfl dX12_findRide_42 ?_
                refine s_iload X 1 rfl dX12_findRide_45 ?_
                refine s_bipush X (by omega) dX12_findRide_47 ?_
                refine s_irem X (by omega) dX12_findRide_49 ?_
                refine s_iald X SHM_6 g44.1 g44.2 dX12_findRide_50 ?_
                refine s_icmpge_f (tgt := 211) X dX12_findRide_51 (by omega) (fun c47 => ?_) (fun c48 => ?_)
                · replace h := ite_neg h c47
                  exact KX33 _ (iter_exit h hc30)
                · replace h := ite_pos h c48
                  obtain ⟨g49, h⟩ := grd_some h
                  refine s_load0 X 2 rfl dX12_findRide_54 ?_
                  refine s_getR (id := 19) X fk_X12_75 SHM_0 rfl dX12_findRide_55 ?_
                  refine s_iload_n X 3 rfl dX12_findRide_58 ?_
                  refine s_iald X SHM_19 g49.1 g49.2 dX12_findRide_59 ?_
                  refine s_const X (by unfold InR; omega) dX12_findRide_60 ?_
                  refine s_icmpne_f (tgt := 211) X dX12_findRide_61 (by omega) (fun c52 => ?_) (fun c53 => ?_)
                  · replace h := ite_neg h c52
                    exact KX33 _ (iter_exit h hc30)
                  · replace h := ite_pos h c53
                    refine s_load0 X 2 rfl dX12_findRide_64 ?_
                    refine s_iload X 1 rfl dX12_findRide_65 ?_
                    refine s_iload X 0 rfl dX12_findRide_67 ?_
                    obtain ⟨r_2, hq55, h⟩ := bnd_some h
                    refine s_callV (As := [VI run_2, VI off_2]) X cw_X12_214 SHM_0 rfl dX12_findRide_69 (L_M_stopIn G run_2 off_2 m_3 r_2 hq55) rfl ⟨Nat.le_of_ble_eq_true rfl, Nat.le_of_ble_eq_true rfl⟩ ⟨Nat.le_of_ble_eq_true rfl, Nat.le_of_ble_eq_true rfl⟩ (Nat.le_of_ble_eq_true rfl) noT (kkR ?_)
                    obtain ⟨by_, e58, h⟩ := ltv_elim h
                    refine s_istore X e58 rfl (by omega) dX12_findRide_72 ?_
                    obtain ⟨g59, h⟩ := grd_some h
                    have kM60 : J SHM G rm_X12_findRide (.inl O) C 0 0 110 [(7, VI by_), (6, VI off_2), (5, VI run_2), (0, VR 0), (1, VI number_), (2, VI stop_), (3, VI time_), (4, VI isEnd_)] [VI (if ¬ by_ = stop_ then m_3 3 (12 * by_ + stop_).toNat else (if ¬ isEnd_ = 0 then 0 else m_3 1 stop_.toNat))] m_3 := by
                      obtain ⟨more_, e66, h⟩ := ltv_elim h
                      refine s_istore X e66 rfl (by omega) dX12_findRide_110 ?_
                      refine s_load0 X 4 rfl dX12_findRide_112 ?_
                      refine s_iload X 3 rfl dX12_findRide_113 ?_
                      refine s_iload X 2 rfl dX12_findRide_115 ?_
                      obtain ⟨r_3, hq68, h⟩ := bnd_some h
                      refine s_callV (As := [VI run_2, VI off_2]) X cw_X12_217 SHM_0 rfl dX12_findRide_117 (L_M_comesAt G run_2 off_2 m_3 r_3 hq68) rfl ⟨Nat.le_of_ble_eq_true rfl, Nat.le_of_ble_eq_true rfl⟩ ⟨Nat.le_of_ble_eq_true rfl, Nat.le_of_ble_eq_true rfl⟩ (Nat.le_of_ble_eq_true rfl) noT (kkR ?_)
                      obtain ⟨g70, h⟩ := grd_some h
                      refine s_iload X 0 rfl dX12_findRide_120 ?_
                      refine s_iadd X g70 dX12_findRide_122 ?_
                      refine s_iload_n X 7 rfl dX12_findRide_123 ?_
                      refine s_icmple_f (tgt := 130) X dX12_findRide_124 (by omega) (fun c71 => ?_) (fun c72 => ?_)
                      · replace h := ite_neg h c71
                        obtain ⟨g73, h⟩ := grd_some h
                        refine s_iload X 2 rfl dX12_findRide_130 ?_
                        refine s_const X (by unfold InR; omega) dX12_findRide_132 ?_
                        refine s_isub X g73 dX12_findRide_133 ?_
                        obtain ⟨c_, e74, h⟩ := ltv_elim h
                        refine s_istore X e74 rfl (by omega) dX12_findRide_134 ?_
                        obtain ⟨c_5, m_8, hl84, h⟩ := bq2_some h
                        obtain ⟨fu750, hl85⟩ := loop_iter hl84
                        have KX81 : ∀ q9 : Int × Mem, q9 = (c_5, m_8) → J SHM G rm_X12_findRide (.inl O) C 0 0 205 [(9, VI q9.1), (8, VI more_), (7, VI by_), (6, VI off_2), (5, VI run_2), (0, VR 0), (1, VI number_), (2, VI stop_), (3, VI time_), (4, VI isEnd_)] [] (q9.2) := by
                          intro q9 e9
                          subst e9
                          show J SHM G rm_X12_findRide (.inl O) C 0 0 205 [(9, VI c_5), (8, VI more_), (7, VI by_), (6, VI off_2), (5, VI run_2), (0, VR 0), (1, VI number_), (2, VI stop_), (3, VI time_), (4, VI isEnd_)] [] m_8
                          obtain ⟨g117, h⟩ := grd_some h
                          obtain ⟨off_3, e118, h⟩ := ltv_elim h
                          refine s_iinc X 3 rfl g117 e118 rfl (by omega) dX12_findRide_205 ?_
                          refine s_goto (tgt := 30) X dX12_findRide_208 (by omega) ?_
                          refine s_loc [0, 4, 5, 6, 7, 8, 9] rfl ?_
                          exact ih31 _ _ (iter_next h hc30)
                        have LP80 : ∀ (fu75 : Nat) (c_2 : Int) (m_4 : Mem), iter (fun s => M_findRide_b3 number_ run_2 off_2 s.1 s.2) fu75 (c_2, m_4) = some (c_5, m_8) → J SHM G rm_X12_findRide (.inl O) C 0 0 136 [(9, VI c_2), (8, VI more_), (7, VI by_), (6, VI off_2), (5, VI run_2), (0, VR 0), (1, VI number_), (2, VI stop_), (3, VI time_), (4, VI isEnd_)] [] m_4 := by
                          intro fu75
                          induction fu75 with
                          | zero => intro c_2 m_4 hn76; exact absurd hn76 (by simp [iter])
                          | succ fu75 ih79 =>
                            intro c_2 m_4 hn76
                            obtain ⟨x77, h, hc78⟩ := iter_succ hn76
                            replace h : M_findRide_b3 number_ run_2 off_2 c_2 m_4 = some x77 := h
                            unfold M_findRide_b3 at h
                            obtain ⟨g86, h⟩ := grd_some h
                            have kF88 : ¬ ((0 ≤ c_2) ∧ (m_4 19 number_.toNat = (-1))) → J SHM G rm_X12_findRide (.inl O) C 0 0 205 [(9, VI c_2), (8, VI more_), (7, VI by_), (6, VI off_2), (5, VI run_2), (0, VR 0), (1, VI number_), (2, VI stop_), (3, VI time_), (4, VI isEnd_)] [] m_4 := by
                              intro c91
                              replace h := ite_neg h c91
                              exact KX81 _ (iter_exit h hc78)
                            refine s_iload X 0 rfl dX12_findRide_136 ?_
                            refine s_iflt_f (tgt := 205) X dX12_findRide_138 (by omega) (fun c89 => ?_) (fun c90 => ?_)
                            · exact kF88 (fun q => c89 q.1)
                            · have a92 : 0 ≤ c_2 := c90
                              refine s_load0 X 5 rfl dX12_findRide_141 ?_
                              refine s_getR (id := 19) X fk_X12_75 SHM_0 rfl dX12_findRide_142 ?_
                              refine s_iload_n X 6 rfl dX12_findRide_145 ?_
                              refine s_iald X SHM_19 (g86.1 a92) (g86.2 a92) dX12_findRide_146 ?_
                              refine s_const X (by unfold InR; omega) dX12_findRide_147 ?_
                              refine s_icmpne_f (tgt := 205) X dX12_findRide_148 (by omega) (fun c93 => ?_) (fun c94 => ?_)
                              · exact kF88 (fun q => c93 q.2)
                              · replace h := ite_pos h ⟨a92, c94⟩
                                refine s_load0 X 5 rfl dX12_findRide_151 ?_
                                refine s_iload_n X 6 rfl dX12_findRide_152 ?_
                                refine s_load0 X 5 rfl dX12_findRide_153 ?_
                                refine s_iload X 4 rfl dX12_findRide_154 ?_
                                refine s_iload X 0 rfl dX12_findRide_156 ?_
                                obtain ⟨r_4, hq96, h⟩ := bnd_some h
                                refine s_callV (As := [VI run_2, VI c_2]) X cw_X12_214 SHM_0 rfl dX12_findRide_158 (L_M_stopIn G run_2 c_2 m_4 r_4 hq96) rfl ⟨Nat.le_of_ble_eq_true rfl, Nat.le_of_ble_eq_true rfl⟩ ⟨Nat.le_of_ble_eq_true rfl, Nat.le_of_ble_eq_true rfl⟩ (Nat.le_of_ble_eq_true rfl) noT (kkR ?_)
                                refine s_load0 X 5 rfl dX12_findRide_161 ?_
                                refine s_iload X 4 rfl dX12_findRide_162 ?_
                                refine s_iload X 0 rfl dX12_findRide_164 ?_
                                obtain ⟨r_5, hq99, h⟩ := bnd_some h
                                refine s_callV (As := [VI run_2, VI c_2]) X cw_X12_223 SHM_0 rfl dX12_findRide_166 (L_M_leavesAt G run_2 c_2 m_4 r_5 hq99) rfl ⟨Nat.le_of_ble_eq_true rfl, Nat.le_of_ble_eq_true rfl⟩ ⟨Nat.le_of_ble_eq_true rfl, Nat.le_of_ble_eq_true rfl⟩ (Nat.le_of_ble_eq_true rfl) noT (kkR ?_)
                                obtain ⟨r_6, hq102, h⟩ := bnd_some h
                                refine s_callV (As := [VI number_, VI r_4, VI r_5]) X cw_X12_256 SHM_0 rfl dX12_findRide_169 (L_M_getsOnBy G number_ r_4 r_5 m_4 r_6 hq102) rfl ⟨Nat.le_of_ble_eq_true rfl, Nat.le_of_ble_eq_true rfl⟩ ⟨Nat.le_of_ble_eq_true rfl, Nat.le_of_ble_eq_true rfl⟩ (Nat.le_of_ble_eq_true rfl) noT (kkR ?_)
                                refine s_ifeq_f (tgt := 199) X dX12_findRide_172 (by omega) (fun c105 => ?_) (fun c106 => ?_)
                                · replace h := ite_neg h c105
                                  obtain ⟨g107, h⟩ := grd_some h
                                  obtain ⟨c_3, e108, h⟩ := ltv_elim h
                                  refine s_iinc X 0 rfl g107 e108 rfl (by omega) dX12_findRide_199 ?_
                                  refine s_goto (tgt := 136) X dX12_findRide_202 (by omega) ?_
                                  exact ih79 _ _ (iter_next h hc78)
                                · replace h := ite_pos h c106
                                  obtain ⟨g109, h⟩ := grd_some h
                                  refine s_load0 X 5 rfl dX12_findRide_175 ?_
                                  refine s_getR (id := 19) X fk_X12_75 SHM_0 rfl dX12_findRide_176 ?_
                                  refine s_iload_n X 6 rfl dX12_findRide_179 ?_
                                  refine s_iload X 4 rfl dX12_findRide_180 ?_
                                  obtain ⟨m_5, e110, h⟩ := ltv_elim h
                                  refine s_iast X e110 SHM_19 g109.1 g109.2 dX12_findRide_182 ?_
                                  refine s_load0 X 5 rfl dX12_findRide_183 ?_
                                  refine s_getR (id := 20) X fk_X12_78 SHM_0 rfl dX12_findRide_184 ?_
                                  refine s_iload_n X 6 rfl dX12_findRide_187 ?_
                                  refine s_iload X 0 rfl dX12_findRide_188 ?_
                                  obtain ⟨m_6, e112, h⟩ := ltv_elim h
                                  refine s_iast X e112 SHM_20 g109.1 g109.2 dX12_findRide_190 ?_
                                  refine s_load0 X 5 rfl dX12_findRide_191 ?_
                                  refine s_getR (id := 21) X fk_X12_81 SHM_0 rfl dX12_findRide_192 ?_
                                  refine s_iload_n X 6 rfl dX12_findRide_195 ?_
                                  refine s_iload X 3 rfl dX12_findRide_196 ?_
                                  obtain ⟨m_7, e114, h⟩ := ltv_elim h
                                  refine s_iast X e114 SHM_21 g109.1 g109.2 dX12_findRide_198 ?_
                                  obtain ⟨g115, h⟩ := grd_some h
                                  obtain ⟨c_4, e116, h⟩ := ltv_elim h
                                  refine s_iinc X 0 rfl g115 e116 rfl (by omega) dX12_findRide_199 ?_
                                  refine s_goto (tgt := 136) X dX12_findRide_202 (by omega) ?_
                                  exact ih79 _ _ (iter_next h hc78)
                        exact LP80 _ _ _ hl85
                      · replace h := ite_pos h c72
                        refine s_goto (tgt := 205) X dX12_findRide_127 (by omega) ?_
                        obtain ⟨g119, h⟩ := grd_some h
                        obtain ⟨off_4, e120, h⟩ := ltv_elim h
                        refine s_iinc X 2 rfl g119 e120 rfl (by omega) dX12_findRide_205 ?_
                        refine s_goto (tgt := 30) X dX12_findRide_208 (by omega) ?_
                        refine s_loc [0, 3, 4, 5, 6, 7, 8] rfl ?_
                        exact ih31 _ _ (iter_next h hc30)
                    refine s_iload X 0 rfl dX12_findRide_74 ?_
                    refine s_iload_n X 5 rfl dX12_findRide_76 ?_
                    refine s_icmpeq_f (tgt := 95) X dX12_findRide_77 (by omega) (fun c61 => ?_) (fun c62 => ?_)
                    · have kM63 : J SHM G rm_X12_findRide (.inl O) C 0 0 110 [(7, VI by_), (6, VI off_2), (5, VI run_2), (0, VR 0), (1, VI number_), (2, VI stop_), (3, VI time_), (4, VI isEnd_)] [VI (if ¬ isEnd_ = 0 then 0 else m_3 1 stop_.toNat)] m_3 := by
                        exact s_eqt (if_neg c61) kM60
                      refine s_iload X 7 rfl dX12_findRide_95 ?_
                      refine s_ifeq_f (tgt := 104) X dX12_findRide_97 (by omega) (fun c64 => ?_) (fun c65 => ?_)
                      · refine s_load0 X 3 rfl dX12_findRide_104 ?_
                        refine s_getR (id := 1) X fk_X12_9 SHM_0 rfl dX12_findRide_105 ?_
                        refine s_iload_n X 5 rfl dX12_findRide_108 ?_
                        refine s_iald X SHM_1 (g59.1 c61 c64) (g59.2.1 c61 c64) dX12_findRide_109 ?_
                        exact s_eqt (if_neg c64) kM63
                      · refine s_const X (by unfold InR; omega) dX12_findRide_100 ?_
                        refine s_goto (tgt := 110) X dX12_findRide_101 (by omega) ?_
                        exact s_eqt (if_pos c65) kM63
                    · refine s_load0 X 3 rfl dX12_findRide_80 ?_
                      refine s_getR (id := 3) X fk_X12_16 SHM_0 rfl dX12_findRide_81 ?_
                      refine s_bipush X (by omega) dX12_findRide_84 ?_
                      refine s_iload X 0 rfl dX12_findRide_86 ?_
                      refine s_imul X (g59.2.2.1 c62) dX12_findRide_88 ?_
                      refine s_iload_n X 5 rfl dX12_findRide_89 ?_
                      refine s_iadd X (g59.2.2.2.1 c62) dX12_findRide_90 ?_
                      refine s_iald X SHM_3 (g59.2.2.2.2.1 c62) (g59.2.2.2.2.2 c62) dX12_findRide_91 ?_
                      refine s_goto (tgt := 110) X dX12_findRide_92 (by omega) ?_
                      exact s_eqt (if_pos c62) kM60
          exact LP32 _ _ _ hl37
  exact LP10 _ _ _ hl15
set_option maxRecDepth 20000 in
set_option maxHeartbeats 4000000 in
theorem L_M_chain (G : Gl) (from_ : Int) (to_ : Int) (day_ : Int) (minute_ : Int) (m : Mem) (r : (Int × Mem))  (h : M_chain from_ to_ day_ minute_ m = some r) : Con SHM G yX12_chain cX12_chain 10 (some .int) rm_X12_chain [VR 0, VI from_, VI to_, VI day_, VI minute_] m (((.inl (some (VI r.1)), r.2) : Res × Mem)) := by
  refine con_of (own := "LastbusModel") (by decide) rfl (Nat.le_of_ble_eq_true rfl) (fun C X => ?_)
  obtain ⟨O, hO⟩ : ∃ O : Res × Mem, O = (((.inl (some (VI r.1)), r.2) : Res × Mem)) := ⟨_, rfl⟩
  rw [← hO]
  show J SHM G rm_X12_chain (.inl O) C 0 0 0 [(0, VR 0), (1, VI from_), (2, VI to_), (3, VI day_), (4, VI minute_)] [] m
  unfold M_chain at h
  refine s_load0 X 0 rfl dX12_chain_0 ?_
  refine s_iload_n X 1 rfl dX12_chain_1 ?_
  refine s_iload_n X 2 rfl dX12_chain_2 ?_
  refine s_iload_n X 3 rfl dX12_chain_3 ?_
  refine s_iload X 4 rfl dX12_chain_4 ?_
  obtain ⟨r_, m_, hq2, h⟩ := bq2_some h
  refine s_callV (As := [VI from_, VI to_, VI day_, VI minute_]) X cw_X12_239 SHM_0 rfl dX12_chain_6 (L_M_isAskedWrong G from_ to_ day_ minute_ m (r_, m_) hq2) rfl ⟨Nat.le_of_ble_eq_true rfl, Nat.le_of_ble_eq_true rfl⟩ ⟨Nat.le_of_ble_eq_true rfl, Nat.le_of_ble_eq_true rfl⟩ (Nat.le_of_ble_eq_true rfl) noT (kkR ?_)
  refine s_ifeq_f (tgt := 14) X dX12_chain_9 (by omega) (fun c5 => ?_) (fun c6 => ?_)
  · replace h := ite_neg h c5
    refine s_load0 X 0 rfl dX12_chain_14 ?_
    refine s_iload_n X 1 rfl dX12_chain_15 ?_
    refine s_iload_n X 3 rfl dX12_chain_16 ?_
    refine s_iload X 4 rfl dX12_chain_17 ?_
    obtain ⟨m_2, hq8, h⟩ := bnd_some h
    refine s_callV (As := [VI from_, VI day_, VI minute_]) X cw_X12_268 SHM_0 rfl dX12_chain_19 (L_M_tellRounds G from_ day_ minute_ m_ m_2 hq8) rfl ⟨Nat.le_of_ble_eq_true rfl, Nat.le_of_ble_eq_true rfl⟩ ⟨Nat.le_of_ble_eq_true rfl, Nat.le_of_ble_eq_true rfl⟩ (Nat.le_of_ble_eq_true rfl) noT (kkU ?_)
    obtain ⟨g11, h⟩ := grd_some h
    refine s_load0 X 0 rfl dX12_chain_22 ?_
    refine s_load0 X 0 rfl dX12_chain_23 ?_
    refine s_getI X fk_X12_250 SHM_0 rfl dX12_chain_24 ?_
    refine s_const X (by unfold InR; omega) dX12_chain_27 ?_
    refine s_isub X g11 dX12_chain_28 ?_
    refine s_iload_n X 2 rfl dX12_chain_29 ?_
    obtain ⟨r_2, hq12, h⟩ := bnd_some h
    refine s_callV (As := [VI (m_2 0 28 - 1), VI to_]) X cw_X12_259 SHM_0 rfl dX12_chain_30 (L_M_atBy G (m_2 0 28 - 1) to_ m_2 r_2 hq12) rfl ⟨Nat.le_of_ble_eq_true rfl, Nat.le_of_ble_eq_true rfl⟩ ⟨Nat.le_of_ble_eq_true rfl, Nat.le_of_ble_eq_true rfl⟩ (Nat.le_of_ble_eq_true rfl) noT (kkR ?_)
    obtain ⟨time_, e15, h⟩ := ltv_elim h
    refine s_istore X e15 rfl (by omega) dX12_chain_33 ?_
    refine s_load0 X 1 rfl dX12_chain_35 ?_
    have kM17 : J SHM G rm_X12_chain (.inl O) C 0 0 48 [(5, VI time_), (0, VR 0), (1, VI from_), (2, VI to_), (3, VI day_), (4, VI minute_)] [VI (if 1000000 ≤ time_ then 1 else 0), VR 0] m_2 := by
      refine s_const X (by unfold InR; omega) dX12_chain_48 ?_
      obtain ⟨r_3, m_3, hq20, h⟩ := bq2_some h
      refine s_callV (As := [VI (if 1000000 ≤ time_ then 1 else 0), VI 3]) X cw_X12_130 SHM_0 rfl dX12_chain_49 (L_M_isThrown G (if 1000000 ≤ time_ then 1 else 0) 3 m_2 (r_3, m_3) hq20) rfl ⟨Nat.le_of_ble_eq_true rfl, Nat.le_of_ble_eq_true rfl⟩ ⟨Nat.le_of_ble_eq_true rfl, Nat.le_of_ble_eq_true rfl⟩ (Nat.le_of_ble_eq_true rfl) noT (kkR ?_)
      refine s_ifeq_f (tgt := 57) X dX12_chain_52 (by omega) (fun c23 => ?_) (fun c24 => ?_)
      · replace h := ite_neg h c23
        refine s_const X (by unfold InR; omega) dX12_chain_57 ?_
        obtain ⟨many_, e26, h⟩ := ltv_elim h
        refine s_istore X e26 rfl (by omega) dX12_chain_58 ?_
        obtain ⟨many_4, hl36, h⟩ := bq1_some h
        obtain ⟨fu270, hl37⟩ := loop_iter hl36
        have KX33 : ∀ q9 : Int, q9 = many_4 → J SHM G rm_X12_chain (.inl O) C 0 0 78 [(6, VI q9), (5, VI time_), (0, VR 0), (1, VI from_), (2, VI to_), (3, VI day_), (4, VI minute_)] [] m_3 := by
          intro q9 e9
          rw [e9]
          show J SHM G rm_X12_chain (.inl O) C 0 0 78 [(6, VI many_4), (5, VI time_), (0, VR 0), (1, VI from_), (2, VI to_), (3, VI day_), (4, VI minute_)] [] m_3
          refine s_load0 X 2 rfl dX12_chain_78 ?_
          refine s_iload X 0 rfl dX12_chain_79 ?_
          obtain ⟨m_4, e47, h⟩ := ltv_elim h
          refine s_putI X e47 fp_X12_72 SHM_0 rfl trivial dX12_chain_81 ?_
          refine s_iload_n X 4 rfl dX12_chain_84 ?_
          obtain ⟨stop_, e49, h⟩ := ltv_elim h
          refine s_istore X e49 rfl (by omega) dX12_chain_85 ?_
          refine s_const X (by unfold InR; omega) dX12_chain_87 ?_
          obtain ⟨isEnd_, e51, h⟩ := ltv_elim h
          refine s_istore X e51 rfl (by omega) dX12_chain_88 ?_
          obtain ⟨g52, h⟩ := grd_some h
          refine s_iload X 2 rfl dX12_chain_90 ?_
          refine s_const X (by unfold InR; omega) dX12_chain_92 ?_
          refine s_isub X g52 dX12_chain_93 ?_
          obtain ⟨k_, e53, h⟩ := ltv_elim h
          refine s_istore X e53 rfl (by omega) dX12_chain_94 ?_
          obtain ⟨time_4, stop_4, isEnd_4, k_4, m_7, hl63, h⟩ := bq5_some h
          obtain ⟨fu540, hl64⟩ := loop_iter hl63
          have KX60 : ∀ q9 : Int × Int × Int × Int × Mem, q9 = (time_4, stop_4, isEnd_4, k_4, m_7) → J SHM G rm_X12_chain (.inl O) C 0 0 162 [(9, VI q9.2.2.2.1), (8, VI q9.2.2.1), (7, VI q9.2.1), (6, VI many_4), (5, VI q9.1), (0, VR 0), (1, VI from_), (2, VI to_), (3, VI day_), (4, VI minute_)] [] (q9.2.2.2.2) := by
            intro q9 e9
            subst e9
            show J SHM G rm_X12_chain (.inl O) C 0 0 162 [(9, VI k_4), (8, VI isEnd_4), (7, VI stop_4), (6, VI many_4), (5, VI time_4), (0, VR 0), (1, VI from_), (2, VI to_), (3, VI day_), (4, VI minute_)] [] m_7
            refine s_load0 X 5 rfl dX12_chain_162 ?_
            refine s_getI X fk_X12_72 SHM_0 rfl dX12_chain_163 ?_
            exact s_iret X (Nat.le_of_ble_eq_true rfl) (Nat.le_of_ble_eq_true rfl) (by cases h; exact hO) dX12_chain_166
          have LP59 : ∀ (fu54 : Nat) (time_2 : Int) (stop_2 : Int) (isEnd_2 : Int) (k_2 : Int) (m_5 : Mem), iter (fun s => M_chain_b2 s.1 s.2.1 s.2.2.1 s.2.2.2.1 s.2.2.2.2) fu54 (time_2, stop_2, isEnd_2, k_2, m_5) = some (time_4, stop_4, isEnd_4, k_4, m_7) → J SHM G rm_X12_chain (.inl O) C 0 0 96 [(9, VI k_2), (8, VI isEnd_2), (7, VI stop_2), (6, VI many_4), (5, VI time_2), (0, VR 0), (1, VI from_), (2, VI to_), (3, VI day_), (4, VI minute_)] [] m_5 := by
            intro fu54
            induction fu54 with
            | zero => intro time_2 stop_2 isEnd_2 k_2 m_5 hn55; exact absurd hn55 (by simp [iter])
            | succ fu54 ih58 =>
              intro time_2 stop_2 isEnd_2 k_2 m_5 hn55
              obtain ⟨x56, h, hc57⟩ := iter_succ hn55
              replace h : M_chain_b2 time_2 stop_2 isEnd_2 k_2 m_5 = some x56 := h
              unfold M_chain_b2 at h
              refine s_iload X 0 rfl dX12_chain_96 ?_
              refine s_iflt_f (tgt := 162) X dX12_chain_98 (by omega) (fun c68 => ?_) (fun c69 => ?_)
              · replace h := ite_neg h c68
                exact KX60 _ (iter_exit h hc57)
              · replace h := ite_pos h c69
                refine s_load0 X 5 rfl dX12_chain_101 ?_
                refine s_iload X 0 rfl dX12_chain_102 ?_
                refine s_iload X 2 rfl dX12_chain_104 ?_
                refine s_iload X 4 rfl dX12_chain_106 ?_
                refine s_iload X 1 rfl dX12_chain_108 ?_
                obtain ⟨m_6, hq71, h⟩ := bnd_some h
                refine s_callV (As := [VI k_2, VI stop_2, VI time_2, VI isEnd_2]) X cw_X12_275 SHM_0 rfl dX12_chain_110 (L_M_findRide G k_2 stop_2 time_2 isEnd_2 m_5 m_6 hq71) rfl ⟨Nat.le_of_ble_eq_true rfl, Nat.le_of_ble_eq_true rfl⟩ ⟨Nat.le_of_ble_eq_true rfl, Nat.le_of_ble_eq_true rfl⟩ (Nat.le_of_ble_eq_true rfl) noT (kkU ?_)
                obtain ⟨g74, h⟩ := grd_some h
                refine s_load0 X 5 rfl dX12_chain_113 ?_
                refine s_load0 X 5 rfl dX12_chain_114 ?_
                refine s_getR (id := 19) X fk_X12_75 SHM_0 rfl dX12_chain_115 ?_
                refine s_iload X 0 rfl dX12_chain_118 ?_
                refine s_iald X SHM_19 g74.1 g74.2 dX12_chain_120 ?_
                refine s_load0 X 5 rfl dX12_chain_121 ?_
                refine s_getR (id := 20) X fk_X12_78 SHM_0 rfl dX12_chain_122 ?_
                refine s_iload X 0 rfl dX12_chain_125 ?_
                refine s_iald X SHM_20 g74.1 g74.2 dX12_chain_127 ?_
                obtain ⟨r_5, hq75, h⟩ := bnd_some h
                refine s_callV (As := [VI (m_6 19 k_2.toNat), VI (m_6 20 k_2.toNat)]) X cw_X12_214 SHM_0 rfl dX12_chain_128 (L_M_stopIn G (m_6 19 k_2.toNat) (m_6 20 k_2.toNat) m_6 r_5 hq75) rfl ⟨Nat.le_of_ble_eq_true rfl, Nat.le_of_ble_eq_true rfl⟩ ⟨Nat.le_of_ble_eq_true rfl, Nat.le_of_ble_eq_true rfl⟩ (Nat.le_of_ble_eq_true rfl) noT (kkR ?_)
                obtain ⟨stop_3, e78, h⟩ := ltv_elim h
                refine s_istore X e78 rfl (by omega) dX12_chain_131 ?_
                refine s_load0 X 5 rfl dX12_chain_133 ?_
                refine s_load0 X 5 rfl dX12_chain_134 ?_
                refine s_getR (id := 19) X fk_X12_75 SHM_0 rfl dX12_chain_135 ?_
                refine s_iload X 1 rfl dX12_chain_138 ?_
                refine s_iald X SHM_19 g74.1 g74.2 dX12_chain_140 ?_
                refine s_load0 X 5 rfl dX12_chain_141 ?_
                refine s_getR (id := 20) X fk_X12_78 SHM_0 rfl dX12_chain_142 ?_
                refine s_iload X 1 rfl dX12_chain_145 ?_
                refine s_iald X SHM_20 g74.1 g74.2 dX12_chain_147 ?_
                obtain ⟨r_6, hq80, h⟩ := bnd_some h
                refine s_callV (As := [VI (m_6 19 k_2.toNat), VI (m_6 20 k_2.toNat)]) X cw_X12_223 SHM_0 rfl dX12_chain_148 (L_M_leavesAt G (m_6 19 k_2.toNat) (m_6 20 k_2.toNat) m_6 r_6 hq80) rfl ⟨Nat.le_of_ble_eq_true rfl, Nat.le_of_ble_eq_true rfl⟩ ⟨Nat.le_of_ble_eq_true rfl, Nat.le_of_ble_eq_true rfl⟩ (Nat.le_of_ble_eq_true rfl) noT (kkR ?_)
                obtain ⟨time_3, e83, h⟩ := ltv_elim h
                refine s_istore X e83 rfl (by omega) dX12_chain_151 ?_
                refine s_const X (by unfold InR; omega) dX12_chain_153 ?_
                obtain ⟨isEnd_3, e85, h⟩ := ltv_elim h
                refine s_istore X e85 rfl (by omega) dX12_chain_154 ?_
                obtain ⟨g86, h⟩ := grd_some h
                obtain ⟨k_3, e87, h⟩ := ltv_elim h
                refine s_iinc X 3 rfl g86 e87 rfl (by omega) dX12_chain_156 ?_
                refine s_goto (tgt := 96) X dX12_chain_159 (by omega) ?_
                refine s_loc [0, 1, 3, 4, 2, 5, 6, 7, 8, 9] rfl ?_
                exact ih58 _ _ _ _ _ (iter_next h hc57)
          exact LP59 _ _ _ _ _ _ hl64
        have LP32 : ∀ (fu27 : Nat) (many_2 : Int), iter (fun s => M_chain_b1 to_ time_ m_3 s) fu27 many_2 = some many_4 → J SHM G rm_X12_chain (.inl O) C 0 0 60 [(6, VI many_2), (5, VI time_), (0, VR 0), (1, VI from_), (2, VI to_), (3, VI day_), (4, VI minute_)] [] m_3 := by
          intro fu27
          induction fu27 with
          | zero => intro many_2 hn28; exact absurd hn28 (by simp [iter])
          | succ fu27 ih31 =>
            intro many_2 hn28
            obtain ⟨x29, h, hc30⟩ := iter_succ hn28
            replace h : M_chain_b1 to_ time_ m_3 many_2 = some x29 := h
            unfold M_chain_b1 at h
            refine s_load0 X 2 rfl dX12_chain_60 ?_
            refine s_iload X 0 rfl dX12_chain_61 ?_
            refine s_iload_n X 4 rfl dX12_chain_63 ?_
            obtain ⟨r_4, hq39, h⟩ := bnd_some h
            refine s_callV (As := [VI many_2, VI to_]) X cw_X12_259 SHM_0 rfl dX12_chain_64 (L_M_atBy G many_2 to_ m_3 r_4 hq39) rfl ⟨Nat.le_of_ble_eq_true rfl, Nat.le_of_ble_eq_true rfl⟩ ⟨Nat.le_of_ble_eq_true rfl, Nat.le_of_ble_eq_true rfl⟩ (Nat.le_of_ble_eq_true rfl) noT (kkR ?_)
            refine s_iload X 1 rfl dX12_chain_67 ?_
            refine s_icmple_f (tgt := 78) X dX12_chain_69 (by omega) (fun c42 => ?_) (fun c43 => ?_)
            · replace h := ite_neg h c42
              exact KX33 _ (iter_exit h hc30)
            · replace h := ite_pos h c43
              obtain ⟨g44, h⟩ := grd_some h
              obtain ⟨many_3, e45, h⟩ := ltv_elim h
              refine s_iinc X 0 rfl g44 e45 rfl (by omega) dX12_chain_72 ?_
              refine s_goto (tgt := 60) X dX12_chain_75 (by omega) ?_
              exact ih31 _ (iter_next h hc30)
        exact LP32 _ _ hl37
      · replace h := ite_pos h c24
        refine s_const X (by unfold InR; omega) dX12_chain_55 ?_
        exact s_iret X (Nat.le_of_ble_eq_true rfl) (Nat.le_of_ble_eq_true rfl) (by cases h; exact hO) dX12_chain_56
    refine s_iload X 0 rfl dX12_chain_36 ?_
    refine s_ldc (z := 1000000) X (by unfold InR; omega) kc_X12_150 dX12_chain_38 ?_
    refine s_icmplt_f (tgt := 47) X dX12_chain_40 (by omega) (fun c18 => ?_) (fun c19 => ?_)
    · refine s_const X (by unfold InR; omega) dX12_chain_47 ?_
      exact s_eqt (if_neg c18) kM17
    · refine s_const X (by unfold InR; omega) dX12_chain_43 ?_
      refine s_goto (tgt := 48) X dX12_chain_44 (by omega) ?_
      exact s_eqt (if_pos c19) kM17
  · replace h := ite_pos h c6
    refine s_const X (by unfold InR; omega) dX12_chain_12 ?_
    exact s_iret X (Nat.le_of_ble_eq_true rfl) (Nat.le_of_ble_eq_true rfl) (by cases h; exact hO) dX12_chain_13
set_option maxRecDepth 20000 in
set_option maxHeartbeats 4000000 in
theorem L_M_ride (G : Gl) (index_ : Int) (what_ : Int) (m : Mem) (r : (Int × Mem))  (h : M_ride index_ what_ m = some r) : Con SHM G yX12_ride cX12_ride 3 (some .int) rm_X12_ride [VR 0, VI index_, VI what_] m (((.inl (some (VI r.1)), r.2) : Res × Mem)) := by
  refine con_of (own := "LastbusModel") (by decide) rfl (Nat.le_of_ble_eq_true rfl) (fun C X => ?_)
  obtain ⟨O, hO⟩ : ∃ O : Res × Mem, O = (((.inl (some (VI r.1)), r.2) : Res × Mem)) := ⟨_, rfl⟩
  rw [← hO]
  show J SHM G rm_X12_ride (.inl O) C 0 0 0 [(0, VR 0), (1, VI index_), (2, VI what_)] [] m
  unfold M_ride at h
  refine s_load0 X 0 rfl dX12_ride_0 ?_
  have kM2 : J SHM G rm_X12_ride (.inl O) C 0 0 30 [(0, VR 0), (1, VI index_), (2, VI what_)] [VI (if (((¬ what_ = 116) ∧ (¬ what_ = 100)) ∧ (¬ what_ = 111)) ∧ (¬ what_ = 102) then 1 else 0), VR 0] m := by
    refine s_const X (by unfold InR; omega) dX12_ride_30 ?_
    obtain ⟨r_, m_, hq14, h⟩ := bq2_some h
    refine s_callV (As := [VI (if (((¬ what_ = 116) ∧ (¬ what_ = 100)) ∧ (¬ what_ = 111)) ∧ (¬ what_ = 102) then 1 else 0), VI 1]) X cw_X12_130 SHM_0 rfl dX12_ride_31 (L_M_isThrown G (if (((¬ what_ = 116) ∧ (¬ what_ = 100)) ∧ (¬ what_ = 111)) ∧ (¬ what_ = 102) then 1 else 0) 1 m (r_, m_) hq14) rfl ⟨Nat.le_of_ble_eq_true rfl, Nat.le_of_ble_eq_true rfl⟩ ⟨Nat.le_of_ble_eq_true rfl, Nat.le_of_ble_eq_true rfl⟩ (Nat.le_of_ble_eq_true rfl) noT (kkR ?_)
    refine s_ifne_t (tgt := 64) X dX12_ride_34 (by omega) (fun c17 => ?_) (fun c18 => ?_)
    · replace h := ite_pos h c17
      refine s_const X (by unfold InR; omega) dX12_ride_64 ?_
      exact s_iret X (Nat.le_of_ble_eq_true rfl) (Nat.le_of_ble_eq_true rfl) (by cases h; exact hO) dX12_ride_65
    · replace h := ite_neg h c18
      obtain ⟨g20, h⟩ := grd_some h
      refine s_load0 X 0 rfl dX12_ride_37 ?_
      have kM21 : J SHM G rm_X12_ride (.inl O) C 0 0 57 [(0, VR 0), (1, VI index_), (2, VI what_)] [VI (if M_isIn index_ 0 (m_ 0 29 - 1) = 0 then 1 else 0), VR 0] m_ := by
        refine s_const X (by unfold InR; omega) dX12_ride_57 ?_
        obtain ⟨r_2, m_2, hq24, h⟩ := bq2_some h
        refine s_callV (As := [VI (if M_isIn index_ 0 (m_ 0 29 - 1) = 0 then 1 else 0), VI 2]) X cw_X12_130 SHM_0 rfl dX12_ride_58 (L_M_isThrown G (if M_isIn index_ 0 (m_ 0 29 - 1) = 0 then 1 else 0) 2 m_ (r_2, m_2) hq24) rfl ⟨Nat.le_of_ble_eq_true rfl, Nat.le_of_ble_eq_true rfl⟩ ⟨Nat.le_of_ble_eq_true rfl, Nat.le_of_ble_eq_true rfl⟩ (Nat.le_of_ble_eq_true rfl) noT (kkR ?_)
        refine s_ifeq_f (tgt := 66) X dX12_ride_61 (by omega) (fun c27 => ?_) (fun c28 => ?_)
        · replace h := ite_neg h c27
          obtain ⟨g29, h⟩ := grd_some h
          have kM30 : J SHM G rm_X12_ride (.inl O) C 0 0 125 [(0, VR 0), (1, VI index_), (2, VI what_)] [VI (if what_ = 116 then (m_2 19 index_.toNat).tmod 24 else (if what_ = 100 then (m_2 19 index_.toNat).tdiv 24 - 1 else (if what_ = 111 then m_2 20 index_.toNat else m_2 21 index_.toNat)))] m_2 := by
            exact s_iret X (Nat.le_of_ble_eq_true rfl) (Nat.le_of_ble_eq_true rfl) (by cases h; exact hO) dX12_ride_125
          refine s_iload_n X 2 rfl dX12_ride_66 ?_
          refine s_bipush X (by omega) dX12_ride_67 ?_
          refine s_icmpne_f (tgt := 84) X dX12_ride_69 (by omega) (fun c31 => ?_) (fun c32 => ?_)
          · have kM33 : J SHM G rm_X12_ride (.inl O) C 0 0 125 [(0, VR 0), (1, VI index_), (2, VI what_)] [VI (if what_ = 100 then (m_2 19 index_.toNat).tdiv 24 - 1 else (if what_ = 111 then m_2 20 index_.toNat else m_2 21 index_.toNat))] m_2 := by
              exact s_eqt (if_neg c31) kM30
            refine s_iload_n X 2 rfl dX12_ride_84 ?_
            refine s_bipush X (by omega) dX12_ride_85 ?_
            refine s_icmpne_f (tgt := 104) X dX12_ride_87 (by omega) (fun c34 => ?_) (fun c35 => ?_)
            · have kM36 : J SHM G rm_X12_ride (.inl O) C 0 0 125 [(0, VR 0), (1, VI index_), (2, VI what_)] [VI (if what_ = 111 then m_2 20 index_.toNat else m_2 21 index_.toNat)] m_2 := by
                exact s_eqt (if_neg c34) kM33
              refine s_iload_n X 2 rfl dX12_ride_104 ?_
              refine s_bipush X (by omega) dX12_ride_105 ?_
              refine s_icmpne_f (tgt := 119) X dX12_ride_107 (by omega) (fun c37 => ?_) (fun c38 => ?_)
              · refine s_load0 X 0 rfl dX12_ride_119 ?_
                refine s_getR (id := 21) X fk_X12_81 SHM_0 rfl dX12_ride_120 ?_
                refine s_iload_n X 1 rfl dX12_ride_123 ?_
                refine s_iald X SHM_21 (g29.1 c31 c34 c37) (g29.2.1 c31 c34 c37) dX12_ride_124 ?_
                exact s_eqt (if_neg c37) kM36
              · refine s_load0 X 0 rfl dX12_ride_110 ?_
                refine s_getR (id := 20) X fk_X12_78 SHM_0 rfl dX12_ride_111 ?_
                refine s_iload_n X 1 rfl dX12_ride_114 ?_
                refine s_iald X SHM_20 (g29.2.2.1 c31 c34 c38) (g29.2.2.2.1 c31 c34 c38) dX12_ride_115 ?_
                refine s_goto (tgt := 125) X dX12_ride_116 (by omega) ?_
                exact s_eqt (if_pos c38) kM36
            · refine s_load0 X 0 rfl dX12_ride_90 ?_
              refine s_getR (id := 19) X fk_X12_75 SHM_0 rfl dX12_ride_91 ?_
              refine s_iload_n X 1 rfl dX12_ride_94 ?_
              refine s_iald X SHM_19 (g29.2.2.2.2.1 c31 c35) (g29.2.2.2.2.2.1 c31 c35) dX12_ride_95 ?_
              refine s_bipush X (by omega) dX12_ride_96 ?_
              refine s_idiv X (by omega) dX12_ride_98 ?_
              refine s_const X (by unfold InR; omega) dX12_ride_99 ?_
              refine s_isub X (g29.2.2.2.2.2.2.1 c31 c35) dX12_ride_100 ?_
              refine s_goto (tgt := 125) X dX12_ride_101 (by omega) ?_
              exact s_eqt (if_pos c35) kM33
          · refine s_load0 X 0 rfl dX12_ride_72 ?_
            refine s_getR (id := 19) X fk_X12_75 SHM_0 rfl dX12_ride_73 ?_
            refine s_iload_n X 1 rfl dX12_ride_76 ?_
            refine s_iald X SHM_19 (g29.2.2.2.2.2.2.2.1 c32) (g29.2.2.2.2.2.2.2.2 c32) dX12_ride_77 ?_
            refine s_bipush X (by omega) dX12_ride_78 ?_
            refine s_irem X (by omega) dX12_ride_80 ?_
            refine s_goto (tgt := 125) X dX12_ride_81 (by omega) ?_
            exact s_eqt (if_pos c32) kM30
        · replace h := ite_pos h c28
          refine s_const X (by unfold InR; omega) dX12_ride_64 ?_
          exact s_iret X (Nat.le_of_ble_eq_true rfl) (Nat.le_of_ble_eq_true rfl) (by cases h; exact hO) dX12_ride_65
      refine s_iload_n X 1 rfl dX12_ride_38 ?_
      refine s_const X (by unfold InR; omega) dX12_ride_39 ?_
      refine s_load0 X 0 rfl dX12_ride_40 ?_
      refine s_getI X fk_X12_72 SHM_0 rfl dX12_ride_41 ?_
      refine s_const X (by unfold InR; omega) dX12_ride_44 ?_
      refine s_isub X g20 dX12_ride_45 ?_
      refine s_callS (As := [VI index_, VI 0, VI (m_ 0 29 - 1)]) X cw_X12_126 dX12_ride_46 (L_M_isIn G index_ 0 (m_ 0 29 - 1) m_) rfl ⟨Nat.le_of_ble_eq_true rfl, Nat.le_of_ble_eq_true rfl⟩ ⟨Nat.le_of_ble_eq_true rfl, Nat.le_of_ble_eq_true rfl⟩ (Nat.le_of_ble_eq_true rfl) noT (kkR ?_)
      refine s_ifne_f (tgt := 56) X dX12_ride_49 (by omega) (fun c22 => ?_) (fun c23 => ?_)
      · refine s_const X (by unfold InR; omega) dX12_ride_56 ?_
        exact s_eqt (if_neg c22) kM21
      · refine s_const X (by unfold InR; omega) dX12_ride_52 ?_
        refine s_goto (tgt := 57) X dX12_ride_53 (by omega) ?_
        exact s_eqt (if_pos c23) kM21
  refine s_iload_n X 2 rfl dX12_ride_1 ?_
  refine s_bipush X (by omega) dX12_ride_2 ?_
  refine s_icmpeq_f (tgt := 29) X dX12_ride_4 (by omega) (fun c3 => ?_) (fun c4 => ?_)
  · refine s_const X (by unfold InR; omega) dX12_ride_29 ?_
    exact s_eqt (if_neg (fun q => (fun q => (fun q => c3 q.1) q.1) q.1)) kM2
  · have a5 : ¬ what_ = 116 := c4
    refine s_iload_n X 2 rfl dX12_ride_7 ?_
    refine s_bipush X (by omega) dX12_ride_8 ?_
    refine s_icmpeq_f (tgt := 29) X dX12_ride_10 (by omega) (fun c6 => ?_) (fun c7 => ?_)
    · refine s_const X (by unfold InR; omega) dX12_ride_29 ?_
      exact s_eqt (if_neg (fun q => (fun q => (fun q => c6 q.2) q.1) q.1)) kM2
    · have a8 : (¬ what_ = 116) ∧ (¬ what_ = 100) := ⟨a5, c7⟩
      refine s_iload_n X 2 rfl dX12_ride_13 ?_
      refine s_bipush X (by omega) dX12_ride_14 ?_
      refine s_icmpeq_f (tgt := 29) X dX12_ride_16 (by omega) (fun c9 => ?_) (fun c10 => ?_)
      · refine s_const X (by unfold InR; omega) dX12_ride_29 ?_
        exact s_eqt (if_neg (fun q => (fun q => c9 q.2) q.1)) kM2
      · have a11 : ((¬ what_ = 116) ∧ (¬ what_ = 100)) ∧ (¬ what_ = 111) := ⟨a8, c10⟩
        refine s_iload_n X 2 rfl dX12_ride_19 ?_
        refine s_bipush X (by omega) dX12_ride_20 ?_
        refine s_icmpeq_f (tgt := 29) X dX12_ride_22 (by omega) (fun c12 => ?_) (fun c13 => ?_)
        · refine s_const X (by unfold InR; omega) dX12_ride_29 ?_
          exact s_eqt (if_neg (fun q => c12 q.2)) kM2
        · refine s_const X (by unfold InR; omega) dX12_ride_25 ?_
          refine s_goto (tgt := 30) X dX12_ride_26 (by omega) ?_
          exact s_eqt (if_pos ⟨a11, c13⟩) kM2
set_option maxRecDepth 20000 in
set_option maxHeartbeats 4000000 in
theorem L_M_leaveBefore (G : Gl) (from_ : Int) (ahead_ : Int) (m : Mem) (r : Int)  (h : M_leaveBefore from_ ahead_ m = some r) : Con SHM G yX12_leaveBefore cX12_leaveBefore 8 (some .int) rm_X12_leaveBefore [VR 0, VI from_, VI ahead_] m (((.inl (some (VI r)), m) : Res × Mem)) := by
  refine con_of (own := "LastbusModel") (by decide) rfl (Nat.le_of_ble_eq_true rfl) (fun C X => ?_)
  obtain ⟨O, hO⟩ : ∃ O : Res × Mem, O = (((.inl (some (VI r)), m) : Res × Mem)) := ⟨_, rfl⟩
  rw [← hO]
  show J SHM G rm_X12_leaveBefore (.inl O) C 0 0 0 [(0, VR 0), (1, VI from_), (2, VI ahead_)] [] m
  unfold M_leaveBefore at h
  refine s_const X (by unfold InR; omega) dX12_leaveBefore_0 ?_
  obtain ⟨greatest_, e2, h⟩ := ltv_elim h
  refine s_istore_n X e2 rfl (by omega) dX12_leaveBefore_1 ?_
  refine s_const X (by unfold InR; omega) dX12_leaveBefore_2 ?_
  obtain ⟨run_, e4, h⟩ := ltv_elim h
  refine s_istore X e4 rfl (by omega) dX12_leaveBefore_3 ?_
  obtain ⟨greatest_6, run_4, hl14, h⟩ := bq2_some h
  obtain ⟨fu50, hl15⟩ := loop_iter hl14
  have KX11 : ∀ q9 : Int × Int, q9 = (greatest_6, run_4) → J SHM G rm_X12_leaveBefore (.inl O) C 0 0 115 [(4, VI q9.2), (3, VI q9.1), (0, VR 0), (1, VI from_), (2, VI ahead_)] [] m := by
    intro q9 e9
    subst e9
    show J SHM G rm_X12_leaveBefore (.inl O) C 0 0 115 [(4, VI run_4), (3, VI greatest_6), (0, VR 0), (1, VI from_), (2, VI ahead_)] [] m
    refine s_iload_n X 1 rfl dX12_leaveBefore_115 ?_
    exact s_iret X (Nat.le_of_ble_eq_true rfl) (Nat.le_of_ble_eq_true rfl) (by cases h; exact hO) dX12_leaveBefore_116
  have LP10 : ∀ (fu5 : Nat) (greatest_2 : Int) (run_2 : Int), iter (fun s => M_leaveBefore_b1 from_ ahead_ m s.1 s.2) fu5 (greatest_2, run_2) = some (greatest_6, run_4) → J SHM G rm_X12_leaveBefore (.inl O) C 0 0 5 [(4, VI run_2), (3, VI greatest_2), (0, VR 0), (1, VI from_), (2, VI ahead_)] [] m := by
    intro fu5
    induction fu5 with
    | zero => intro greatest_2 run_2 hn6; exact absurd hn6 (by simp [iter])
    | succ fu5 ih9 =>
      intro greatest_2 run_2 hn6
      obtain ⟨x7, h, hc8⟩ := iter_succ hn6
      replace h : M_leaveBefore_b1 from_ ahead_ m greatest_2 run_2 = some x7 := h
      unfold M_leaveBefore_b1 at h
      refine s_iload X 0 rfl dX12_leaveBefore_5 ?_
      refine s_bipush X (by omega) dX12_leaveBefore_7 ?_
      refine s_icmpge_f (tgt := 115) X dX12_leaveBefore_9 (by omega) (fun c19 => ?_) (fun c20 => ?_)
      · replace h := ite_neg h c19
        exact KX11 _ (iter_exit h hc8)
      · replace h := ite_pos h c20
        refine s_const X (by unfold InR; omega) dX12_leaveBefore_12 ?_
        obtain ⟨c_, e22, h⟩ := ltv_elim h
        refine s_istore X e22 rfl (by omega) dX12_leaveBefore_13 ?_
        obtain ⟨greatest_5, c_4, hl32, h⟩ := bq2_some h
        obtain ⟨fu230, hl33⟩ := loop_iter hl32
        have KX29 : ∀ q9 : Int × Int, q9 = (greatest_5, c_4) → J SHM G rm_X12_leaveBefore (.inl O) C 0 0 109 [(5, VI q9.2), (4, VI run_2), (3, VI q9.1), (0, VR 0), (1, VI from_), (2, VI ahead_)] [] m := by
          intro q9 e9
          subst e9
          show J SHM G rm_X12_leaveBefore (.inl O) C 0 0 109 [(5, VI c_4), (4, VI run_2), (3, VI greatest_5), (0, VR 0), (1, VI from_), (2, VI ahead_)] [] m
          obtain ⟨g71, h⟩ := grd_some h
          obtain ⟨run_3, e72, h⟩ := ltv_elim h
          refine s_iinc X 1 rfl g71 e72 rfl (by omega) dX12_leaveBefore_109 ?_
          refine s_goto (tgt := 5) X dX12_leaveBefore_112 (by omega) ?_
          refine s_loc [0, 2, 3, 4, 5] rfl ?_
          exact ih9 _ _ (iter_next h hc8)
        have LP28 : ∀ (fu23 : Nat) (greatest_3 : Int) (c_2 : Int), iter (fun s => M_leaveBefore_b2 from_ ahead_ m run_2 s.1 s.2) fu23 (greatest_3, c_2) = some (greatest_5, c_4) → J SHM G rm_X12_leaveBefore (.inl O) C 0 0 15 [(5, VI c_2), (4, VI run_2), (3, VI greatest_3), (0, VR 0), (1, VI from_), (2, VI ahead_)] [] m := by
          intro fu23
          induction fu23 with
          | zero => intro greatest_3 c_2 hn24; exact absurd hn24 (by simp [iter])
          | succ fu23 ih27 =>
            intro greatest_3 c_2 hn24
            obtain ⟨x25, h, hc26⟩ := iter_succ hn24
            replace h : M_leaveBefore_b2 from_ ahead_ m run_2 greatest_3 c_2 = some x25 := h
            unfold M_leaveBefore_b2 at h
            refine s_load0 X 3 rfl dX12_leaveBefore_15 ?_
            refine s_iload X 1 rfl dX12_leaveBefore_16 ?_
            obtain ⟨r_, hq35, h⟩ := bnd_some h
            refine s_callV (As := [VI run_2]) X cw_X12_208 SHM_0 rfl dX12_leaveBefore_18 (L_M_isRun G run_2 m r_ hq35) rfl ⟨Nat.le_of_ble_eq_true rfl, Nat.le_of_ble_eq_true rfl⟩ ⟨Nat.le_of_ble_eq_true rfl, Nat.le_of_ble_eq_true rfl⟩ (Nat.le_of_ble_eq_true rfl) noT (kkR ?_)
            refine s_ifeq_f (tgt := 109) X dX12_leaveBefore_21 (by omega) (fun c38 => ?_) (fun c39 => ?_)
            · replace h := ite_neg h c38
              exact KX29 _ (iter_exit h hc26)
            · replace h := ite_pos h c39
              obtain ⟨g40, h⟩ := grd_some h
              refine s_iload X 0 rfl dX12_leaveBefore_24 ?_
              refine s_const X (by unfold InR; omega) dX12_leaveBefore_26 ?_
              refine s_iadd X g40.1 dX12_leaveBefore_27 ?_
              refine s_load0 X 3 rfl dX12_leaveBefore_28 ?_
              refine s_getR (id := 6) X fk_X12_30 SHM_0 rfl dX12_leaveBefore_29 ?_
              refine s_iload X 1 rfl dX12_leaveBefore_32 ?_
              refine s_bipush X (by omega) dX12_leaveBefore_34 ?_
              refine s_irem X (by omega) dX12_leaveBefore_36 ?_
              refine s_iald X SHM_6 g40.2.1 g40.2.2 dX12_leaveBefore_37 ?_
              refine s_icmpge_f (tgt := 109) X dX12_leaveBefore_38 (by omega) (fun c43 => ?_) (fun c44 => ?_)
              · replace h := ite_neg h c43
                exact KX29 _ (iter_exit h hc26)
              · replace h := ite_pos h c44
                refine s_load0 X 3 rfl dX12_leaveBefore_41 ?_
                refine s_iload X 1 rfl dX12_leaveBefore_42 ?_
                refine s_iload X 0 rfl dX12_leaveBefore_44 ?_
                obtain ⟨r_2, hq46, h⟩ := bnd_some h
                refine s_callV (As := [VI run_2, VI c_2]) X cw_X12_223 SHM_0 rfl dX12_leaveBefore_46 (L_M_leavesAt G run_2 c_2 m r_2 hq46) rfl ⟨Nat.le_of_ble_eq_true rfl, Nat.le_of_ble_eq_true rfl⟩ ⟨Nat.le_of_ble_eq_true rfl, Nat.le_of_ble_eq_true rfl⟩ (Nat.le_of_ble_eq_true rfl) noT (kkR ?_)
                obtain ⟨time_, e49, h⟩ := ltv_elim h
                refine s_istore X e49 rfl (by omega) dX12_leaveBefore_49 ?_
                obtain ⟨g50, h⟩ := grd_some h
                refine s_iload X 0 rfl dX12_leaveBefore_51 ?_
                refine s_load0 X 4 rfl dX12_leaveBefore_53 ?_
                refine s_getR (id := 3) X fk_X12_16 SHM_0 rfl dX12_leaveBefore_54 ?_
                refine s_bipush X (by omega) dX12_leaveBefore_57 ?_
                refine s_iload_n X 5 rfl dX12_leaveBefore_59 ?_
                refine s_imul X g50 dX12_leaveBefore_60 ?_
                refine s_load0 X 4 rfl dX12_leaveBefore_61 ?_
                refine s_iload X 2 rfl dX12_leaveBefore_62 ?_
                refine s_iload X 1 rfl dX12_leaveBefore_64 ?_
                obtain ⟨r_3, hq51, h⟩ := bnd_some h
                refine s_callV (As := [VI run_2, VI c_2]) X cw_X12_214 SHM_0 rfl dX12_leaveBefore_66 (L_M_stopIn G run_2 c_2 m r_3 hq51) rfl ⟨Nat.le_of_ble_eq_true rfl, Nat.le_of_ble_eq_true rfl⟩ ⟨Nat.le_of_ble_eq_true rfl, Nat.le_of_ble_eq_true rfl⟩ (Nat.le_of_ble_eq_true rfl) noT (kkR ?_)
                obtain ⟨g53, h⟩ := grd_some h
                refine s_iadd X g53.1 dX12_leaveBefore_69 ?_
                refine s_iald X SHM_3 g53.2.1 g53.2.2.1 dX12_leaveBefore_70 ?_
                refine s_isub X g53.2.2.2 dX12_leaveBefore_71 ?_
                obtain ⟨leave_, e54, h⟩ := ltv_elim h
                refine s_istore X e54 rfl (by omega) dX12_leaveBefore_72 ?_
                have kM56 : J SHM G rm_X12_leaveBefore (.inl O) C 0 0 102 [(7, VI leave_), (6, VI time_), (5, VI c_2), (4, VI run_2), (3, VI greatest_3), (0, VR 0), (1, VI from_), (2, VI ahead_)] [VI (if (((0 ≤ time_) ∧ (0 ≤ leave_)) ∧ (leave_ < ahead_)) ∧ (greatest_3 < leave_) then leave_ else greatest_3)] m := by
                  obtain ⟨greatest_4, e68, h⟩ := ltv_elim h
                  refine s_istore_n X e68 rfl (by omega) dX12_leaveBefore_102 ?_
                  obtain ⟨c_3, e70, h⟩ := ltv_elim h
                  refine s_iinc X 3 rfl g40.1 e70 rfl (by omega) dX12_leaveBefore_103 ?_
                  refine s_goto (tgt := 15) X dX12_leaveBefore_106 (by omega) ?_
                  refine s_loc [0, 4, 1, 5, 6, 7] rfl ?_
                  exact ih27 _ _ (iter_next h hc26)
                refine s_iload X 1 rfl dX12_leaveBefore_74 ?_
                refine s_iflt_f (tgt := 101) X dX12_leaveBefore_76 (by omega) (fun c57 => ?_) (fun c58 => ?_)
                · refine s_iload_n X 4 rfl dX12_leaveBefore_101 ?_
                  exact s_eqt (if_neg (fun q => (fun q => (fun q => c57 q.1) q.1) q.1)) kM56
                · have a59 : 0 ≤ time_ := c58
                  refine s_iload X 0 rfl dX12_leaveBefore_79 ?_
                  refine s_iflt_f (tgt := 101) X dX12_leaveBefore_81 (by omega) (fun c60 => ?_) (fun c61 => ?_)
                  · refine s_iload_n X 4 rfl dX12_leaveBefore_101 ?_
                    exact s_eqt (if_neg (fun q => (fun q => (fun q => c60 q.2) q.1) q.1)) kM56
                  · have a62 : (0 ≤ time_) ∧ (0 ≤ leave_) := ⟨a59, c61⟩
                    refine s_iload X 0 rfl dX12_leaveBefore_84 ?_
                    refine s_iload_n X 7 rfl dX12_leaveBefore_86 ?_
                    refine s_icmpge_f (tgt := 101) X dX12_leaveBefore_87 (by omega) (fun c63 => ?_) (fun c64 => ?_)
                    · refine s_iload_n X 4 rfl dX12_leaveBefore_101 ?_
                      exact s_eqt (if_neg (fun q => (fun q => c63 q.2) q.1)) kM56
                    · have a65 : ((0 ≤ time_) ∧ (0 ≤ leave_)) ∧ (leave_ < ahead_) := ⟨a62, c64⟩
                      refine s_iload X 0 rfl dX12_leaveBefore_90 ?_
                      refine s_iload_n X 4 rfl dX12_leaveBefore_92 ?_
                      refine s_icmple_f (tgt := 101) X dX12_leaveBefore_93 (by omega) (fun c66 => ?_) (fun c67 => ?_)
                      · refine s_iload_n X 4 rfl dX12_leaveBefore_101 ?_
                        exact s_eqt (if_neg (fun q => c66 q.2)) kM56
                      · refine s_iload X 0 rfl dX12_leaveBefore_96 ?_
                        refine s_goto (tgt := 102) X dX12_leaveBefore_98 (by omega) ?_
                        exact s_eqt (if_pos ⟨a65, c67⟩) kM56
        exact LP28 _ _ _ hl33
  exact LP10 _ _ _ hl15
set_option maxRecDepth 20000 in
set_option maxHeartbeats 4000000 in
theorem L_M_tellPairs (G : Gl) (from_ : Int) (to_ : Int) (day_ : Int) (m : Mem) (r : Mem)  (h : M_tellPairs from_ to_ day_ m = some r) : Con SHM G yX12_tellPairs cX12_tellPairs 8 none rm_X12_tellPairs [VR 0, VI from_, VI to_, VI day_] m (((.inl none, r) : Res × Mem)) := by
  refine con_of (own := "LastbusModel") (by decide) rfl (Nat.le_of_ble_eq_true rfl) (fun C X => ?_)
  obtain ⟨O, hO⟩ : ∃ O : Res × Mem, O = (((.inl none, r) : Res × Mem)) := ⟨_, rfl⟩
  rw [← hO]
  show J SHM G rm_X12_tellPairs (.inl O) C 0 0 0 [(0, VR 0), (1, VI from_), (2, VI to_), (3, VI day_)] [] m
  unfold M_tellPairs at h
  refine s_load0 X 0 rfl dX12_tellPairs_0 ?_
  refine s_iload_n X 3 rfl dX12_tellPairs_1 ?_
  obtain ⟨m_, e2, h⟩ := ltv_elim h
  refine s_putI X e2 fp_X12_198 SHM_0 rfl trivial dX12_tellPairs_2 ?_
  refine s_load0 X 0 rfl dX12_tellPairs_5 ?_
  refine s_const X (by unfold InR; omega) dX12_tellPairs_6 ?_
  obtain ⟨m_2, e4, h⟩ := ltv_elim h
  refine s_putI X e4 fp_X12_279 SHM_0 rfl trivial dX12_tellPairs_7 ?_
  refine s_ldc (z := 1000000) X (by unfold InR; omega) kc_X12_150 dX12_tellPairs_10 ?_
  obtain ⟨ahead_, e6, h⟩ := ltv_elim h
  refine s_istore X e6 rfl (by omega) dX12_tellPairs_12 ?_
  refine s_ldc (z := 1000000) X (by unfold InR; omega) kc_X12_150 dX12_tellPairs_14 ?_
  obtain ⟨best_, e8, h⟩ := ltv_elim h
  refine s_istore X e8 rfl (by omega) dX12_tellPairs_16 ?_
  obtain ⟨ahead_4, best_5, m_10, hl18, h⟩ := bq3_some h
  obtain ⟨fu90, hl19⟩ := loop_iter hl18
  have KX15 : ∀ q9 : Int × Int × Mem, q9 = (ahead_4, best_5, m_10) → J SHM G rm_X12_tellPairs (.inl O) C 0 0 103 [(5, VI q9.2.1), (4, VI q9.1), (0, VR 0), (1, VI from_), (2, VI to_), (3, VI day_)] [] (q9.2.2) := by
    intro q9 e9
    subst e9
    show J SHM G rm_X12_tellPairs (.inl O) C 0 0 103 [(5, VI best_5), (4, VI ahead_4), (0, VR 0), (1, VI from_), (2, VI to_), (3, VI day_)] [] m_10
    exact s_vret X (Nat.le_of_ble_eq_true rfl) (Nat.le_of_ble_eq_true rfl) (by cases h; exact hO) dX12_tellPairs_103
  have LP14 : ∀ (fu9 : Nat) (ahead_2 : Int) (best_2 : Int) (m_3 : Mem), iter (fun s => M_tellPairs_b1 from_ to_ s.1 s.2.1 s.2.2) fu9 (ahead_2, best_2, m_3) = some (ahead_4, best_5, m_10) → J SHM G rm_X12_tellPairs (.inl O) C 0 0 18 [(5, VI best_2), (4, VI ahead_2), (0, VR 0), (1, VI from_), (2, VI to_), (3, VI day_)] [] m_3 := by
    intro fu9
    induction fu9 with
    | zero => intro ahead_2 best_2 m_3 hn10; exact absurd hn10 (by simp [iter])
    | succ fu9 ih13 =>
      intro ahead_2 best_2 m_3 hn10
      obtain ⟨x11, h, hc12⟩ := iter_succ hn10
      replace h : M_tellPairs_b1 from_ to_ ahead_2 best_2 m_3 = some x11 := h
      unfold M_tellPairs_b1 at h
      refine s_load0 X 2 rfl dX12_tellPairs_18 ?_
      refine s_iload_n X 3 rfl dX12_tellPairs_19 ?_
      refine s_iload X 1 rfl dX12_tellPairs_20 ?_
      obtain ⟨r_, hq21, h⟩ := bnd_some h
      refine s_callV (As := [VI from_, VI ahead_2]) X cw_X12_282 SHM_0 rfl dX12_tellPairs_22 (L_M_leaveBefore G from_ ahead_2 m_3 r_ hq21) rfl ⟨Nat.le_of_ble_eq_true rfl, Nat.le_of_ble_eq_true rfl⟩ ⟨Nat.le_of_ble_eq_true rfl, Nat.le_of_ble_eq_true rfl⟩ (Nat.le_of_ble_eq_true rfl) noT (kkR ?_)
      obtain ⟨leave_, e24, h⟩ := ltv_elim h
      refine s_istore X e24 rfl (by omega) dX12_tellPairs_25 ?_
      refine s_iload X 0 rfl dX12_tellPairs_27 ?_
      refine s_ifge_f (tgt := 35) X dX12_tellPairs_29 (by omega) (fun c28 => ?_) (fun c29 => ?_)
      · replace h := ite_neg h c28
        refine s_load0 X 3 rfl dX12_tellPairs_35 ?_
        refine s_iload_n X 4 rfl dX12_tellPairs_36 ?_
        refine s_iload X 0 rfl dX12_tellPairs_37 ?_
        obtain ⟨m_4, hq31, h⟩ := bnd_some h
        refine s_callV (As := [VI from_, VI leave_]) X cw_X12_229 SHM_0 rfl dX12_tellPairs_39 (L_M_begin G from_ leave_ m_3 m_4 hq31) rfl ⟨Nat.le_of_ble_eq_true rfl, Nat.le_of_ble_eq_true rfl⟩ ⟨Nat.le_of_ble_eq_true rfl, Nat.le_of_ble_eq_true rfl⟩ (Nat.le_of_ble_eq_true rfl) noT (kkU ?_)
        refine s_load0 X 3 rfl dX12_tellPairs_42 ?_
        obtain ⟨m_5, hq35, h⟩ := bnd_some h
        refine s_callV (As := []) X cw_X12_232 SHM_0 rfl dX12_tellPairs_43 (L_M_settle G m_4 m_5 hq35) rfl ⟨Nat.le_of_ble_eq_true rfl, Nat.le_of_ble_eq_true rfl⟩ ⟨Nat.le_of_ble_eq_true rfl, Nat.le_of_ble_eq_true rfl⟩ (Nat.le_of_ble_eq_true rfl) noT (kkU ?_)
        refine s_load0 X 3 rfl dX12_tellPairs_46 ?_
        refine s_iload_n X 5 rfl dX12_tellPairs_47 ?_
        obtain ⟨r_2, hq39, h⟩ := bnd_some h
        refine s_callV (As := [VI to_]) X cw_X12_285 SHM_0 rfl dX12_tellPairs_48 (L_M_byRide G to_ m_5 r_2 hq39) rfl ⟨Nat.le_of_ble_eq_true rfl, Nat.le_of_ble_eq_true rfl⟩ ⟨Nat.le_of_ble_eq_true rfl, Nat.le_of_ble_eq_true rfl⟩ (Nat.le_of_ble_eq_true rfl) noT (kkR ?_)
        obtain ⟨comesBy_, e42, h⟩ := ltv_elim h
        refine s_istore X e42 rfl (by omega) dX12_tellPairs_51 ?_
        obtain ⟨kj_, hk43, h⟩ := ltv_elim h
        have K44 : ∀ (best_3 : Int) (m_6 : Mem), kj_ best_3 m_6 = some x11 → J SHM G rm_X12_tellPairs (.inl O) C 0 0 96 [(7, VI comesBy_), (6, VI leave_), (5, VI best_3), (4, VI ahead_2), (0, VR 0), (1, VI from_), (2, VI to_), (3, VI day_)] [] m_6 := by
          intro best_3 m_6 h
          subst hk43
          dsimp only at h
          refine s_iload X 1 rfl dX12_tellPairs_96 ?_
          obtain ⟨ahead_3, e59, h⟩ := ltv_elim h
          refine s_istore X e59 rfl (by omega) dX12_tellPairs_98 ?_
          refine s_goto (tgt := 18) X dX12_tellPairs_100 (by omega) ?_
          refine s_loc [3, 0, 4, 5, 6, 7] rfl ?_
          exact ih13 _ _ _ (iter_next h hc12)
        refine s_iload X 0 rfl dX12_tellPairs_53 ?_
        refine s_iload X 2 rfl dX12_tellPairs_55 ?_
        refine s_icmpge_f (tgt := 96) X dX12_tellPairs_57 (by omega) (fun c48 => ?_) (fun c49 => ?_)
        · replace h := ite_neg h c48
          exact s_kn rfl rfl (K44 _ _ h)
        · replace h := ite_pos h c49
          refine s_iload X 0 rfl dX12_tellPairs_60 ?_
          obtain ⟨best_4, e51, h⟩ := ltv_elim h
          refine s_istore X e51 rfl (by omega) dX12_tellPairs_62 ?_
          obtain ⟨g52, h⟩ := grd_some h
          refine s_load0 X 4 rfl dX12_tellPairs_64 ?_
          refine s_getR (id := 22) X fk_X12_84 SHM_0 rfl dX12_tellPairs_65 ?_
          refine s_load0 X 4 rfl dX12_tellPairs_68 ?_
          refine s_getI X fk_X12_279 SHM_0 rfl dX12_tellPairs_69 ?_
          refine s_iload X 2 rfl dX12_tellPairs_72 ?_
          obtain ⟨m_7, e53, h⟩ := ltv_elim h
          refine s_iast X e53 SHM_22 g52.1 g52.2 dX12_tellPairs_74 ?_
          obtain ⟨g54, h⟩ := grd_some h
          refine s_load0 X 4 rfl dX12_tellPairs_75 ?_
          refine s_getR (id := 23) X fk_X12_87 SHM_0 rfl dX12_tellPairs_76 ?_
          refine s_load0 X 4 rfl dX12_tellPairs_79 ?_
          refine s_getI X fk_X12_279 SHM_0 rfl dX12_tellPairs_80 ?_
          refine s_iload X 1 rfl dX12_tellPairs_83 ?_
          obtain ⟨m_8, e55, h⟩ := ltv_elim h
          refine s_iast X e55 SHM_23 g54.1 g54.2 dX12_tellPairs_85 ?_
          obtain ⟨g56, h⟩ := grd_some h
          refine s_load0 X 4 rfl dX12_tellPairs_86 ?_
          refine s_dup X rfl dX12_tellPairs_87 ?_
          refine s_getI X fk_X12_279 SHM_0 rfl dX12_tellPairs_88 ?_
          refine s_const X (by unfold InR; omega) dX12_tellPairs_91 ?_
          refine s_iadd X g56 dX12_tellPairs_92 ?_
          obtain ⟨m_9, e57, h⟩ := ltv_elim h
          refine s_putI X e57 fp_X12_279 SHM_0 rfl trivial dX12_tellPairs_93 ?_
          refine s_loc [1, 2, 0, 3, 4, 5, 6, 7] rfl ?_
          exact s_kn rfl rfl (K44 _ _ h)
      · replace h := ite_pos h c29
        refine s_goto (tgt := 103) X dX12_tellPairs_32 (by omega) ?_
        refine s_loc [1, 2, 3, 4, 5, 6] rfl ?_
        exact KX15 _ (iter_exit h hc12)
  exact LP14 _ _ _ _ hl19
set_option maxRecDepth 20000 in
set_option maxHeartbeats 4000000 in
theorem L_M_pairs (G : Gl) (from_ : Int) (to_ : Int) (day_ : Int) (m : Mem) (r : (Int × Mem))  (h : M_pairs from_ to_ day_ m = some r) : Con SHM G yX12_pairs cX12_pairs 4 (some .int) rm_X12_pairs [VR 0, VI from_, VI to_, VI day_] m (((.inl (some (VI r.1)), r.2) : Res × Mem)) := by
  refine con_of (own := "LastbusModel") (by decide) rfl (Nat.le_of_ble_eq_true rfl) (fun C X => ?_)
  obtain ⟨O, hO⟩ : ∃ O : Res × Mem, O = (((.inl (some (VI r.1)), r.2) : Res × Mem)) := ⟨_, rfl⟩
  rw [← hO]
  show J SHM G rm_X12_pairs (.inl O) C 0 0 0 [(0, VR 0), (1, VI from_), (2, VI to_), (3, VI day_)] [] m
  unfold M_pairs at h
  refine s_load0 X 0 rfl dX12_pairs_0 ?_
  refine s_iload_n X 1 rfl dX12_pairs_1 ?_
  obtain ⟨r_, m_, hq2, h⟩ := bq2_some h
  refine s_callV (As := [VI from_]) X cw_X12_147 SHM_0 rfl dX12_pairs_2 (L_M_isNoStop G from_ m (r_, m_) hq2) rfl ⟨Nat.le_of_ble_eq_true rfl, Nat.le_of_ble_eq_true rfl⟩ ⟨Nat.le_of_ble_eq_true rfl, Nat.le_of_ble_eq_true rfl⟩ (Nat.le_of_ble_eq_true rfl) noT (kkR ?_)
  refine s_ifne_t (tgt := 44) X dX12_pairs_5 (by omega) (fun c5 => ?_) (fun c6 => ?_)
  · replace h := ite_pos h c5
    refine s_const X (by unfold InR; omega) dX12_pairs_44 ?_
    exact s_iret X (Nat.le_of_ble_eq_true rfl) (Nat.le_of_ble_eq_true rfl) (by cases h; exact hO) dX12_pairs_45
  · replace h := ite_neg h c6
    refine s_load0 X 0 rfl dX12_pairs_8 ?_
    refine s_iload_n X 2 rfl dX12_pairs_9 ?_
    obtain ⟨r_2, m_2, hq9, h⟩ := bq2_some h
    refine s_callV (As := [VI to_]) X cw_X12_147 SHM_0 rfl dX12_pairs_10 (L_M_isNoStop G to_ m_ (r_2, m_2) hq9) rfl ⟨Nat.le_of_ble_eq_true rfl, Nat.le_of_ble_eq_true rfl⟩ ⟨Nat.le_of_ble_eq_true rfl, Nat.le_of_ble_eq_true rfl⟩ (Nat.le_of_ble_eq_true rfl) noT (kkR ?_)
    refine s_ifne_t (tgt := 44) X dX12_pairs_13 (by omega) (fun c12 => ?_) (fun c13 => ?_)
    · replace h := ite_pos h c12
      refine s_const X (by unfold InR; omega) dX12_pairs_44 ?_
      exact s_iret X (Nat.le_of_ble_eq_true rfl) (Nat.le_of_ble_eq_true rfl) (by cases h; exact hO) dX12_pairs_45
    · replace h := ite_neg h c13
      refine s_load0 X 0 rfl dX12_pairs_16 ?_
      have kM16 : J SHM G rm_X12_pairs (.inl O) C 0 0 37 [(0, VR 0), (1, VI from_), (2, VI to_), (3, VI day_)] [VI (if (from_ = to_) ∨ (M_isIn day_ 0 27 = 0) then 1 else 0), VR 0] m_2 := by
        refine s_const X (by unfold InR; omega) dX12_pairs_37 ?_
        obtain ⟨r_3, m_3, hq22, h⟩ := bq2_some h
        refine s_callV (As := [VI (if (from_ = to_) ∨ (M_isIn day_ 0 27 = 0) then 1 else 0), VI 2]) X cw_X12_130 SHM_0 rfl dX12_pairs_38 (L_M_isThrown G (if (from_ = to_) ∨ (M_isIn day_ 0 27 = 0) then 1 else 0) 2 m_2 (r_3, m_3) hq22) rfl ⟨Nat.le_of_ble_eq_true rfl, Nat.le_of_ble_eq_true rfl⟩ ⟨Nat.le_of_ble_eq_true rfl, Nat.le_of_ble_eq_true rfl⟩ (Nat.le_of_ble_eq_true rfl) noT (kkR ?_)
        refine s_ifeq_f (tgt := 46) X dX12_pairs_41 (by omega) (fun c25 => ?_) (fun c26 => ?_)
        · replace h := ite_neg h c25
          refine s_load0 X 0 rfl dX12_pairs_46 ?_
          refine s_iload_n X 1 rfl dX12_pairs_47 ?_
          refine s_iload_n X 2 rfl dX12_pairs_48 ?_
          refine s_iload_n X 3 rfl dX12_pairs_49 ?_
          obtain ⟨m_4, hq28, h⟩ := bnd_some h
          refine s_callV (As := [VI from_, VI to_, VI day_]) X cw_X12_288 SHM_0 rfl dX12_pairs_50 (L_M_tellPairs G from_ to_ day_ m_3 m_4 hq28) rfl ⟨Nat.le_of_ble_eq_true rfl, Nat.le_of_ble_eq_true rfl⟩ ⟨Nat.le_of_ble_eq_true rfl, Nat.le_of_ble_eq_true rfl⟩ (Nat.le_of_ble_eq_true rfl) noT (kkU ?_)
          refine s_load0 X 0 rfl dX12_pairs_53 ?_
          refine s_getI X fk_X12_279 SHM_0 rfl dX12_pairs_54 ?_
          exact s_iret X (Nat.le_of_ble_eq_true rfl) (Nat.le_of_ble_eq_true rfl) (by cases h; exact hO) dX12_pairs_57
        · replace h := ite_pos h c26
          refine s_const X (by unfold InR; omega) dX12_pairs_44 ?_
          exact s_iret X (Nat.le_of_ble_eq_true rfl) (Nat.le_of_ble_eq_true rfl) (by cases h; exact hO) dX12_pairs_45
      refine s_iload_n X 1 rfl dX12_pairs_17 ?_
      refine s_iload_n X 2 rfl dX12_pairs_18 ?_
      refine s_icmpeq_t (tgt := 32) X dX12_pairs_19 (by omega) (fun c17 => ?_) (fun c18 => ?_)
      · refine s_const X (by unfold InR; omega) dX12_pairs_32 ?_
        refine s_goto (tgt := 37) X dX12_pairs_33 (by omega) ?_
        exact s_eqt (if_pos (Or.inl c17)) kM16
      · have a19 : ¬ (from_ = to_) := c18
        refine s_iload_n X 3 rfl dX12_pairs_22 ?_
        refine s_const X (by unfold InR; omega) dX12_pairs_23 ?_
        refine s_bipush X (by omega) dX12_pairs_24 ?_
        refine s_callS (As := [VI day_, VI 0, VI 27]) X cw_X12_126 dX12_pairs_26 (L_M_isIn G day_ 0 27 m_2) rfl ⟨Nat.le_of_ble_eq_true rfl, Nat.le_of_ble_eq_true rfl⟩ ⟨Nat.le_of_ble_eq_true rfl, Nat.le_of_ble_eq_true rfl⟩ (Nat.le_of_ble_eq_true rfl) noT (kkR ?_)
        refine s_ifne_f (tgt := 36) X dX12_pairs_29 (by omega) (fun c20 => ?_) (fun c21 => ?_)
        · refine s_const X (by unfold InR; omega) dX12_pairs_36 ?_
          exact s_eqt (if_neg (fun q => q.elim a19 c20)) kM16
        · refine s_const X (by unfold InR; omega) dX12_pairs_32 ?_
          refine s_goto (tgt := 37) X dX12_pairs_33 (by omega) ?_
          exact s_eqt (if_pos (Or.inr c21)) kM16
set_option maxRecDepth 20000 in
set_option maxHeartbeats 4000000 in
theorem L_M_pair (G : Gl) (from_ : Int) (to_ : Int) (day_ : Int) (index_ : Int) (isArrival_ : Int) (m : Mem) (r : (Int × Mem))  (h : M_pair from_ to_ day_ index_ isArrival_ m = some r) : Con SHM G yX12_pair cX12_pair 6 (some .int) rm_X12_pair [VR 0, VI from_, VI to_, VI day_, VI index_, VI isArrival_] m (((.inl (some (VI r.1)), r.2) : Res × Mem)) := by
  refine con_of (own := "LastbusModel") (by decide) rfl (Nat.le_of_ble_eq_true rfl) (fun C X => ?_)
  obtain ⟨O, hO⟩ : ∃ O : Res × Mem, O = (((.inl (some (VI r.1)), r.2) : Res × Mem)) := ⟨_, rfl⟩
  rw [← hO]
  show J SHM G rm_X12_pair (.inl O) C 0 0 0 [(0, VR 0), (1, VI from_), (2, VI to_), (3, VI day_), (4, VI index_), (5, VI isArrival_)] [] m
  unfold M_pair at h
  refine s_load0 X 0 rfl dX12_pair_0 ?_
  refine s_iload_n X 1 rfl dX12_pair_1 ?_
  obtain ⟨r_, m_, hq2, h⟩ := bq2_some h
  refine s_callV (As := [VI from_]) X cw_X12_147 SHM_0 rfl dX12_pair_2 (L_M_isNoStop G from_ m (r_, m_) hq2) rfl ⟨Nat.le_of_ble_eq_true rfl, Nat.le_of_ble_eq_true rfl⟩ ⟨Nat.le_of_ble_eq_true rfl, Nat.le_of_ble_eq_true rfl⟩ (Nat.le_of_ble_eq_true rfl) noT (kkR ?_)
  refine s_ifne_t (tgt := 44) X dX12_pair_5 (by omega) (fun c5 => ?_) (fun c6 => ?_)
  · replace h := ite_pos h c5
    refine s_const X (by unfold InR; omega) dX12_pair_44 ?_
    exact s_iret X (Nat.le_of_ble_eq_true rfl) (Nat.le_of_ble_eq_true rfl) (by cases h; exact hO) dX12_pair_45
  · replace h := ite_neg h c6
    refine s_load0 X 0 rfl dX12_pair_8 ?_
    refine s_iload_n X 2 rfl dX12_pair_9 ?_
    obtain ⟨r_2, m_2, hq9, h⟩ := bq2_some h
    refine s_callV (As := [VI to_]) X cw_X12_147 SHM_0 rfl dX12_pair_10 (L_M_isNoStop G to_ m_ (r_2, m_2) hq9) rfl ⟨Nat.le_of_ble_eq_true rfl, Nat.le_of_ble_eq_true rfl⟩ ⟨Nat.le_of_ble_eq_true rfl, Nat.le_of_ble_eq_true rfl⟩ (Nat.le_of_ble_eq_true rfl) noT (kkR ?_)
    refine s_ifne_t (tgt := 44) X dX12_pair_13 (by omega) (fun c12 => ?_) (fun c13 => ?_)
    · replace h := ite_pos h c12
      refine s_const X (by unfold InR; omega) dX12_pair_44 ?_
      exact s_iret X (Nat.le_of_ble_eq_true rfl) (Nat.le_of_ble_eq_true rfl) (by cases h; exact hO) dX12_pair_45
    · replace h := ite_neg h c13
      refine s_load0 X 0 rfl dX12_pair_16 ?_
      have kM16 : J SHM G rm_X12_pair (.inl O) C 0 0 37 [(0, VR 0), (1, VI from_), (2, VI to_), (3, VI day_), (4, VI index_), (5, VI isArrival_)] [VI (if (from_ = to_) ∨ (M_isIn day_ 0 27 = 0) then 1 else 0), VR 0] m_2 := by
        refine s_const X (by unfold InR; omega) dX12_pair_37 ?_
        obtain ⟨r_3, m_3, hq22, h⟩ := bq2_some h
        refine s_callV (As := [VI (if (from_ = to_) ∨ (M_isIn day_ 0 27 = 0) then 1 else 0), VI 2]) X cw_X12_130 SHM_0 rfl dX12_pair_38 (L_M_isThrown G (if (from_ = to_) ∨ (M_isIn day_ 0 27 = 0) then 1 else 0) 2 m_2 (r_3, m_3) hq22) rfl ⟨Nat.le_of_ble_eq_true rfl, Nat.le_of_ble_eq_true rfl⟩ ⟨Nat.le_of_ble_eq_true rfl, Nat.le_of_ble_eq_true rfl⟩ (Nat.le_of_ble_eq_true rfl) noT (kkR ?_)
        refine s_ifeq_f (tgt := 46) X dX12_pair_41 (by omega) (fun c25 => ?_) (fun c26 => ?_)
        · replace h := ite_neg h c25
          refine s_load0 X 0 rfl dX12_pair_46 ?_
          refine s_iload_n X 1 rfl dX12_pair_47 ?_
          refine s_iload_n X 2 rfl dX12_pair_48 ?_
          refine s_iload_n X 3 rfl dX12_pair_49 ?_
          obtain ⟨m_4, hq28, h⟩ := bnd_some h
          refine s_callV (As := [VI from_, VI to_, VI day_]) X cw_X12_288 SHM_0 rfl dX12_pair_50 (L_M_tellPairs G from_ to_ day_ m_3 m_4 hq28) rfl ⟨Nat.le_of_ble_eq_true rfl, Nat.le_of_ble_eq_true rfl⟩ ⟨Nat.le_of_ble_eq_true rfl, Nat.le_of_ble_eq_true rfl⟩ (Nat.le_of_ble_eq_true rfl) noT (kkU ?_)
          obtain ⟨g31, h⟩ := grd_some h
          refine s_load0 X 0 rfl dX12_pair_53 ?_
          have kM32 : J SHM G rm_X12_pair (.inl O) C 0 0 74 [(0, VR 0), (1, VI from_), (2, VI to_), (3, VI day_), (4, VI index_), (5, VI isArrival_)] [VI (if M_isIn index_ 0 (m_4 0 33 - 1) = 0 then 1 else 0), VR 0] m_4 := by
            refine s_const X (by unfold InR; omega) dX12_pair_74 ?_
            obtain ⟨r_4, m_5, hq35, h⟩ := bq2_some h
            refine s_callV (As := [VI (if M_isIn index_ 0 (m_4 0 33 - 1) = 0 then 1 else 0), VI 3]) X cw_X12_130 SHM_0 rfl dX12_pair_75 (L_M_isThrown G (if M_isIn index_ 0 (m_4 0 33 - 1) = 0 then 1 else 0) 3 m_4 (r_4, m_5) hq35) rfl ⟨Nat.le_of_ble_eq_true rfl, Nat.le_of_ble_eq_true rfl⟩ ⟨Nat.le_of_ble_eq_true rfl, Nat.le_of_ble_eq_true rfl⟩ (Nat.le_of_ble_eq_true rfl) noT (kkR ?_)
            refine s_ifeq_f (tgt := 83) X dX12_pair_78 (by omega) (fun c38 => ?_) (fun c39 => ?_)
            · replace h := ite_neg h c38
              obtain ⟨g40, h⟩ := grd_some h
              have kM41 : J SHM G rm_X12_pair (.inl O) C 0 0 119 [(0, VR 0), (1, VI from_), (2, VI to_), (3, VI day_), (4, VI index_), (5, VI isArrival_)] [VI (if ¬ isArrival_ = 0 then m_5 23 (m_5 0 33 - 1 - index_).toNat else m_5 22 (m_5 0 33 - 1 - index_).toNat)] m_5 := by
                exact s_iret X (Nat.le_of_ble_eq_true rfl) (Nat.le_of_ble_eq_true rfl) (by cases h; exact hO) dX12_pair_119
              refine s_iload X 5 rfl dX12_pair_83 ?_
              refine s_ifeq_f (tgt := 105) X dX12_pair_85 (by omega) (fun c42 => ?_) (fun c43 => ?_)
              · refine s_load0 X 0 rfl dX12_pair_105 ?_
                refine s_getR (id := 22) X fk_X12_84 SHM_0 rfl dX12_pair_106 ?_
                refine s_load0 X 0 rfl dX12_pair_109 ?_
                refine s_getI X fk_X12_279 SHM_0 rfl dX12_pair_110 ?_
                refine s_const X (by unfold InR; omega) dX12_pair_113 ?_
                refine s_isub X (g40.1 c42) dX12_pair_114 ?_
                refine s_iload X 4 rfl dX12_pair_115 ?_
                refine s_isub X (g40.2.1 c42) dX12_pair_117 ?_
                refine s_iald X SHM_22 (g40.2.2.1 c42) (g40.2.2.2.1 c42) dX12_pair_118 ?_
                exact s_eqt (if_neg c42) kM41
              · refine s_load0 X 0 rfl dX12_pair_88 ?_
                refine s_getR (id := 23) X fk_X12_87 SHM_0 rfl dX12_pair_89 ?_
                refine s_load0 X 0 rfl dX12_pair_92 ?_
                refine s_getI X fk_X12_279 SHM_0 rfl dX12_pair_93 ?_
                refine s_const X (by unfold InR; omega) dX12_pair_96 ?_
                refine s_isub X (g40.2.2.2.2.1 c43) dX12_pair_97 ?_
                refine s_iload X 4 rfl dX12_pair_98 ?_
                refine s_isub X (g40.2.2.2.2.2.1 c43) dX12_pair_100 ?_
                refine s_iald X SHM_23 (g40.2.2.2.2.2.2.1 c43) (g40.2.2.2.2.2.2.2 c43) dX12_pair_101 ?_
                refine s_goto (tgt := 119) X dX12_pair_102 (by omega) ?_
                exact s_eqt (if_pos c43) kM41
            · replace h := ite_pos h c39
              refine s_const X (by unfold InR; omega) dX12_pair_81 ?_
              exact s_iret X (Nat.le_of_ble_eq_true rfl) (Nat.le_of_ble_eq_true rfl) (by cases h; exact hO) dX12_pair_82
          refine s_iload X 4 rfl dX12_pair_54 ?_
          refine s_const X (by unfold InR; omega) dX12_pair_56 ?_
          refine s_load0 X 0 rfl dX12_pair_57 ?_
          refine s_getI X fk_X12_279 SHM_0 rfl dX12_pair_58 ?_
          refine s_const X (by unfold InR; omega) dX12_pair_61 ?_
          refine s_isub X g31 dX12_pair_62 ?_
          refine s_callS (As := [VI index_, VI 0, VI (m_4 0 33 - 1)]) X cw_X12_126 dX12_pair_63 (L_M_isIn G index_ 0 (m_4 0 33 - 1) m_4) rfl ⟨Nat.le_of_ble_eq_true rfl, Nat.le_of_ble_eq_true rfl⟩ ⟨Nat.le_of_ble_eq_true rfl, Nat.le_of_ble_eq_true rfl⟩ (Nat.le_of_ble_eq_true rfl) noT (kkR ?_)
          refine s_ifne_f (tgt := 73) X dX12_pair_66 (by omega) (fun c33 => ?_) (fun c34 => ?_)
          · refine s_const X (by unfold InR; omega) dX12_pair_73 ?_
            exact s_eqt (if_neg c33) kM32
          · refine s_const X (by unfold InR; omega) dX12_pair_69 ?_
            refine s_goto (tgt := 74) X dX12_pair_70 (by omega) ?_
            exact s_eqt (if_pos c34) kM32
        · replace h := ite_pos h c26
          refine s_const X (by unfold InR; omega) dX12_pair_44 ?_
          exact s_iret X (Nat.le_of_ble_eq_true rfl) (Nat.le_of_ble_eq_true rfl) (by cases h; exact hO) dX12_pair_45
      refine s_iload_n X 1 rfl dX12_pair_17 ?_
      refine s_iload_n X 2 rfl dX12_pair_18 ?_
      refine s_icmpeq_t (tgt := 32) X dX12_pair_19 (by omega) (fun c17 => ?_) (fun c18 => ?_)
      · refine s_const X (by unfold InR; omega) dX12_pair_32 ?_
        refine s_goto (tgt := 37) X dX12_pair_33 (by omega) ?_
        exact s_eqt (if_pos (Or.inl c17)) kM16
      · have a19 : ¬ (from_ = to_) := c18
        refine s_iload_n X 3 rfl dX12_pair_22 ?_
        refine s_const X (by unfold InR; omega) dX12_pair_23 ?_
        refine s_bipush X (by omega) dX12_pair_24 ?_
        refine s_callS (As := [VI day_, VI 0, VI 27]) X cw_X12_126 dX12_pair_26 (L_M_isIn G day_ 0 27 m_2) rfl ⟨Nat.le_of_ble_eq_true rfl, Nat.le_of_ble_eq_true rfl⟩ ⟨Nat.le_of_ble_eq_true rfl, Nat.le_of_ble_eq_true rfl⟩ (Nat.le_of_ble_eq_true rfl) noT (kkR ?_)
        refine s_ifne_f (tgt := 36) X dX12_pair_29 (by omega) (fun c20 => ?_) (fun c21 => ?_)
        · refine s_const X (by unfold InR; omega) dX12_pair_36 ?_
          exact s_eqt (if_neg (fun q => q.elim a19 c20)) kM16
        · refine s_const X (by unfold InR; omega) dX12_pair_32 ?_
          refine s_goto (tgt := 37) X dX12_pair_33 (by omega) ?_
          exact s_eqt (if_pos (Or.inr c21)) kM16
