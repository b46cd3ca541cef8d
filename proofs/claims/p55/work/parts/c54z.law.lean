/-! ===== the law's body from its first call on ===== -/
set_option maxRecDepth 20000 in
set_option maxHeartbeats 8000000 in
theorem L_W_law {G : Gl} {C : Ct} {Q : Ct → State → Prop} (X : Cx SHL G room_1 C cL_law 14 "LastbusLaw" (some .boolean) false) (nc : NCo C) (m : Mem) (r : Int × Mem) (h : W_law m = some r) (h1 : r.1 = 1) (hex : ∀ (L9 : List (Nat × V)) (m9 : Mem), J SHL G room_1 (.inr Q) C 674337 7073002 269 L9 [VI 1] m9) : J SHL G room_1 (.inr Q) C 3400 20400 48 [(0, VR 461), (1, VR 0), (2, VR 455), (3, VR 456), (4, VR 457), (5, VR 458), (6, VR 459), (7, VR 460)] [] m := by
  unfold W_law at h
  refine s_load0 X 1 rfl dL_law_48 ?_
  refine s_load0 X 2 rfl dL_law_49 ?_
  refine s_load0 X 3 rfl dL_law_50 ?_
  refine s_loadR X 4 rfl dL_law_51 ?_
  refine s_loadR X 5 rfl dL_law_53 ?_
  obtain ⟨r_, m_, hq2, h⟩ := bq2_some h
  refine s_callSM (As := [VR 0, VR 455, VR 456, VR 457, VR 458]) X nc cw_L_168 dL_law_55 (L_W_drawn G m (r_, m_) hq2) rfl ⟨Nat.le_of_ble_eq_true rfl, Nat.le_of_ble_eq_true rfl⟩ ⟨Nat.le_of_ble_eq_true rfl, Nat.le_of_ble_eq_true rfl⟩ (Nat.le_of_ble_eq_true rfl) noX (kkR ?_)
  obtain ⟨is_, e4, h⟩ := ltv_elim h
  refine s_istore X e4 rfl (by omega) dL_law_58 ?_
  refine s_load0 X 4 rfl dL_law_60 ?_
  refine s_bipush X (by omega) dL_law_61 ?_
  refine s_iald X SHL_456 (by omega) (by omega) dL_law_63 ?_
  obtain ⟨n_, e6, h⟩ := ltv_elim h
  refine s_istore X e6 rfl (by omega) dL_law_64 ?_
  refine s_loadR X 6 rfl dL_law_66 ?_
  refine s_iload X 0 rfl dL_law_68 ?_
  obtain ⟨m_2, hq8, h⟩ := bnd_some h
  refine s_callSM (As := [VR 457, VI n_]) X nc cw_L_172 dL_law_70 (L_W_close G n_ m_ m_2 hq8) rfl ⟨Nat.le_of_ble_eq_true rfl, Nat.le_of_ble_eq_true rfl⟩ ⟨Nat.le_of_ble_eq_true rfl, Nat.le_of_ble_eq_true rfl⟩ (Nat.le_of_ble_eq_true rfl) noX (kkU ?_)
  refine s_const X (by unfold InR; omega) dL_law_73 ?_
  obtain ⟨k_, e11, h⟩ := ltv_elim h
  refine s_istore X e11 rfl (by omega) dL_law_74 ?_
  obtain ⟨is_7, k_4, m_14, hl21, h⟩ := bq3_some h
  obtain ⟨fu120, hl22⟩ := loop_iter hl21
  have KX18 : ∀ q9 : Int × Int × Mem, q9 = (is_7, k_4, m_14) → J SHL G room_1 (.inr Q) C 43558 261348 221 [(10, VI q9.2.1), (9, VI n_), (8, VI q9.1), (0, VR 461), (1, VR 0), (2, VR 455), (3, VR 456), (4, VR 457), (5, VR 458), (6, VR 459), (7, VR 460)] [] (q9.2.2) := by
    intro q9 e9
    subst e9
    show J SHL G room_1 (.inr Q) C 43558 261348 221 [(10, VI k_4), (9, VI n_), (8, VI is_7), (0, VR 461), (1, VR 0), (2, VR 455), (3, VR 456), (4, VR 457), (5, VR 458), (6, VR 459), (7, VR 460)] [] m_14
    refine s_load0 X 4 rfl dL_law_221 ?_
    refine s_bipush X (by omega) dL_law_222 ?_
    obtain ⟨r_8, m_15, hq85, h⟩ := bq2_some h
    refine s_callSW (As := [VR 0, VI 10]) X nc cwS_L_184 dL_law_224 (H_vehicles G 10 m_14 (r_8, m_15) hq85) rfl ⟨Nat.le_of_ble_eq_true rfl, Nat.le_of_ble_eq_true rfl⟩ ⟨Nat.le_of_ble_eq_true rfl, Nat.le_of_ble_eq_true rfl⟩ (Nat.le_of_ble_eq_true rfl) noX (kkR ?_)
    obtain ⟨vehicles_, e87, h⟩ := ltv_elim h
    refine s_istore X e87 rfl (by omega) dL_law_227 ?_
    refine s_iload X 2 rfl dL_law_229 ?_
    refine s_ifeq_f (tgt := 268) X dL_law_231 (by omega) (fun c91 => ?_) (fun c92 => ?_)
    · replace h := ite_neg h c91
      refine s_const X (by unfold InR; omega) dL_law_268 ?_
      exact s_le (by first | omega | exact Nat.le_of_ble_eq_true rfl | (simp only [rm_L_draw, rm_L_vehicles, rm_L_vehiclesByMatching, rm_L_isSound]; omega)) (by first | omega | exact Nat.le_of_ble_eq_true rfl | (simp only [rm_L_draw, rm_L_vehicles, rm_L_vehiclesByMatching, rm_L_isSound]; omega)) (s_one (by cases h; exact h1) (hex _ _))
    · replace h := ite_pos h c92
      refine s_iload X 0 rfl dL_law_234 ?_
      refine s_load0 X 4 rfl dL_law_236 ?_
      refine s_bipush X (by omega) dL_law_237 ?_
      obtain ⟨r_9, m_16, hq95, h⟩ := bq2_some h
      refine s_callSW (As := [VR 0, VI 10]) X nc cwS_L_186 dL_law_239 (H_vehiclesByMatching G 10 m_15 (r_9, m_16) hq95) rfl ⟨Nat.le_of_ble_eq_true rfl, Nat.le_of_ble_eq_true rfl⟩ ⟨Nat.le_of_ble_eq_true rfl, Nat.le_of_ble_eq_true rfl⟩ (Nat.le_of_ble_eq_true rfl) noX (kkR ?_)
      refine s_icmpne_f (tgt := 268) X dL_law_242 (by omega) (fun c97 => ?_) (fun c98 => ?_)
      · replace h := ite_neg h c97
        refine s_const X (by unfold InR; omega) dL_law_268 ?_
        exact s_le (by first | omega | exact Nat.le_of_ble_eq_true rfl | (simp only [rm_L_draw, rm_L_vehicles, rm_L_vehiclesByMatching, rm_L_isSound]; omega)) (by first | omega | exact Nat.le_of_ble_eq_true rfl | (simp only [rm_L_draw, rm_L_vehicles, rm_L_vehiclesByMatching, rm_L_isSound]; omega)) (s_one (by cases h; exact h1) (hex _ _))
      · replace h := ite_pos h c98
        refine s_iload X 0 rfl dL_law_245 ?_
        refine s_loadR X 8 rfl dL_law_247 ?_
        refine s_const X (by unfold InR; omega) dL_law_249 ?_
        refine s_iald X SHL_458 (by omega) (by omega) dL_law_250 ?_
        refine s_icmpgt_f (tgt := 268) X dL_law_251 (by omega) (fun c103 => ?_) (fun c104 => ?_)
        · replace h := ite_neg h c103
          refine s_const X (by unfold InR; omega) dL_law_268 ?_
          exact s_le (by first | omega | exact Nat.le_of_ble_eq_true rfl | (simp only [rm_L_draw, rm_L_vehicles, rm_L_vehiclesByMatching, rm_L_isSound]; omega)) (by first | omega | exact Nat.le_of_ble_eq_true rfl | (simp only [rm_L_draw, rm_L_vehicles, rm_L_vehiclesByMatching, rm_L_isSound]; omega)) (s_one (by cases h; exact h1) (hex _ _))
        · replace h := ite_pos h c104
          refine s_load0 X 4 rfl dL_law_254 ?_
          refine s_bipush X (by omega) dL_law_255 ?_
          obtain ⟨r_10, m_17, hq107, h⟩ := bq2_some h
          refine s_callSW (As := [VR 0, VI 10]) X nc cwS_L_188 dL_law_257 (H_isSound G 10 m_16 (r_10, m_17) hq107) rfl ⟨Nat.le_of_ble_eq_true rfl, Nat.le_of_ble_eq_true rfl⟩ ⟨Nat.le_of_ble_eq_true rfl, Nat.le_of_ble_eq_true rfl⟩ (Nat.le_of_ble_eq_true rfl) noX (kkR ?_)
          refine s_const X (by unfold InR; omega) dL_law_260 ?_
          refine s_icmpne_f (tgt := 268) X dL_law_261 (by omega) (fun c109 => ?_) (fun c110 => ?_)
          · replace h := ite_neg h c109
            refine s_const X (by unfold InR; omega) dL_law_268 ?_
            exact s_le (by first | omega | exact Nat.le_of_ble_eq_true rfl | (simp only [rm_L_draw, rm_L_vehicles, rm_L_vehiclesByMatching, rm_L_isSound]; omega)) (by first | omega | exact Nat.le_of_ble_eq_true rfl | (simp only [rm_L_draw, rm_L_vehicles, rm_L_vehiclesByMatching, rm_L_isSound]; omega)) (s_one (by cases h; exact h1) (hex _ _))
          · replace h := ite_pos h c110
            refine s_const X (by unfold InR; omega) dL_law_264 ?_
            refine s_goto (tgt := 269) X dL_law_265 (by omega) ?_
            exact s_le (by first | omega | exact Nat.le_of_ble_eq_true rfl | (simp only [rm_L_draw, rm_L_vehicles, rm_L_vehiclesByMatching, rm_L_isSound]; omega)) (by first | omega | exact Nat.le_of_ble_eq_true rfl | (simp only [rm_L_draw, rm_L_vehicles, rm_L_vehiclesByMatching, rm_L_isSound]; omega)) (s_one (by cases h; exact h1) (hex _ _))
  have LP17 : ∀ (fu12 : Nat) (is_2 : Int) (k_2 : Int) (m_3 : Mem), iter (fun s => W_law_b1 n_ s.1 s.2.1 s.2.2) fu12 (is_2, k_2, m_3) = some (is_7, k_4, m_14) → J SHL G room_1 (.inr Q) C (4069 + 13163 * k_2.toNat) (24414 + 78978 * k_2.toNat) 76 [(10, VI k_2), (9, VI n_), (8, VI is_2), (0, VR 461), (1, VR 0), (2, VR 455), (3, VR 456), (4, VR 457), (5, VR 458), (6, VR 459), (7, VR 460)] [] m_3 := by
    intro fu12
    induction fu12 with
    | zero => intro is_2 k_2 m_3 hn13; exact absurd hn13 (by simp [iter])
    | succ fu12 ih16 =>
      intro is_2 k_2 m_3 hn13
      obtain ⟨x14, h, hc15⟩ := iter_succ hn13
      replace h : W_law_b1 n_ is_2 k_2 m_3 = some x14 := h
      unfold W_law_b1 at h
      obtain ⟨g23, h⟩ := grd_some h
      have b0k_2 : 0 ≤ k_2 := g23.1
      have b1k_2 : k_2 ≤ 3 := g23.2
      refine s_iload X 0 rfl dL_law_76 ?_
      refine s_const X (by unfold InR; omega) dL_law_78 ?_
      refine s_icmpge_f (tgt := 221) X dL_law_79 (by omega) (fun c26 => ?_) (fun c27 => ?_)
      · replace h := ite_neg h c26
        exact s_le (by omega) (by omega) (KX18 _ (iter_exit h hc15))
      · replace h := ite_pos h c27
        refine s_load0 X 5 rfl dL_law_82 ?_
        refine s_iload X 1 rfl dL_law_83 ?_
        obtain ⟨r_2, m_4, hq29, h⟩ := bq2_some h
        refine s_callSM (As := [VR 455, VI n_]) X nc cw_L_98 dL_law_85 (L_W_draw G n_ m_3 (r_2, m_4) hq29) rfl ⟨Nat.le_of_ble_eq_true rfl, Nat.le_of_ble_eq_true rfl⟩ ⟨by rw [show rm_L_draw.cells = 0 from rfl, show room_1.cells = 674337 from rfl]; omega, by rw [show rm_L_draw.slots = 0 from rfl, show room_1.slots = 7073002 from rfl]; omega⟩ (Nat.le_of_ble_eq_true rfl) noX (kkR ?_)
        refine s_le (k' := (4069 + 13163 * k_2.toNat)) (n' := (24414 + 78978 * k_2.toNat)) (by rw [show rm_L_draw.cells = 0 from rfl]; omega) (by rw [show rm_L_draw.slots = 0 from rfl]; omega) ?_
        obtain ⟨from_, e31, h⟩ := ltv_elim h
        refine s_istore X e31 rfl (by omega) dL_law_88 ?_
        obtain ⟨kj_, hk33, h⟩ := ltv_elim h
        have K34 : ∀ (v_ : Int) (m_5 : Mem), kj_ v_ m_5 = some x14 → J SHL G room_1 (.inr Q) C (4069 + 13163 * k_2.toNat) (24414 + 78978 * k_2.toNat) 116 [(11, VI from_), (10, VI k_2), (9, VI n_), (8, VI is_2), (0, VR 461), (1, VR 0), (2, VR 455), (3, VR 456), (4, VR 457), (5, VR 458), (6, VR 459), (7, VR 460)] [VI v_] m_5 := by
          intro v_ m_5 h
          subst hk33
          dsimp only at h
          obtain ⟨minute_, e46, h⟩ := ltv_elim h
          refine s_istore X e46 rfl (by omega) dL_law_116 ?_
          refine s_iload X 1 rfl dL_law_118 ?_
          refine s_iload X 0 rfl dL_law_120 ?_
          refine s_const X (by unfold InR; omega) dL_law_122 ?_
          refine s_load0 X 8 rfl dL_law_123 ?_
          refine s_loadR X 9 rfl dL_law_124 ?_
          refine s_loadR X 10 rfl dL_law_126 ?_
          refine s_loadR X 11 rfl dL_law_128 ?_
          refine s_loadR X 12 rfl dL_law_130 ?_
          obtain ⟨m_8, hq48, h⟩ := bnd_some h
          refine s_callSM (As := [VI from_, VI minute_, VI (-1), VR 456, VR 457, VR 458, VR 459, VR 460]) X nc cw_L_159 dL_law_132 (L_W_reach G from_ minute_ (-1) m_5 m_8 hq48) rfl ⟨Nat.le_of_ble_eq_true rfl, Nat.le_of_ble_eq_true rfl⟩ ⟨by rw [show rm_L_reach.cells = 0 from rfl, show room_1.cells = 674337 from rfl]; omega, by rw [show rm_L_reach.slots = 0 from rfl, show room_1.slots = 7073002 from rfl]; omega⟩ (Nat.le_of_ble_eq_true rfl) noX (kkU ?_)
          refine s_le (k' := (4069 + 13163 * k_2.toNat)) (n' := (24414 + 78978 * k_2.toNat)) (by rw [show rm_L_reach.cells = 0 from rfl]; omega) (by rw [show rm_L_reach.slots = 0 from rfl]; omega) ?_
          refine s_const X (by unfold InR; omega) dL_law_135 ?_
          obtain ⟨to_, e51, h⟩ := ltv_elim h
          refine s_istore X e51 rfl (by omega) dL_law_136 ?_
          obtain ⟨is_5, to_4, m_11, hl61, h⟩ := bq3_some h
          obtain ⟨fu520, hl62⟩ := loop_iter hl61
          have KX58 : ∀ q9 : Int × Int × Mem, q9 = (is_5, to_4, m_11) → J SHL G room_1 (.inr Q) C (5041 + 13163 * k_2.toNat) (30246 + 78978 * k_2.toNat) 175 [(13, VI q9.2.1), (12, VI minute_), (11, VI from_), (10, VI k_2), (9, VI n_), (8, VI q9.1), (0, VR 461), (1, VR 0), (2, VR 455), (3, VR 456), (4, VR 457), (5, VR 458), (6, VR 459), (7, VR 460)] [] (q9.2.2) := by
            intro q9 e9
            subst e9
            show J SHL G room_1 (.inr Q) C (5041 + 13163 * k_2.toNat) (30246 + 78978 * k_2.toNat) 175 [(13, VI to_4), (12, VI minute_), (11, VI from_), (10, VI k_2), (9, VI n_), (8, VI is_5), (0, VR 461), (1, VR 0), (2, VR 455), (3, VR 456), (4, VR 457), (5, VR 458), (6, VR 459), (7, VR 460)] [] m_11
            obtain ⟨g74, h⟩ := grd_some h
            refine s_iload X 2 rfl dL_law_175 ?_
            refine s_const X (by unfold InR; omega) dL_law_177 ?_
            refine s_iadd X g74.1 dL_law_178 ?_
            refine s_load0 X 8 rfl dL_law_179 ?_
            refine s_iload X 4 rfl dL_law_180 ?_
            refine s_const X (by unfold InR; omega) dL_law_182 ?_
            refine s_isub X g74.2 dL_law_183 ?_
            obtain ⟨r_6, m_12, hq75, h⟩ := bq2_some h
            refine s_callSM (As := [VR 455, VI (n_ - 1)]) X nc cw_L_98 dL_law_184 (L_W_draw G (n_ - 1) m_11 (r_6, m_12) hq75) rfl ⟨Nat.le_of_ble_eq_true rfl, Nat.le_of_ble_eq_true rfl⟩ ⟨by rw [show rm_L_draw.cells = 0 from rfl, show room_1.cells = 674337 from rfl]; omega, by rw [show rm_L_draw.slots = 0 from rfl, show room_1.slots = 7073002 from rfl]; omega⟩ (Nat.le_of_ble_eq_true rfl) noX (kkR ?_)
            refine s_le (k' := (5041 + 13163 * k_2.toNat)) (n' := (30246 + 78978 * k_2.toNat)) (by rw [show rm_L_draw.cells = 0 from rfl]; omega) (by rw [show rm_L_draw.slots = 0 from rfl]; omega) ?_
            obtain ⟨g76, h⟩ := grd_some h
            refine s_iadd X g76.1 dL_law_187 ?_
            refine s_iload X 4 rfl dL_law_188 ?_
            refine s_irem X g76.2 dL_law_190 ?_
            obtain ⟨other_, e77, h⟩ := ltv_elim h
            refine s_istore X e77 rfl (by omega) dL_law_191 ?_
            refine s_iload X 5 rfl dL_law_193 ?_
            refine s_load0 X 7 rfl dL_law_195 ?_
            refine s_iload X 2 rfl dL_law_196 ?_
            refine s_iload X 0 rfl dL_law_198 ?_
            refine s_load0 X 9 rfl dL_law_200 ?_
            refine s_loadR X 10 rfl dL_law_201 ?_
            refine s_loadR X 11 rfl dL_law_203 ?_
            refine s_loadR X 12 rfl dL_law_205 ?_
            refine s_loadR X 13 rfl dL_law_207 ?_
            obtain ⟨r_7, m_13, hq79, h⟩ := bq2_some h
            refine s_callSM (As := [VR 0, VI from_, VI other_, VR 456, VR 457, VR 458, VR 459, VR 460]) X nc cw_L_180 dL_law_209 (L_W_rise G from_ other_ m_12 (r_7, m_13) hq79) rfl ⟨Nat.le_of_ble_eq_true rfl, Nat.le_of_ble_eq_true rfl⟩ ⟨by rw [show rm_L_rise.cells = 12029 from rfl, show room_1.cells = 674337 from rfl]; omega, by rw [show rm_L_rise.slots = 72174 from rfl, show room_1.slots = 7073002 from rfl]; omega⟩ (Nat.le_of_ble_eq_true rfl) noX (kkR ?_)
            refine s_le (k' := (17070 + 13163 * k_2.toNat)) (n' := (102420 + 78978 * k_2.toNat)) (by rw [show rm_L_rise.cells = 12029 from rfl]; omega) (by rw [show rm_L_rise.slots = 72174 from rfl]; omega) ?_
            refine s_iand X dL_law_212 ?_
            obtain ⟨is_6, e81, h⟩ := ltv_elim h
            refine s_istore X e81 rfl (by omega) dL_law_213 ?_
            obtain ⟨g82, h⟩ := grd_some h
            obtain ⟨k_3, e83, h⟩ := ltv_elim h
            refine s_iinc X 4 rfl g82 e83 rfl (by omega) dL_law_215 ?_
            refine s_goto (tgt := 76) X dL_law_218 (by omega) ?_
            refine s_loc [0, 5, 1, 6, 7, 8, 9, 10, 11, 12, 13] rfl ?_
            exact s_le (by omega) (by omega) (ih16 _ _ _ (iter_next h hc15))
          have LP57 : ∀ (fu52 : Nat) (is_3 : Int) (to_2 : Int) (m_9 : Mem), iter (fun s => W_law_b2 n_ from_ minute_ s.1 s.2.1 s.2.2) fu52 (is_3, to_2, m_9) = some (is_5, to_4, m_11) → J SHL G room_1 (.inr Q) C (4069 + 13163 * k_2.toNat + 162 * to_2.toNat) (24414 + 78978 * k_2.toNat + 972 * to_2.toNat) 138 [(13, VI to_2), (12, VI minute_), (11, VI from_), (10, VI k_2), (9, VI n_), (8, VI is_3), (0, VR 461), (1, VR 0), (2, VR 455), (3, VR 456), (4, VR 457), (5, VR 458), (6, VR 459), (7, VR 460)] [] m_9 := by
            intro fu52
            induction fu52 with
            | zero => intro is_3 to_2 m_9 hn53; exact absurd hn53 (by simp [iter])
            | succ fu52 ih56 =>
              intro is_3 to_2 m_9 hn53
              obtain ⟨x54, h, hc55⟩ := iter_succ hn53
              replace h : W_law_b2 n_ from_ minute_ is_3 to_2 m_9 = some x54 := h
              unfold W_law_b2 at h
              obtain ⟨g63, h⟩ := grd_some h
              have b0to_2 : 0 ≤ to_2 := g63.1
              have b1to_2 : to_2 ≤ 6 := g63.2
              refine s_iload X 0 rfl dL_law_138 ?_
              refine s_iload X 4 rfl dL_law_140 ?_
              refine s_icmpge_f (tgt := 175) X dL_law_142 (by omega) (fun c66 => ?_) (fun c67 => ?_)
              · replace h := ite_neg h c66
                exact s_le (by omega) (by omega) (KX58 _ (iter_exit h hc55))
              · replace h := ite_pos h c67
                refine s_iload X 5 rfl dL_law_145 ?_
                refine s_load0 X 7 rfl dL_law_147 ?_
                refine s_iload X 2 rfl dL_law_148 ?_
                refine s_iload X 0 rfl dL_law_150 ?_
                refine s_iload X 1 rfl dL_law_152 ?_
                refine s_load0 X 9 rfl dL_law_154 ?_
                refine s_loadR X 10 rfl dL_law_155 ?_
                refine s_loadR X 11 rfl dL_law_157 ?_
                refine s_loadR X 12 rfl dL_law_159 ?_
                refine s_loadR X 13 rfl dL_law_161 ?_
                obtain ⟨r_5, m_10, hq69, h⟩ := bq2_some h
                refine s_callSM (As := [VR 0, VI from_, VI to_2, VI minute_, VR 456, VR 457, VR 458, VR 459, VR 460]) X nc cw_L_176 dL_law_163 (L_W_asked G from_ to_2 minute_ m_9 (r_5, m_10) hq69) rfl ⟨Nat.le_of_ble_eq_true rfl, Nat.le_of_ble_eq_true rfl⟩ ⟨by rw [show rm_L_asked.cells = 162 from rfl, show room_1.cells = 674337 from rfl]; omega, by rw [show rm_L_asked.slots = 972 from rfl, show room_1.slots = 7073002 from rfl]; omega⟩ (Nat.le_of_ble_eq_true rfl) noX (kkR ?_)
                refine s_le (k' := (4231 + 13163 * k_2.toNat + 162 * to_2.toNat)) (n' := (25386 + 78978 * k_2.toNat + 972 * to_2.toNat)) (by rw [show rm_L_asked.cells = 162 from rfl]; omega) (by rw [show rm_L_asked.slots = 972 from rfl]; omega) ?_
                refine s_iand X dL_law_166 ?_
                obtain ⟨is_4, e71, h⟩ := ltv_elim h
                refine s_istore X e71 rfl (by omega) dL_law_167 ?_
                obtain ⟨g72, h⟩ := grd_some h
                obtain ⟨to_3, e73, h⟩ := ltv_elim h
                refine s_iinc X 1 rfl g72 e73 rfl (by omega) dL_law_169 ?_
                refine s_goto (tgt := 138) X dL_law_172 (by omega) ?_
                refine s_loc [0, 2, 3, 4, 5, 1, 6, 7, 8, 9, 10, 11, 12, 13] rfl ?_
                exact s_le (by omega) (by omega) (ih56 _ _ _ (iter_next h hc55))
          exact s_le (by first | omega | exact Nat.le_of_ble_eq_true rfl | (simp only [rm_L_draw, rm_L_isSound, rm_L_vehicles, rm_L_vehiclesByMatching, rm_L_stop, rm_L_walk, rm_L_service, rm_L_week, rm_L_putDay, rm_L_trip, rm_L_call, rm_L_close, rm_L_drawn]; omega)) (by first | omega | exact Nat.le_of_ble_eq_true rfl | (simp only [rm_L_draw, rm_L_isSound, rm_L_vehicles, rm_L_vehiclesByMatching, rm_L_stop, rm_L_walk, rm_L_service, rm_L_week, rm_L_putDay, rm_L_trip, rm_L_call, rm_L_close, rm_L_drawn]; omega)) (LP57 _ _ _ _ hl62)
        refine s_iload X 1 rfl dL_law_90 ?_
        refine s_ifne_f (tgt := 105) X dL_law_92 (by omega) (fun c37 => ?_) (fun c38 => ?_)
        · replace h := ite_neg h c37
          refine s_sipush X (by omega) dL_law_105 ?_
          refine s_load0 X 6 rfl dL_law_108 ?_
          refine s_sipush X (by omega) dL_law_109 ?_
          obtain ⟨r_3, m_6, hq40, h⟩ := bq2_some h
          refine s_callSM (As := [VR 455, VI 200]) X nc cw_L_98 dL_law_112 (L_W_draw G 200 m_4 (r_3, m_6) hq40) rfl ⟨Nat.le_of_ble_eq_true rfl, Nat.le_of_ble_eq_true rfl⟩ ⟨by rw [show rm_L_draw.cells = 0 from rfl, show room_1.cells = 674337 from rfl]; omega, by rw [show rm_L_draw.slots = 0 from rfl, show room_1.slots = 7073002 from rfl]; omega⟩ (Nat.le_of_ble_eq_true rfl) noX (kkR ?_)
          refine s_le (k' := (4069 + 13163 * k_2.toNat)) (n' := (24414 + 78978 * k_2.toNat)) (by rw [show rm_L_draw.cells = 0 from rfl]; omega) (by rw [show rm_L_draw.slots = 0 from rfl]; omega) ?_
          obtain ⟨g41, h⟩ := grd_some h
          refine s_iadd X g41 dL_law_115 ?_
          exact s_le (by omega) (by omega) (K34 _ _ h)
        · replace h := ite_pos h c38
          refine s_load0 X 6 rfl dL_law_95 ?_
          refine s_sipush X (by omega) dL_law_96 ?_
          obtain ⟨r_4, m_7, hq43, h⟩ := bq2_some h
          refine s_callSM (As := [VR 455, VI 1440]) X nc cw_L_98 dL_law_99 (L_W_draw G 1440 m_4 (r_4, m_7) hq43) rfl ⟨Nat.le_of_ble_eq_true rfl, Nat.le_of_ble_eq_true rfl⟩ ⟨by rw [show rm_L_draw.cells = 0 from rfl, show room_1.cells = 674337 from rfl]; omega, by rw [show rm_L_draw.slots = 0 from rfl, show room_1.slots = 7073002 from rfl]; omega⟩ (Nat.le_of_ble_eq_true rfl) noX (kkR ?_)
          refine s_le (k' := (4069 + 13163 * k_2.toNat)) (n' := (24414 + 78978 * k_2.toNat)) (by rw [show rm_L_draw.cells = 0 from rfl]; omega) (by rw [show rm_L_draw.slots = 0 from rfl]; omega) ?_
          refine s_goto (tgt := 116) X dL_law_102 (by omega) ?_
          exact s_le (by omega) (by omega) (K34 _ _ h)
  exact s_le (by first | omega | exact Nat.le_of_ble_eq_true rfl | (simp only [rm_L_draw, rm_L_isSound, rm_L_vehicles, rm_L_vehiclesByMatching, rm_L_stop, rm_L_walk, rm_L_service, rm_L_week, rm_L_putDay, rm_L_trip, rm_L_call, rm_L_close, rm_L_drawn]; omega)) (by first | omega | exact Nat.le_of_ble_eq_true rfl | (simp only [rm_L_draw, rm_L_isSound, rm_L_vehicles, rm_L_vehiclesByMatching, rm_L_stop, rm_L_walk, rm_L_service, rm_L_week, rm_L_putDay, rm_L_trip, rm_L_call, rm_L_close, rm_L_drawn]; omega)) (LP17 _ _ _ _ hl22)
