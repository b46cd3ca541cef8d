/-! ===== the law's methods, walked (printed by a program) ===== -/
def rm_L_asked : Room := { frames := 11, cells := 162, slots := 972, locals := 209 }
set_option maxRecDepth 20000 in
set_option maxHeartbeats 8000000 in
theorem L_W_asked (G : Gl) (from_ : Int) (to_ : Int) (minute_ : Int) (m : Mem) (r : (Int × Mem)) (h : W_asked from_ to_ minute_ m = some r) : ConM SHL G yL_asked cL_asked 18 (some .boolean) rm_L_asked [VR 0, VI from_, VI to_, VI minute_, VR 456, VR 457, VR 458, VR 459, VR 460] m (((.inl (some (VI r.1)), r.2) : Res × Mem)) := by
  refine conM_of (own := "LastbusLaw") (by decide) rfl (Nat.le_of_ble_eq_true rfl) (fun C X nc => ?_)
  obtain ⟨O, hO⟩ : ∃ O : Res × Mem, O = (((.inl (some (VI r.1)), r.2) : Res × Mem)) := ⟨_, rfl⟩
  rw [← hO]
  show J SHL G rm_L_asked (.inl O) C 0 0 0 [(0, VR 0), (1, VI from_), (2, VI to_), (3, VI minute_), (4, VR 456), (5, VR 457), (6, VR 458), (7, VR 459), (8, VR 460)] [] m
  unfold W_asked at h
  obtain ⟨g1, h⟩ := grd_some h
  refine s_loadR X 7 rfl dL_asked_0 ?_
  refine s_iload_n X 2 rfl dL_asked_2 ?_
  refine s_iald X SHL_459 g1.1 g1.2 dL_asked_3 ?_
  refine s_loadR X 8 rfl dL_asked_4 ?_
  refine s_iload_n X 2 rfl dL_asked_6 ?_
  refine s_iald X SHL_460 g1.1 g1.2 dL_asked_7 ?_
  refine s_callSM (As := [VI (m 459 to_.toNat), VI (m 460 to_.toNat)]) X nc cw_L_127 dL_asked_8 (L_W_least G (m 459 to_.toNat) (m 460 to_.toNat) m) rfl ⟨Nat.le_of_ble_eq_true rfl, Nat.le_of_ble_eq_true rfl⟩ ⟨Nat.le_of_ble_eq_true rfl, Nat.le_of_ble_eq_true rfl⟩ (Nat.le_of_ble_eq_true rfl) noX (kkR ?_)
  obtain ⟨due_, e2, h⟩ := ltv_elim h
  refine s_istore X e2 rfl (by omega) dL_asked_11 ?_
  refine s_load0 X 1 rfl dL_asked_13 ?_
  refine s_iload_n X 2 rfl dL_asked_14 ?_
  refine s_iload_n X 3 rfl dL_asked_15 ?_
  refine s_bipush X (by omega) dL_asked_16 ?_
  refine s_iload_n X 4 rfl dL_asked_18 ?_
  obtain ⟨r_, m_, hq4, h⟩ := bq2_some h
  refine s_callSW (As := [VR 0, VI from_, VI to_, VI 10, VI minute_]) X nc cwS_L_131 dL_asked_19 (H_earliest G from_ to_ 10 minute_ m (r_, m_) hq4) rfl ⟨Nat.le_of_ble_eq_true rfl, Nat.le_of_ble_eq_true rfl⟩ ⟨Nat.le_of_ble_eq_true rfl, Nat.le_of_ble_eq_true rfl⟩ (Nat.le_of_ble_eq_true rfl) noX (kkR ?_)
  obtain ⟨told_, e6, h⟩ := ltv_elim h
  refine s_istore X e6 rfl (by omega) dL_asked_22 ?_
  obtain ⟨kj_, hk8, h⟩ := ltv_elim h
  have K9 : ∀ (v_ : Int) (m_2 : Mem), kj_ v_ m_2 = some r → J SHL G rm_L_asked (.inl O) C 20 120 90 [(10, VI told_), (9, VI due_), (0, VR 0), (1, VI from_), (2, VI to_), (3, VI minute_), (4, VR 456), (5, VR 457), (6, VR 458), (7, VR 459), (8, VR 460)] [VI v_] m_2 := by
    intro v_ m_2 h
    subst hk8
    dsimp only at h
    obtain ⟨is_, e38, h⟩ := ltv_elim h
    refine s_istore X e38 rfl (by omega) dL_asked_90 ?_
    refine s_load0 X 3 rfl dL_asked_92 ?_
    refine s_iload_n X 4 rfl dL_asked_93 ?_
    refine s_iload_n X 5 rfl dL_asked_94 ?_
    refine s_bipush X (by omega) dL_asked_95 ?_
    refine s_iload_n X 6 rfl dL_asked_97 ?_
    obtain ⟨r_5, m_6, hq40, h⟩ := bq2_some h
    refine s_callSW (As := [VR 0, VI from_, VI to_, VI 10, VI minute_]) X nc cwS_L_139 dL_asked_98 (H_choices G from_ to_ 10 minute_ m_2 (r_5, m_6) hq40) rfl ⟨Nat.le_of_ble_eq_true rfl, Nat.le_of_ble_eq_true rfl⟩ ⟨Nat.le_of_ble_eq_true rfl, Nat.le_of_ble_eq_true rfl⟩ (Nat.le_of_ble_eq_true rfl) noX (kkR ?_)
    obtain ⟨choices_, e42, h⟩ := ltv_elim h
    refine s_istore X e42 rfl (by omega) dL_asked_101 ?_
    refine s_iload X 3 rfl dL_asked_103 ?_
    refine s_ldc (z := 1000000) X (by unfold InR; omega) kc_L_116 dL_asked_105 ?_
    refine s_icmplt_f (tgt := 140) X dL_asked_107 (by omega) (fun c46 => ?_) (fun c47 => ?_)
    · replace h := ite_neg h c46
      refine s_load0 X 4 rfl dL_asked_140 ?_
      refine s_iload_n X 5 rfl dL_asked_141 ?_
      refine s_iload_n X 6 rfl dL_asked_142 ?_
      refine s_bipush X (by omega) dL_asked_143 ?_
      refine s_iload_n X 7 rfl dL_asked_145 ?_
      obtain ⟨r_6, m_7, hq49, h⟩ := bq2_some h
      refine s_callSW (As := [VR 0, VI from_, VI to_, VI 10, VI minute_]) X nc cwS_L_141 dL_asked_146 (H_chain G from_ to_ 10 minute_ m_6 (r_6, m_7) hq49) rfl ⟨Nat.le_of_ble_eq_true rfl, Nat.le_of_ble_eq_true rfl⟩ ⟨Nat.le_of_ble_eq_true rfl, Nat.le_of_ble_eq_true rfl⟩ (Nat.le_of_ble_eq_true rfl) noX (kkR ?_)
      obtain ⟨rides_, e51, h⟩ := ltv_elim h
      refine s_istore X e51 rfl (by omega) dL_asked_149 ?_
      refine s_iload X 2 rfl dL_asked_151 ?_
      obtain ⟨kj_2, hk53, h⟩ := ltv_elim h
      have K54 : ∀ (v_2 : Int) (m_8 : Mem), kj_2 v_2 m_8 = some r → J SHL G rm_L_asked (.inl O) C 138 828 208 [(13, VI rides_), (12, VI choices_), (11, VI is_), (10, VI told_), (9, VI due_), (0, VR 0), (1, VI from_), (2, VI to_), (3, VI minute_), (4, VR 456), (5, VR 457), (6, VR 458), (7, VR 459), (8, VR 460)] [VI v_2, VI is_] m_8 := by
        intro v_2 m_8 h
        subst hk53
        dsimp only at h
        refine s_iand X dL_asked_208 ?_
        obtain ⟨is_2, e74, h⟩ := ltv_elim h
        refine s_istore X e74 rfl (by omega) dL_asked_209 ?_
        refine s_const X (by unfold InR; omega) dL_asked_211 ?_
        obtain ⟨set_, e76, h⟩ := ltv_elim h
        refine s_istore X e76 rfl (by omega) dL_asked_212 ?_
        refine s_const X (by unfold InR; omega) dL_asked_214 ?_
        obtain ⟨v_3, e78, h⟩ := ltv_elim h
        refine s_istore X e78 rfl (by omega) dL_asked_215 ?_
        obtain ⟨set_4, v_6, hl88, h⟩ := bq2_some h
        obtain ⟨fu790, hl89⟩ := loop_iter hl88
        have KX85 : ∀ q9 : Int × Int, q9 = (set_4, v_6) → J SHL G rm_L_asked (.inl O) C 138 828 264 [(15, VI q9.2), (14, VI q9.1), (11, VI is_2), (13, VI rides_), (12, VI choices_), (10, VI told_), (9, VI due_), (0, VR 0), (1, VI from_), (2, VI to_), (3, VI minute_), (4, VR 456), (5, VR 457), (6, VR 458), (7, VR 459), (8, VR 460)] [] m_8 := by
          intro q9 e9
          subst e9
          show J SHL G rm_L_asked (.inl O) C 138 828 264 [(15, VI v_6), (14, VI set_4), (11, VI is_2), (13, VI rides_), (12, VI choices_), (10, VI told_), (9, VI due_), (0, VR 0), (1, VI from_), (2, VI to_), (3, VI minute_), (4, VR 456), (5, VR 457), (6, VR 458), (7, VR 459), (8, VR 460)] [] m_8
          refine s_iload X 2 rfl dL_asked_264 ?_
          obtain ⟨kj_3, hk103, h⟩ := ltv_elim h
          have K104 : ∀ (v_7 : Int) (m_11 : Mem), kj_3 v_7 m_11 = some r → J SHL G rm_L_asked (.inl O) C 142 852 286 [(14, VI set_4), (11, VI is_2), (13, VI rides_), (12, VI choices_), (10, VI told_), (9, VI due_), (0, VR 0), (1, VI from_), (2, VI to_), (3, VI minute_), (4, VR 456), (5, VR 457), (6, VR 458), (7, VR 459), (8, VR 460)] [VI v_7, VI is_2] m_11 := by
            intro v_7 m_11 h
            subst hk103
            dsimp only at h
            refine s_iand X dL_asked_286 ?_
            obtain ⟨is_3, e112, h⟩ := ltv_elim h
            refine s_istore X e112 rfl (by omega) dL_asked_287 ?_
            obtain ⟨kj_4, hk113, h⟩ := ltv_elim h
            have K114 : ∀ (is_4 : Int) (m_13 : Mem), kj_4 is_4 m_13 = some r → J SHL G rm_L_asked (.inl O) C 157 942 410 [(11, VI is_4), (14, VI set_4), (13, VI rides_), (12, VI choices_), (10, VI told_), (9, VI due_), (0, VR 0), (1, VI from_), (2, VI to_), (3, VI minute_), (4, VR 456), (5, VR 457), (6, VR 458), (7, VR 459), (8, VR 460)] [] m_13 := by
              intro is_4 m_13 h
              subst hk113
              dsimp only at h
              obtain ⟨g169, h⟩ := grd_some h
              refine s_iload X 0 rfl dL_asked_410 ?_
              exact s_zret X g169 (Nat.le_of_ble_eq_true rfl) (Nat.le_of_ble_eq_true rfl) (by cases h; exact hO) dL_asked_412
            refine s_iload X 5 rfl dL_asked_289 ?_
            refine s_sipush X (by omega) dL_asked_291 ?_
            refine s_icmpge_f (tgt := 410) X dL_asked_294 (by omega) (fun c118 => ?_) (fun c119 => ?_)
            · replace h := ite_neg h c118
              exact s_kn rfl rfl (K114 _ _ h)
            · replace h := ite_pos h c119
              refine s_load0 X 6 rfl dL_asked_297 ?_
              refine s_iload_n X 7 rfl dL_asked_298 ?_
              refine s_iload_n X 8 rfl dL_asked_299 ?_
              refine s_bipush X (by omega) dL_asked_300 ?_
              refine s_iload X 5 rfl dL_asked_302 ?_
              obtain ⟨r_10, m_14, hq121, h⟩ := bq2_some h
              refine s_callSW (As := [VR 0, VI from_, VI to_, VI 10, VI due_]) X nc cwS_L_152 dL_asked_304 (H_last G from_ to_ 10 due_ m_11 (r_10, m_14) hq121) rfl ⟨Nat.le_of_ble_eq_true rfl, Nat.le_of_ble_eq_true rfl⟩ ⟨Nat.le_of_ble_eq_true rfl, Nat.le_of_ble_eq_true rfl⟩ (Nat.le_of_ble_eq_true rfl) noX (kkR ?_)
              obtain ⟨last_, e123, h⟩ := ltv_elim h
              refine s_istore X e123 rfl (by omega) dL_asked_307 ?_
              obtain ⟨kj_5, hk125, h⟩ := ltv_elim h
              have K126 : ∀ (v_8 : Int) (m_15 : Mem), kj_5 v_8 m_15 = some r → J SHL G rm_L_asked (.inl O) C 152 912 332 [(15, VI last_), (11, VI is_3), (14, VI set_4), (13, VI rides_), (12, VI choices_), (10, VI told_), (9, VI due_), (0, VR 0), (1, VI from_), (2, VI to_), (3, VI minute_), (4, VR 456), (5, VR 457), (6, VR 458), (7, VR 459), (8, VR 460)] [VI v_8] m_15 := by
                intro v_8 m_15 h
                subst hk125
                dsimp only at h
                obtain ⟨then_, e136, h⟩ := ltv_elim h
                refine s_istore X e136 rfl (by omega) dL_asked_332 ?_
                refine s_iload X 2 rfl dL_asked_334 ?_
                have kM138 : J SHL G rm_L_asked (.inl O) C 152 912 359 [(16, VI then_), (15, VI last_), (11, VI is_3), (14, VI set_4), (13, VI rides_), (12, VI choices_), (10, VI told_), (9, VI due_), (0, VR 0), (1, VI from_), (2, VI to_), (3, VI minute_), (4, VR 456), (5, VR 457), (6, VR 458), (7, VR 459), (8, VR 460)] [VI (if ((minute_ ≤ last_) ∧ (0 ≤ then_)) ∧ (then_ ≤ due_) then 1 else 0), VI is_3] m_15 := by
                  refine s_iand X dL_asked_359 ?_
                  obtain ⟨is_5, e147, h⟩ := ltv_elim h
                  refine s_istore X e147 rfl (by omega) dL_asked_360 ?_
                  obtain ⟨kj_6, hk149, h⟩ := ltv_elim h
                  have K150 : ∀ (v_9 : Int) (m_17 : Mem), kj_6 v_9 m_17 = some r → J SHL G rm_L_asked (.inl O) C 157 942 386 [(11, VI is_5), (16, VI then_), (15, VI last_), (14, VI set_4), (13, VI rides_), (12, VI choices_), (10, VI told_), (9, VI due_), (0, VR 0), (1, VI from_), (2, VI to_), (3, VI minute_), (4, VR 456), (5, VR 457), (6, VR 458), (7, VR 459), (8, VR 460)] [VI v_9] m_17 := by
                    intro v_9 m_17 h
                    subst hk149
                    dsimp only at h
                    obtain ⟨later_, e160, h⟩ := ltv_elim h
                    refine s_istore X e160 rfl (by omega) dL_asked_386 ?_
                    refine s_iload X 1 rfl dL_asked_388 ?_
                    have kM162 : J SHL G rm_L_asked (.inl O) C 157 942 407 [(17, VI later_), (11, VI is_5), (16, VI then_), (15, VI last_), (14, VI set_4), (13, VI rides_), (12, VI choices_), (10, VI told_), (9, VI due_), (0, VR 0), (1, VI from_), (2, VI to_), (3, VI minute_), (4, VR 456), (5, VR 457), (6, VR 458), (7, VR 459), (8, VR 460)] [VI (if (later_ < 0) ∨ (due_ < later_) then 1 else 0), VI is_5] m_17 := by
                      refine s_iand X dL_asked_407 ?_
                      obtain ⟨is_6, e168, h⟩ := ltv_elim h
                      refine s_istore X e168 rfl (by omega) dL_asked_408 ?_
                      refine s_loc [0, 4, 5, 6, 7, 8, 9, 10, 11, 12, 13, 14, 15, 16, 17] rfl ?_
                      exact s_kn rfl rfl (K114 _ _ h)
                    refine s_iload X 0 rfl dL_asked_390 ?_
                    refine s_iflt_t (tgt := 402) X dL_asked_392 (by omega) (fun c163 => ?_) (fun c164 => ?_)
                    · refine s_const X (by unfold InR; omega) dL_asked_402 ?_
                      refine s_goto (tgt := 407) X dL_asked_403 (by omega) ?_
                      exact s_eqt (if_pos (Or.inl c163)) kM162
                    · have a165 : ¬ (later_ < 0) := c164
                      refine s_iload X 0 rfl dL_asked_395 ?_
                      refine s_iload X 8 rfl dL_asked_397 ?_
                      refine s_icmple_f (tgt := 406) X dL_asked_399 (by omega) (fun c166 => ?_) (fun c167 => ?_)
                      · refine s_const X (by unfold InR; omega) dL_asked_406 ?_
                        exact s_eqt (if_neg (fun q => q.elim a165 c166)) kM162
                      · refine s_const X (by unfold InR; omega) dL_asked_402 ?_
                        refine s_goto (tgt := 407) X dL_asked_403 (by omega) ?_
                        exact s_eqt (if_pos (Or.inr c167)) kM162
                  refine s_iload X 2 rfl dL_asked_362 ?_
                  refine s_sipush X (by omega) dL_asked_364 ?_
                  refine s_icmpge_f (tgt := 385) X dL_asked_367 (by omega) (fun c153 => ?_) (fun c154 => ?_)
                  · replace h := ite_neg h c153
                    refine s_const X (by unfold InR; omega) dL_asked_385 ?_
                    exact s_kn rfl rfl (K150 _ _ h)
                  · replace h := ite_pos h c154
                    obtain ⟨g156, h⟩ := grd_some h
                    refine s_load0 X 8 rfl dL_asked_370 ?_
                    refine s_iload_n X 9 rfl dL_asked_371 ?_
                    refine s_iload_n X 10 rfl dL_asked_372 ?_
                    refine s_bipush X (by omega) dL_asked_373 ?_
                    refine s_iload X 2 rfl dL_asked_375 ?_
                    refine s_const X (by unfold InR; omega) dL_asked_377 ?_
                    refine s_iadd X g156 dL_asked_378 ?_
                    obtain ⟨r_12, m_18, hq157, h⟩ := bq2_some h
                    refine s_callSW (As := [VR 0, VI from_, VI to_, VI 10, VI (last_ + 1)]) X nc cwS_L_131 dL_asked_379 (H_earliest G from_ to_ 10 (last_ + 1) m_15 (r_12, m_18) hq157) rfl ⟨Nat.le_of_ble_eq_true rfl, Nat.le_of_ble_eq_true rfl⟩ ⟨Nat.le_of_ble_eq_true rfl, Nat.le_of_ble_eq_true rfl⟩ (Nat.le_of_ble_eq_true rfl) noX (kkR ?_)
                    refine s_goto (tgt := 386) X dL_asked_382 (by omega) ?_
                    exact s_kn rfl rfl (K150 _ _ h)
                refine s_iload X 1 rfl dL_asked_336 ?_
                refine s_iload_n X 11 rfl dL_asked_338 ?_
                refine s_icmplt_f (tgt := 358) X dL_asked_339 (by omega) (fun c139 => ?_) (fun c140 => ?_)
                · refine s_const X (by unfold InR; omega) dL_asked_358 ?_
                  exact s_eqt (if_neg (fun q => (fun q => c139 q.1) q.1)) kM138
                · have a141 : minute_ ≤ last_ := c140
                  refine s_iload X 0 rfl dL_asked_342 ?_
                  refine s_iflt_f (tgt := 358) X dL_asked_344 (by omega) (fun c142 => ?_) (fun c143 => ?_)
                  · refine s_const X (by unfold InR; omega) dL_asked_358 ?_
                    exact s_eqt (if_neg (fun q => (fun q => c142 q.2) q.1)) kM138
                  · have a144 : (minute_ ≤ last_) ∧ (0 ≤ then_) := ⟨a141, c143⟩
                    refine s_iload X 0 rfl dL_asked_347 ?_
                    refine s_iload X 7 rfl dL_asked_349 ?_
                    refine s_icmpgt_f (tgt := 358) X dL_asked_351 (by omega) (fun c145 => ?_) (fun c146 => ?_)
                    · refine s_const X (by unfold InR; omega) dL_asked_358 ?_
                      exact s_eqt (if_neg (fun q => c145 q.2)) kM138
                    · refine s_const X (by unfold InR; omega) dL_asked_354 ?_
                      refine s_goto (tgt := 359) X dL_asked_355 (by omega) ?_
                      exact s_eqt (if_pos ⟨a144, c146⟩) kM138
              refine s_iload X 0 rfl dL_asked_309 ?_
              refine s_sipush X (by omega) dL_asked_311 ?_
              refine s_icmpge_f (tgt := 330) X dL_asked_314 (by omega) (fun c129 => ?_) (fun c130 => ?_)
              · replace h := ite_neg h c129
                refine s_iload X 6 rfl dL_asked_330 ?_
                exact s_kn rfl rfl (K126 _ _ h)
              · replace h := ite_pos h c130
                refine s_load0 X 7 rfl dL_asked_317 ?_
                refine s_iload_n X 8 rfl dL_asked_318 ?_
                refine s_iload_n X 9 rfl dL_asked_319 ?_
                refine s_bipush X (by omega) dL_asked_320 ?_
                refine s_iload X 0 rfl dL_asked_322 ?_
                obtain ⟨r_11, m_16, hq133, h⟩ := bq2_some h
                refine s_callSW (As := [VR 0, VI from_, VI to_, VI 10, VI last_]) X nc cwS_L_131 dL_asked_324 (H_earliest G from_ to_ 10 last_ m_14 (r_11, m_16) hq133) rfl ⟨Nat.le_of_ble_eq_true rfl, Nat.le_of_ble_eq_true rfl⟩ ⟨Nat.le_of_ble_eq_true rfl, Nat.le_of_ble_eq_true rfl⟩ (Nat.le_of_ble_eq_true rfl) noX (kkR ?_)
                refine s_goto (tgt := 332) X dL_asked_327 (by omega) ?_
                exact s_kn rfl rfl (K126 _ _ h)
          refine s_load0 X 7 rfl dL_asked_266 ?_
          refine s_iload_n X 8 rfl dL_asked_267 ?_
          refine s_bipush X (by omega) dL_asked_268 ?_
          refine s_iload_n X 10 rfl dL_asked_270 ?_
          refine s_iload X 6 rfl dL_asked_271 ?_
          obtain ⟨r_9, m_12, hq105, h⟩ := bq2_some h
          refine s_callSW (As := [VR 0, VI from_, VI 10, VI minute_, VI due_]) X nc cwS_L_150 dL_asked_273 (H_wall G from_ 10 minute_ due_ m_8 (r_9, m_12) hq105) rfl ⟨Nat.le_of_ble_eq_true rfl, Nat.le_of_ble_eq_true rfl⟩ ⟨Nat.le_of_ble_eq_true rfl, Nat.le_of_ble_eq_true rfl⟩ (Nat.le_of_ble_eq_true rfl) noX (kkR ?_)
          refine s_iload X 1 rfl dL_asked_276 ?_
          refine s_icmpne_f (tgt := 285) X dL_asked_278 (by omega) (fun c107 => ?_) (fun c108 => ?_)
          · replace h := ite_neg h c107
            refine s_const X (by unfold InR; omega) dL_asked_285 ?_
            refine s_loc [1, 2, 3, 4, 5, 6, 7, 8, 9, 10, 11, 12, 13, 14, 15] rfl ?_
            exact s_kn rfl rfl (K104 _ _ h)
          · replace h := ite_pos h c108
            refine s_const X (by unfold InR; omega) dL_asked_281 ?_
            refine s_goto (tgt := 286) X dL_asked_282 (by omega) ?_
            refine s_loc [1, 2, 3, 4, 5, 6, 7, 8, 9, 10, 11, 12, 13, 14, 15] rfl ?_
            exact s_kn rfl rfl (K104 _ _ h)
        have LP84 : ∀ (fu79 : Nat) (set_2 : Int) (v_4 : Int), iter (fun s => W_asked_b1 due_ m_8 s.1 s.2) fu79 (set_2, v_4) = some (set_4, v_6) → J SHL G rm_L_asked (.inl O) C 138 828 217 [(15, VI v_4), (14, VI set_2), (11, VI is_2), (13, VI rides_), (12, VI choices_), (10, VI told_), (9, VI due_), (0, VR 0), (1, VI from_), (2, VI to_), (3, VI minute_), (4, VR 456), (5, VR 457), (6, VR 458), (7, VR 459), (8, VR 460)] [] m_8 := by
          intro fu79
          induction fu79 with
          | zero => intro set_2 v_4 hn80; exact absurd hn80 (by simp [iter])
          | succ fu79 ih83 =>
            intro set_2 v_4 hn80
            obtain ⟨x81, h, hc82⟩ := iter_succ hn80
            replace h : W_asked_b1 due_ m_8 set_2 v_4 = some x81 := h
            unfold W_asked_b1 at h
            refine s_iload X 0 rfl dL_asked_217 ?_
            refine s_loadR X 11 rfl dL_asked_219 ?_
            refine s_bipush X (by omega) dL_asked_221 ?_
            refine s_iald X SHL_456 (by omega) (by omega) dL_asked_223 ?_
            refine s_icmpge_f (tgt := 264) X dL_asked_224 (by omega) (fun c93 => ?_) (fun c94 => ?_)
            · replace h := ite_neg h c93
              exact KX85 _ (iter_exit h hc82)
            · replace h := ite_pos h c94
              obtain ⟨g95, h⟩ := grd_some h
              refine s_iload X 1 rfl dL_asked_227 ?_
              have kM96 : J SHL G rm_L_asked (.inl O) C 138 828 255 [(15, VI v_4), (14, VI set_2), (11, VI is_2), (13, VI rides_), (12, VI choices_), (10, VI told_), (9, VI due_), (0, VR 0), (1, VI from_), (2, VI to_), (3, VI minute_), (4, VR 456), (5, VR 457), (6, VR 458), (7, VR 459), (8, VR 460)] [VI (if W_least (m_8 459 v_4.toNat) (m_8 460 v_4.toNat) < due_ then jishl 1 v_4 else 0), VI set_2] m_8 := by
                refine s_ior X dL_asked_255 ?_
                obtain ⟨set_3, e99, h⟩ := ltv_elim h
                refine s_istore X e99 rfl (by omega) dL_asked_256 ?_
                obtain ⟨g100, h⟩ := grd_some h
                obtain ⟨v_5, e101, h⟩ := ltv_elim h
                refine s_iinc X 1 rfl g100 e101 rfl (by omega) dL_asked_258 ?_
                refine s_goto (tgt := 217) X dL_asked_261 (by omega) ?_
                exact ih83 _ _ (iter_next h hc82)
              refine s_loadR X 14 rfl dL_asked_229 ?_
              refine s_iload X 0 rfl dL_asked_231 ?_
              refine s_iald X SHL_459 g95.1 g95.2 dL_asked_233 ?_
              refine s_loadR X 15 rfl dL_asked_234 ?_
              refine s_iload X 0 rfl dL_asked_236 ?_
              refine s_iald X SHL_460 g95.1 g95.2 dL_asked_238 ?_
              refine s_callSM (As := [VI (m_8 459 v_4.toNat), VI (m_8 460 v_4.toNat)]) X nc cw_L_127 dL_asked_239 (L_W_least G (m_8 459 v_4.toNat) (m_8 460 v_4.toNat) m_8) rfl ⟨Nat.le_of_ble_eq_true rfl, Nat.le_of_ble_eq_true rfl⟩ ⟨Nat.le_of_ble_eq_true rfl, Nat.le_of_ble_eq_true rfl⟩ (Nat.le_of_ble_eq_true rfl) noX (kkR ?_)
              refine s_iload X 6 rfl dL_asked_242 ?_
              refine s_icmpge_f (tgt := 254) X dL_asked_244 (by omega) (fun c97 => ?_) (fun c98 => ?_)
              · refine s_const X (by unfold InR; omega) dL_asked_254 ?_
                exact s_eqt (if_neg c97) kM96
              · refine s_const X (by unfold InR; omega) dL_asked_247 ?_
                refine s_iload X 0 rfl dL_asked_248 ?_
                refine s_ishl X dL_asked_250 ?_
                refine s_goto (tgt := 255) X dL_asked_251 (by omega) ?_
                exact s_eqt (if_pos c98) kM96
        exact LP84 _ _ _ hl89
      refine s_iload X 0 rfl dL_asked_153 ?_
      refine s_iflt_f (tgt := 207) X dL_asked_155 (by omega) (fun c57 => ?_) (fun c58 => ?_)
      · replace h := ite_neg h c57
        refine s_const X (by unfold InR; omega) dL_asked_207 ?_
        exact s_kn rfl rfl (K54 _ _ h)
      · replace h := ite_pos h c58
        refine s_load0 X 5 rfl dL_asked_158 ?_
        refine s_iload X 0 rfl dL_asked_159 ?_
        refine s_iload_n X 6 rfl dL_asked_161 ?_
        refine s_iload_n X 7 rfl dL_asked_162 ?_
        refine s_iload_n X 8 rfl dL_asked_163 ?_
        refine s_loadR X 9 rfl dL_asked_164 ?_
        refine s_loadR X 10 rfl dL_asked_166 ?_
        refine s_loadR X 11 rfl dL_asked_168 ?_
        obtain ⟨r_7, m_9, hq61, h⟩ := bq2_some h
        refine s_callSM (As := [VR 0, VI rides_, VI from_, VI to_, VI minute_, VR 456, VR 457, VR 458]) X nc cw_L_143 dL_asked_170 (L_W_along G rides_ from_ to_ minute_ m_7 (r_7, m_9) hq61) rfl ⟨Nat.le_of_ble_eq_true rfl, Nat.le_of_ble_eq_true rfl⟩ ⟨Nat.le_of_ble_eq_true rfl, Nat.le_of_ble_eq_true rfl⟩ (Nat.le_of_ble_eq_true rfl) noX (kkR ?_)
        refine s_iload X 4 rfl dL_asked_173 ?_
        refine s_icmpne_f (tgt := 207) X dL_asked_175 (by omega) (fun c63 => ?_) (fun c64 => ?_)
        · replace h := ite_neg h c63
          refine s_const X (by unfold InR; omega) dL_asked_207 ?_
          exact s_kn rfl rfl (K54 _ _ h)
        · replace h := ite_pos h c64
          obtain ⟨g66, h⟩ := grd_some h
          refine s_load0 X 5 rfl dL_asked_178 ?_
          refine s_iload_n X 6 rfl dL_asked_179 ?_
          refine s_iload_n X 7 rfl dL_asked_180 ?_
          refine s_bipush X (by omega) dL_asked_181 ?_
          refine s_iload_n X 8 rfl dL_asked_183 ?_
          refine s_iload X 1 rfl dL_asked_184 ?_
          refine s_const X (by unfold InR; omega) dL_asked_186 ?_
          refine s_isub X g66 dL_asked_187 ?_
          obtain ⟨r_8, m_10, hq67, h⟩ := bq2_some h
          refine s_callSW (As := [VR 0, VI from_, VI to_, VI 10, VI minute_, VI (choices_ - 1)]) X nc cwS_L_147 dL_asked_188 (H_choice G from_ to_ 10 minute_ (choices_ - 1) m_9 (r_8, m_10) hq67) rfl ⟨Nat.le_of_ble_eq_true rfl, Nat.le_of_ble_eq_true rfl⟩ ⟨Nat.le_of_ble_eq_true rfl, Nat.le_of_ble_eq_true rfl⟩ (Nat.le_of_ble_eq_true rfl) noX (kkR ?_)
          obtain ⟨g68, h⟩ := grd_some h
          refine s_sipush X (by omega) dL_asked_191 ?_
          refine s_iload X 0 rfl dL_asked_194 ?_
          refine s_imul X g68.1 dL_asked_196 ?_
          refine s_iload X 4 rfl dL_asked_197 ?_
          refine s_iadd X g68.2 dL_asked_199 ?_
          refine s_icmpne_f (tgt := 207) X dL_asked_200 (by omega) (fun c69 => ?_) (fun c70 => ?_)
          · replace h := ite_neg h c69
            refine s_const X (by unfold InR; omega) dL_asked_207 ?_
            exact s_kn rfl rfl (K54 _ _ h)
          · replace h := ite_pos h c70
            refine s_const X (by unfold InR; omega) dL_asked_203 ?_
            refine s_goto (tgt := 208) X dL_asked_204 (by omega) ?_
            exact s_kn rfl rfl (K54 _ _ h)
    · replace h := ite_pos h c47
      have kF172 : ¬ ((¬ is_ = 0) ∧ (choices_ = 0)) → J SHL G rm_L_asked (.inl O) C 24 144 138 [(12, VI choices_), (11, VI is_), (10, VI told_), (9, VI due_), (0, VR 0), (1, VI from_), (2, VI to_), (3, VI minute_), (4, VR 456), (5, VR 457), (6, VR 458), (7, VR 459), (8, VR 460)] [] m_6 := by
        intro c176
        replace h := ite_neg h c176
        refine s_const X (by unfold InR; omega) dL_asked_138 ?_
        exact s_zret X (Or.inl rfl) (Nat.le_of_ble_eq_true rfl) (Nat.le_of_ble_eq_true rfl) (by cases h; exact hO) dL_asked_139
      refine s_iload X 1 rfl dL_asked_110 ?_
      refine s_ifeq_f (tgt := 138) X dL_asked_112 (by omega) (fun c173 => ?_) (fun c174 => ?_)
      · exact kF172 (fun q => c173 q.1)
      · have a177 : ¬ is_ = 0 := c174
        refine s_iload X 0 rfl dL_asked_115 ?_
        refine s_ifne_f (tgt := 138) X dL_asked_117 (by omega) (fun c178 => ?_) (fun c179 => ?_)
        · exact kF172 (fun q => c178 q.2)
        · replace h := ite_pos h ⟨a177, c179⟩
          refine s_load0 X 4 rfl dL_asked_120 ?_
          refine s_iload_n X 5 rfl dL_asked_121 ?_
          refine s_iload_n X 6 rfl dL_asked_122 ?_
          refine s_bipush X (by omega) dL_asked_123 ?_
          refine s_iload_n X 7 rfl dL_asked_125 ?_
          obtain ⟨r_13, m_19, hq181, h⟩ := bq2_some h
          refine s_callSW (As := [VR 0, VI from_, VI to_, VI 10, VI minute_]) X nc cwS_L_141 dL_asked_126 (H_chain G from_ to_ 10 minute_ m_6 (r_13, m_19) hq181) rfl ⟨Nat.le_of_ble_eq_true rfl, Nat.le_of_ble_eq_true rfl⟩ ⟨Nat.le_of_ble_eq_true rfl, Nat.le_of_ble_eq_true rfl⟩ (Nat.le_of_ble_eq_true rfl) noX (kkR ?_)
          refine s_ldc (z := -900003) X (by unfold InR; omega) kc_L_40 dL_asked_129 ?_
          refine s_icmpne_f (tgt := 138) X dL_asked_131 (by omega) (fun c183 => ?_) (fun c184 => ?_)
          · replace h := ite_neg h c183
            refine s_const X (by unfold InR; omega) dL_asked_138 ?_
            exact s_zret X (Or.inl rfl) (Nat.le_of_ble_eq_true rfl) (Nat.le_of_ble_eq_true rfl) (by cases h; exact hO) dL_asked_139
          · replace h := ite_pos h c184
            refine s_const X (by unfold InR; omega) dL_asked_134 ?_
            refine s_goto (tgt := 139) X dL_asked_135 (by omega) ?_
            exact s_zret X (Or.inr rfl) (Nat.le_of_ble_eq_true rfl) (Nat.le_of_ble_eq_true rfl) (by cases h; exact hO) dL_asked_139
  refine s_iload X 0 rfl dL_asked_24 ?_
  have kM12 : J SHL G rm_L_asked (.inl O) C 5 30 40 [(10, VI told_), (9, VI due_), (0, VR 0), (1, VI from_), (2, VI to_), (3, VI minute_), (4, VR 456), (5, VR 457), (6, VR 458), (7, VR 459), (8, VR 460)] [VI (if 1000000 ≤ due_ then (-900003) else due_), VI told_] m_ := by
    refine s_icmpne_f (tgt := 89) X dL_asked_40 (by omega) (fun c15 => ?_) (fun c16 => ?_)
    · replace h := ite_neg h c15
      refine s_const X (by unfold InR; omega) dL_asked_89 ?_
      exact s_kn rfl rfl (K9 _ _ h)
    · replace h := ite_pos h c16
      refine s_load0 X 2 rfl dL_asked_43 ?_
      refine s_iload_n X 3 rfl dL_asked_44 ?_
      refine s_iload_n X 4 rfl dL_asked_45 ?_
      refine s_bipush X (by omega) dL_asked_46 ?_
      refine s_iload_n X 5 rfl dL_asked_48 ?_
      obtain ⟨r_2, m_3, hq19, h⟩ := bq2_some h
      refine s_callSW (As := [VR 0, VI from_, VI to_, VI 10, VI minute_]) X nc cwS_L_133 dL_asked_49 (H_earliestByQueue G from_ to_ 10 minute_ m_ (r_2, m_3) hq19) rfl ⟨Nat.le_of_ble_eq_true rfl, Nat.le_of_ble_eq_true rfl⟩ ⟨Nat.le_of_ble_eq_true rfl, Nat.le_of_ble_eq_true rfl⟩ (Nat.le_of_ble_eq_true rfl) noX (kkR ?_)
      refine s_iload X 0 rfl dL_asked_52 ?_
      refine s_icmpne_f (tgt := 89) X dL_asked_54 (by omega) (fun c21 => ?_) (fun c22 => ?_)
      · replace h := ite_neg h c21
        refine s_const X (by unfold InR; omega) dL_asked_89 ?_
        exact s_kn rfl rfl (K9 _ _ h)
      · replace h := ite_pos h c22
        refine s_load0 X 2 rfl dL_asked_57 ?_
        refine s_iload_n X 3 rfl dL_asked_58 ?_
        refine s_iload_n X 4 rfl dL_asked_59 ?_
        refine s_bipush X (by omega) dL_asked_60 ?_
        refine s_iload_n X 5 rfl dL_asked_62 ?_
        obtain ⟨r_3, m_4, hq25, h⟩ := bq2_some h
        refine s_callSW (As := [VR 0, VI from_, VI to_, VI 10, VI minute_]) X nc cwS_L_135 dL_asked_63 (H_earliestByRounds G from_ to_ 10 minute_ m_3 (r_3, m_4) hq25) rfl ⟨Nat.le_of_ble_eq_true rfl, Nat.le_of_ble_eq_true rfl⟩ ⟨Nat.le_of_ble_eq_true rfl, Nat.le_of_ble_eq_true rfl⟩ (Nat.le_of_ble_eq_true rfl) noX (kkR ?_)
        refine s_iload X 0 rfl dL_asked_66 ?_
        refine s_icmpne_f (tgt := 89) X dL_asked_68 (by omega) (fun c27 => ?_) (fun c28 => ?_)
        · replace h := ite_neg h c27
          refine s_const X (by unfold InR; omega) dL_asked_89 ?_
          exact s_kn rfl rfl (K9 _ _ h)
        · replace h := ite_pos h c28
          refine s_load0 X 2 rfl dL_asked_71 ?_
          refine s_iload_n X 3 rfl dL_asked_72 ?_
          refine s_iload_n X 4 rfl dL_asked_73 ?_
          refine s_bipush X (by omega) dL_asked_74 ?_
          refine s_iload_n X 5 rfl dL_asked_76 ?_
          obtain ⟨r_4, m_5, hq31, h⟩ := bq2_some h
          refine s_callSW (As := [VR 0, VI from_, VI to_, VI 10, VI minute_]) X nc cwS_L_137 dL_asked_77 (H_byPairs G from_ to_ 10 minute_ m_4 (r_4, m_5) hq31) rfl ⟨Nat.le_of_ble_eq_true rfl, Nat.le_of_ble_eq_true rfl⟩ ⟨Nat.le_of_ble_eq_true rfl, Nat.le_of_ble_eq_true rfl⟩ (Nat.le_of_ble_eq_true rfl) noX (kkR ?_)
          refine s_iload X 0 rfl dL_asked_80 ?_
          refine s_icmpne_f (tgt := 89) X dL_asked_82 (by omega) (fun c33 => ?_) (fun c34 => ?_)
          · replace h := ite_neg h c33
            refine s_const X (by unfold InR; omega) dL_asked_89 ?_
            exact s_kn rfl rfl (K9 _ _ h)
          · replace h := ite_pos h c34
            refine s_const X (by unfold InR; omega) dL_asked_85 ?_
            refine s_goto (tgt := 90) X dL_asked_86 (by omega) ?_
            exact s_kn rfl rfl (K9 _ _ h)
  refine s_iload X 1 rfl dL_asked_26 ?_
  refine s_ldc (z := 1000000) X (by unfold InR; omega) kc_L_116 dL_asked_28 ?_
  refine s_icmplt_f (tgt := 38) X dL_asked_30 (by omega) (fun c13 => ?_) (fun c14 => ?_)
  · refine s_iload X 1 rfl dL_asked_38 ?_
    exact s_eqt (if_neg c13) kM12
  · refine s_ldc (z := -900003) X (by unfold InR; omega) kc_L_40 dL_asked_33 ?_
    refine s_goto (tgt := 40) X dL_asked_35 (by omega) ?_
    exact s_eqt (if_pos c14) kM12
def rm_L_rise : Room := { frames := 11, cells := 12029, slots := 72174, locals := 233 }
set_option maxRecDepth 20000 in
set_option maxHeartbeats 8000000 in
theorem L_W_rise (G : Gl) (from_ : Int) (to_ : Int) (m : Mem) (r : (Int × Mem)) (h : W_rise from_ to_ m = some r) : ConM SHL G yL_rise cL_rise 15 (some .boolean) rm_L_rise [VR 0, VI from_, VI to_, VR 456, VR 457, VR 458, VR 459, VR 460] m (((.inl (some (VI r.1)), r.2) : Res × Mem)) := by
  refine conM_of (own := "LastbusLaw") (by decide) rfl (Nat.le_of_ble_eq_true rfl) (fun C X nc => ?_)
  obtain ⟨O, hO⟩ : ∃ O : Res × Mem, O = (((.inl (some (VI r.1)), r.2) : Res × Mem)) := ⟨_, rfl⟩
  rw [← hO]
  show J SHL G rm_L_rise (.inl O) C 0 0 0 [(0, VR 0), (1, VI from_), (2, VI to_), (3, VR 456), (4, VR 457), (5, VR 458), (6, VR 459), (7, VR 460)] [] m
  unfold W_rise at h
  refine s_load0 X 0 rfl dL_rise_0 ?_
  refine s_iload_n X 1 rfl dL_rise_1 ?_
  refine s_iload_n X 2 rfl dL_rise_2 ?_
  refine s_bipush X (by omega) dL_rise_3 ?_
  obtain ⟨r_, m_, hq2, h⟩ := bq2_some h
  refine s_callSW (As := [VR 0, VI from_, VI to_, VI 10]) X nc cwS_L_154 dL_rise_5 (H_pairs G from_ to_ 10 m (r_, m_) hq2) rfl ⟨Nat.le_of_ble_eq_true rfl, Nat.le_of_ble_eq_true rfl⟩ ⟨Nat.le_of_ble_eq_true rfl, Nat.le_of_ble_eq_true rfl⟩ (Nat.le_of_ble_eq_true rfl) noX (kkR ?_)
  obtain ⟨many_, e4, h⟩ := ltv_elim h
  refine s_istore X e4 rfl (by omega) dL_rise_8 ?_
  obtain ⟨kj_, hk6, h⟩ := ltv_elim h
  have K7 : ∀ (v_ : Int) (m_2 : Mem), kj_ v_ m_2 = some r → J SHL G rm_L_rise (.inl O) C 9 54 36 [(8, VI many_), (0, VR 0), (1, VI from_), (2, VI to_), (3, VR 456), (4, VR 457), (5, VR 458), (6, VR 459), (7, VR 460)] [VI v_] m_2 := by
    intro v_ m_2 h
    subst hk6
    dsimp only at h
    obtain ⟨is_, e21, h⟩ := ltv_elim h
    refine s_istore X e21 rfl (by omega) dL_rise_36 ?_
    refine s_const X (by unfold InR; omega) dL_rise_38 ?_
    obtain ⟨k_, e23, h⟩ := ltv_elim h
    refine s_istore X e23 rfl (by omega) dL_rise_39 ?_
    obtain ⟨is_5, k_4, m_11, hl33, h⟩ := bq3_some h
    obtain ⟨fu240, hl34⟩ := loop_iter hl33
    have KX30 : ∀ q9 : Int × Int × Mem, q9 = (is_5, k_4, m_11) → J SHL G rm_L_rise (.inl O) C 12009 72054 221 [(10, VI q9.2.1), (9, VI q9.1), (8, VI many_), (0, VR 0), (1, VI from_), (2, VI to_), (3, VR 456), (4, VR 457), (5, VR 458), (6, VR 459), (7, VR 460)] [] (q9.2.2) := by
      intro q9 e9
      subst e9
      show J SHL G rm_L_rise (.inl O) C 12009 72054 221 [(10, VI k_4), (9, VI is_5), (8, VI many_), (0, VR 0), (1, VI from_), (2, VI to_), (3, VR 456), (4, VR 457), (5, VR 458), (6, VR 459), (7, VR 460)] [] m_11
      obtain ⟨g115, h⟩ := grd_some h
      refine s_iload X 1 rfl dL_rise_221 ?_
      exact s_zret X g115 (Nat.le_of_ble_eq_true rfl) (Nat.le_of_ble_eq_true rfl) (by cases h; exact hO) dL_rise_223
    have LP29 : ∀ (fu24 : Nat) (is_2 : Int) (k_2 : Int) (m_4 : Mem), iter (fun s => W_rise_b1 from_ to_ many_ s.1 s.2.1 s.2.2) fu24 (is_2, k_2, m_4) = some (is_5, k_4, m_11) → J SHL G rm_L_rise (.inl O) C (9 + 20 * k_2.toNat) (54 + 120 * k_2.toNat) 41 [(10, VI k_2), (9, VI is_2), (8, VI many_), (0, VR 0), (1, VI from_), (2, VI to_), (3, VR 456), (4, VR 457), (5, VR 458), (6, VR 459), (7, VR 460)] [] m_4 := by
      intro fu24
      induction fu24 with
      | zero => intro is_2 k_2 m_4 hn25; exact absurd hn25 (by simp [iter])
      | succ fu24 ih28 =>
        intro is_2 k_2 m_4 hn25
        obtain ⟨x26, h, hc27⟩ := iter_succ hn25
        replace h : W_rise_b1 from_ to_ many_ is_2 k_2 m_4 = some x26 := h
        unfold W_rise_b1 at h
        obtain ⟨g35, h⟩ := grd_some h
        have b0k_2 : 0 ≤ k_2 := g35.1
        have b1k_2 : k_2 ≤ 600 := g35.2
        refine s_iload X 0 rfl dL_rise_41 ?_
        refine s_iload X 2 rfl dL_rise_43 ?_
        refine s_icmpge_f (tgt := 221) X dL_rise_45 (by omega) (fun c38 => ?_) (fun c39 => ?_)
        · replace h := ite_neg h c38
          exact s_le (by omega) (by omega) (KX30 _ (iter_exit h hc27))
        · replace h := ite_pos h c39
          refine s_load0 X 3 rfl dL_rise_48 ?_
          refine s_iload_n X 4 rfl dL_rise_49 ?_
          refine s_iload_n X 5 rfl dL_rise_50 ?_
          refine s_bipush X (by omega) dL_rise_51 ?_
          refine s_iload X 0 rfl dL_rise_53 ?_
          refine s_const X (by unfold InR; omega) dL_rise_55 ?_
          obtain ⟨r_3, m_5, hq41, h⟩ := bq2_some h
          refine s_callSW (As := [VR 0, VI from_, VI to_, VI 10, VI k_2, VI 0]) X nc cwS_L_156 dL_rise_56 (H_pair G from_ to_ 10 k_2 0 m_4 (r_3, m_5) hq41) rfl ⟨Nat.le_of_ble_eq_true rfl, Nat.le_of_ble_eq_true rfl⟩ ⟨by rw [show rm_L_pair.cells = 5 from rfl, show rm_L_rise.cells = 12029 from rfl]; omega, by rw [show rm_L_pair.slots = 30 from rfl, show rm_L_rise.slots = 72174 from rfl]; omega⟩ (Nat.le_of_ble_eq_true rfl) noX (kkR ?_)
          refine s_le (k' := (14 + 20 * k_2.toNat)) (n' := (84 + 120 * k_2.toNat)) (by rw [show rm_L_pair.cells = 5 from rfl]; omega) (by rw [show rm_L_pair.slots = 30 from rfl]; omega) ?_
          obtain ⟨leave_, e43, h⟩ := ltv_elim h
          refine s_istore X e43 rfl (by omega) dL_rise_59 ?_
          refine s_load0 X 4 rfl dL_rise_61 ?_
          refine s_iload_n X 5 rfl dL_rise_62 ?_
          refine s_iload_n X 6 rfl dL_rise_63 ?_
          refine s_bipush X (by omega) dL_rise_64 ?_
          refine s_iload X 1 rfl dL_rise_66 ?_
          refine s_const X (by unfold InR; omega) dL_rise_68 ?_
          obtain ⟨r_4, m_6, hq45, h⟩ := bq2_some h
          refine s_callSW (As := [VR 0, VI from_, VI to_, VI 10, VI k_2, VI 1]) X nc cwS_L_156 dL_rise_69 (H_pair G from_ to_ 10 k_2 1 m_5 (r_4, m_6) hq45) rfl ⟨Nat.le_of_ble_eq_true rfl, Nat.le_of_ble_eq_true rfl⟩ ⟨by rw [show rm_L_pair.cells = 5 from rfl, show rm_L_rise.cells = 12029 from rfl]; omega, by rw [show rm_L_pair.slots = 30 from rfl, show rm_L_rise.slots = 72174 from rfl]; omega⟩ (Nat.le_of_ble_eq_true rfl) noX (kkR ?_)
          refine s_le (k' := (19 + 20 * k_2.toNat)) (n' := (114 + 120 * k_2.toNat)) (by rw [show rm_L_pair.cells = 5 from rfl]; omega) (by rw [show rm_L_pair.slots = 30 from rfl]; omega) ?_
          obtain ⟨come_, e47, h⟩ := ltv_elim h
          refine s_istore X e47 rfl (by omega) dL_rise_72 ?_
          refine s_iload X 3 rfl dL_rise_74 ?_
          obtain ⟨kj_2, hk49, h⟩ := ltv_elim h
          have K50 : ∀ (v_2 : Int) (m_7 : Mem), kj_2 v_2 m_7 = some x26 → J SHL G rm_L_rise (.inl O) C (29 + 20 * k_2.toNat) (174 + 120 * k_2.toNat) 134 [(12, VI come_), (11, VI leave_), (10, VI k_2), (9, VI is_2), (8, VI many_), (0, VR 0), (1, VI from_), (2, VI to_), (3, VR 456), (4, VR 457), (5, VR 458), (6, VR 459), (7, VR 460)] [VI v_2, VI is_2] m_7 := by
            intro v_2 m_7 h
            subst hk49
            dsimp only at h
            refine s_iand X dL_rise_134 ?_
            obtain ⟨is_3, e80, h⟩ := ltv_elim h
            refine s_istore X e80 rfl (by omega) dL_rise_135 ?_
            refine s_iload_n X 6 rfl dL_rise_137 ?_
            refine s_iload X 2 rfl dL_rise_138 ?_
            refine s_const X (by unfold InR; omega) dL_rise_140 ?_
            refine s_load0 X 8 rfl dL_rise_141 ?_
            refine s_loadR X 9 rfl dL_rise_142 ?_
            refine s_loadR X 10 rfl dL_rise_144 ?_
            refine s_loadR X 11 rfl dL_rise_146 ?_
            refine s_loadR X 12 rfl dL_rise_148 ?_
            obtain ⟨m_10, hq82, h⟩ := bnd_some h
            refine s_callSM (As := [VI from_, VI leave_, VI (-1), VR 456, VR 457, VR 458, VR 459, VR 460]) X nc cw_L_159 dL_rise_150 (L_W_reach G from_ leave_ (-1) m_7 m_10 hq82) rfl ⟨Nat.le_of_ble_eq_true rfl, Nat.le_of_ble_eq_true rfl⟩ ⟨by rw [show rm_L_reach.cells = 0 from rfl, show rm_L_rise.cells = 12029 from rfl]; omega, by rw [show rm_L_reach.slots = 0 from rfl, show rm_L_rise.slots = 72174 from rfl]; omega⟩ (Nat.le_of_ble_eq_true rfl) noX (kkU ?_)
            refine s_le (k' := (29 + 20 * k_2.toNat)) (n' := (174 + 120 * k_2.toNat)) (by rw [show rm_L_reach.cells = 0 from rfl]; omega) (by rw [show rm_L_reach.slots = 0 from rfl]; omega) ?_
            refine s_ldc (z := 1000000) X (by unfold InR; omega) kc_L_116 dL_rise_153 ?_
            obtain ⟨due_, e85, h⟩ := ltv_elim h
            refine s_istore X e85 rfl (by omega) dL_rise_155 ?_
            refine s_const X (by unfold InR; omega) dL_rise_157 ?_
            obtain ⟨v_3, e87, h⟩ := ltv_elim h
            refine s_istore X e87 rfl (by omega) dL_rise_158 ?_
            obtain ⟨due_4, v_6, hl97, h⟩ := bq2_some h
            obtain ⟨fu880, hl98⟩ := loop_iter hl97
            have KX94 : ∀ q9 : Int × Int, q9 = (due_4, v_6) → J SHL G rm_L_rise (.inl O) C (29 + 20 * k_2.toNat) (174 + 120 * k_2.toNat) 198 [(14, VI q9.2), (13, VI q9.1), (9, VI is_3), (12, VI come_), (11, VI leave_), (10, VI k_2), (8, VI many_), (0, VR 0), (1, VI from_), (2, VI to_), (3, VR 456), (4, VR 457), (5, VR 458), (6, VR 459), (7, VR 460)] [] m_10 := by
              intro q9 e9
              subst e9
              show J SHL G rm_L_rise (.inl O) C (29 + 20 * k_2.toNat) (174 + 120 * k_2.toNat) 198 [(14, VI v_6), (13, VI due_4), (9, VI is_3), (12, VI come_), (11, VI leave_), (10, VI k_2), (8, VI many_), (0, VR 0), (1, VI from_), (2, VI to_), (3, VR 456), (4, VR 457), (5, VR 458), (6, VR 459), (7, VR 460)] [] m_10
              refine s_iload X 2 rfl dL_rise_198 ?_
              have kM109 : J SHL G rm_L_rise (.inl O) C (29 + 20 * k_2.toNat) (174 + 120 * k_2.toNat) 212 [(14, VI v_6), (13, VI due_4), (9, VI is_3), (12, VI come_), (11, VI leave_), (10, VI k_2), (8, VI many_), (0, VR 0), (1, VI from_), (2, VI to_), (3, VR 456), (4, VR 457), (5, VR 458), (6, VR 459), (7, VR 460)] [VI (if due_4 = come_ then 1 else 0), VI is_3] m_10 := by
                refine s_iand X dL_rise_212 ?_
                obtain ⟨is_4, e112, h⟩ := ltv_elim h
                refine s_istore X e112 rfl (by omega) dL_rise_213 ?_
                obtain ⟨g113, h⟩ := grd_some h
                obtain ⟨k_3, e114, h⟩ := ltv_elim h
                refine s_iinc X 5 rfl g113 e114 rfl (by omega) dL_rise_215 ?_
                refine s_goto (tgt := 41) X dL_rise_218 (by omega) ?_
                refine s_loc [0, 1, 6, 7, 8, 9, 10, 11, 12, 13, 14] rfl ?_
                exact s_le (by omega) (by omega) (ih28 _ _ _ (iter_next h hc27))
              refine s_iload X 1 rfl dL_rise_200 ?_
              refine s_iload X 3 rfl dL_rise_202 ?_
              refine s_icmpne_f (tgt := 211) X dL_rise_204 (by omega) (fun c110 => ?_) (fun c111 => ?_)
              · refine s_const X (by unfold InR; omega) dL_rise_211 ?_
                exact s_eqt (if_neg c110) kM109
              · refine s_const X (by unfold InR; omega) dL_rise_207 ?_
                refine s_goto (tgt := 212) X dL_rise_208 (by omega) ?_
                exact s_eqt (if_pos c111) kM109
            have LP93 : ∀ (fu88 : Nat) (due_2 : Int) (v_4 : Int), iter (fun s => W_rise_b2 to_ m_10 s.1 s.2) fu88 (due_2, v_4) = some (due_4, v_6) → J SHL G rm_L_rise (.inl O) C (29 + 20 * k_2.toNat) (174 + 120 * k_2.toNat) 160 [(14, VI v_4), (13, VI due_2), (9, VI is_3), (12, VI come_), (11, VI leave_), (10, VI k_2), (8, VI many_), (0, VR 0), (1, VI from_), (2, VI to_), (3, VR 456), (4, VR 457), (5, VR 458), (6, VR 459), (7, VR 460)] [] m_10 := by
              intro fu88
              induction fu88 with
              | zero => intro due_2 v_4 hn89; exact absurd hn89 (by simp [iter])
              | succ fu88 ih92 =>
                intro due_2 v_4 hn89
                obtain ⟨x90, h, hc91⟩ := iter_succ hn89
                replace h : W_rise_b2 to_ m_10 due_2 v_4 = some x90 := h
                unfold W_rise_b2 at h
                refine s_iload X 0 rfl dL_rise_160 ?_
                refine s_load0 X 10 rfl dL_rise_162 ?_
                refine s_bipush X (by omega) dL_rise_163 ?_
                refine s_iald X SHL_456 (by omega) (by omega) dL_rise_165 ?_
                refine s_icmpge_f (tgt := 198) X dL_rise_166 (by omega) (fun c102 => ?_) (fun c103 => ?_)
                · replace h := ite_neg h c102
                  exact KX94 _ (iter_exit h hc91)
                · replace h := ite_pos h c103
                  obtain ⟨g104, h⟩ := grd_some h
                  refine s_iload X 1 rfl dL_rise_169 ?_
                  refine s_loadR X 14 rfl dL_rise_171 ?_
                  refine s_iload X 0 rfl dL_rise_173 ?_
                  refine s_iald X SHL_460 g104.1 g104.2.1 dL_rise_175 ?_
                  refine s_loadR X 11 rfl dL_rise_176 ?_
                  refine s_bipush X (by omega) dL_rise_178 ?_
                  refine s_iload X 0 rfl dL_rise_180 ?_
                  refine s_imul X g104.2.2.1 dL_rise_182 ?_
                  refine s_iload_n X 9 rfl dL_rise_183 ?_
                  refine s_iadd X g104.2.2.2.1 dL_rise_184 ?_
                  refine s_iald X SHL_457 g104.2.2.2.2.1 g104.2.2.2.2.2.1 dL_rise_185 ?_
                  refine s_iadd X g104.2.2.2.2.2.2 dL_rise_186 ?_
                  refine s_callSM (As := [VI due_2, VI (m_10 460 v_4.toNat + (m_10 457 (6 * v_4 + to_).toNat))]) X nc cw_L_127 dL_rise_187 (L_W_least G due_2 (m_10 460 v_4.toNat + (m_10 457 (6 * v_4 + to_).toNat)) m_10) rfl ⟨Nat.le_of_ble_eq_true rfl, Nat.le_of_ble_eq_true rfl⟩ ⟨by rw [show rm_L_least.cells = 0 from rfl, show rm_L_rise.cells = 12029 from rfl]; omega, by rw [show rm_L_least.slots = 0 from rfl, show rm_L_rise.slots = 72174 from rfl]; omega⟩ (Nat.le_of_ble_eq_true rfl) noX (kkR ?_)
                  refine s_le (k' := (29 + 20 * k_2.toNat)) (n' := (174 + 120 * k_2.toNat)) (by rw [show rm_L_least.cells = 0 from rfl]; omega) (by rw [show rm_L_least.slots = 0 from rfl]; omega) ?_
                  obtain ⟨due_3, e105, h⟩ := ltv_elim h
                  refine s_istore X e105 rfl (by omega) dL_rise_190 ?_
                  obtain ⟨g106, h⟩ := grd_some h
                  obtain ⟨v_5, e107, h⟩ := ltv_elim h
                  refine s_iinc X 1 rfl g106 e107 rfl (by omega) dL_rise_192 ?_
                  refine s_goto (tgt := 160) X dL_rise_195 (by omega) ?_
                  exact ih92 _ _ (iter_next h hc91)
            exact LP93 _ _ _ hl98
          have kF52 : ¬ ((0 ≤ leave_) ∧ (leave_ < come_)) → J SHL G rm_L_rise (.inl O) C (19 + 20 * k_2.toNat) (114 + 120 * k_2.toNat) 133 [(12, VI come_), (11, VI leave_), (10, VI k_2), (9, VI is_2), (8, VI many_), (0, VR 0), (1, VI from_), (2, VI to_), (3, VR 456), (4, VR 457), (5, VR 458), (6, VR 459), (7, VR 460)] [VI is_2] m_6 := by
            intro c56
            replace h := ite_neg h c56
            refine s_const X (by unfold InR; omega) dL_rise_133 ?_
            exact s_le (by omega) (by omega) (K50 _ _ h)
          refine s_iload X 1 rfl dL_rise_76 ?_
          refine s_iflt_f (tgt := 133) X dL_rise_78 (by omega) (fun c53 => ?_) (fun c54 => ?_)
          · exact kF52 (fun q => c53 q.1)
          · have a57 : 0 ≤ leave_ := c54
            refine s_iload X 0 rfl dL_rise_81 ?_
            refine s_iload X 1 rfl dL_rise_83 ?_
            refine s_icmple_f (tgt := 133) X dL_rise_85 (by omega) (fun c58 => ?_) (fun c59 => ?_)
            · exact kF52 (fun q => c58 q.2)
            · replace h := ite_pos h ⟨a57, c59⟩
              refine s_iload X 2 rfl dL_rise_88 ?_
              refine s_ifeq_t (tgt := 129) X dL_rise_90 (by omega) (fun c63 => ?_) (fun c64 => ?_)
              · replace h := ite_pos h c63
                refine s_const X (by unfold InR; omega) dL_rise_129 ?_
                refine s_goto (tgt := 134) X dL_rise_130 (by omega) ?_
                exact s_le (by omega) (by omega) (K50 _ _ h)
              · replace h := ite_neg h c64
                obtain ⟨g66, h⟩ := grd_some h
                refine s_iload X 1 rfl dL_rise_93 ?_
                refine s_load0 X 5 rfl dL_rise_95 ?_
                refine s_iload_n X 6 rfl dL_rise_96 ?_
                refine s_iload_n X 7 rfl dL_rise_97 ?_
                refine s_bipush X (by omega) dL_rise_98 ?_
                refine s_iload X 2 rfl dL_rise_100 ?_
                refine s_const X (by unfold InR; omega) dL_rise_102 ?_
                refine s_isub X g66 dL_rise_103 ?_
                refine s_const X (by unfold InR; omega) dL_rise_104 ?_
                obtain ⟨r_5, m_8, hq67, h⟩ := bq2_some h
                refine s_callSW (As := [VR 0, VI from_, VI to_, VI 10, VI (k_2 - 1), VI 0]) X nc cwS_L_156 dL_rise_105 (H_pair G from_ to_ 10 (k_2 - 1) 0 m_6 (r_5, m_8) hq67) rfl ⟨Nat.le_of_ble_eq_true rfl, Nat.le_of_ble_eq_true rfl⟩ ⟨by rw [show rm_L_pair.cells = 5 from rfl, show rm_L_rise.cells = 12029 from rfl]; omega, by rw [show rm_L_pair.slots = 30 from rfl, show rm_L_rise.slots = 72174 from rfl]; omega⟩ (Nat.le_of_ble_eq_true rfl) noX (kkR ?_)
                refine s_le (k' := (24 + 20 * k_2.toNat)) (n' := (144 + 120 * k_2.toNat)) (by rw [show rm_L_pair.cells = 5 from rfl]; omega) (by rw [show rm_L_pair.slots = 30 from rfl]; omega) ?_
                refine s_icmple_f (tgt := 133) X dL_rise_108 (by omega) (fun c69 => ?_) (fun c70 => ?_)
                · replace h := ite_neg h c69
                  refine s_const X (by unfold InR; omega) dL_rise_133 ?_
                  exact s_le (by omega) (by omega) (K50 _ _ h)
                · replace h := ite_pos h c70
                  refine s_iload X 0 rfl dL_rise_111 ?_
                  refine s_load0 X 5 rfl dL_rise_113 ?_
                  refine s_iload_n X 6 rfl dL_rise_114 ?_
                  refine s_iload_n X 7 rfl dL_rise_115 ?_
                  refine s_bipush X (by omega) dL_rise_116 ?_
                  refine s_iload X 2 rfl dL_rise_118 ?_
                  refine s_const X (by unfold InR; omega) dL_rise_120 ?_
                  refine s_isub X g66 dL_rise_121 ?_
                  refine s_const X (by unfold InR; omega) dL_rise_122 ?_
                  obtain ⟨r_6, m_9, hq73, h⟩ := bq2_some h
                  refine s_callSW (As := [VR 0, VI from_, VI to_, VI 10, VI (k_2 - 1), VI 1]) X nc cwS_L_156 dL_rise_123 (H_pair G from_ to_ 10 (k_2 - 1) 1 m_8 (r_6, m_9) hq73) rfl ⟨Nat.le_of_ble_eq_true rfl, Nat.le_of_ble_eq_true rfl⟩ ⟨by rw [show rm_L_pair.cells = 5 from rfl, show rm_L_rise.cells = 12029 from rfl]; omega, by rw [show rm_L_pair.slots = 30 from rfl, show rm_L_rise.slots = 72174 from rfl]; omega⟩ (Nat.le_of_ble_eq_true rfl) noX (kkR ?_)
                  refine s_le (k' := (29 + 20 * k_2.toNat)) (n' := (174 + 120 * k_2.toNat)) (by rw [show rm_L_pair.cells = 5 from rfl]; omega) (by rw [show rm_L_pair.slots = 30 from rfl]; omega) ?_
                  refine s_icmple_f (tgt := 133) X dL_rise_126 (by omega) (fun c75 => ?_) (fun c76 => ?_)
                  · replace h := ite_neg h c75
                    refine s_const X (by unfold InR; omega) dL_rise_133 ?_
                    exact s_le (by omega) (by omega) (K50 _ _ h)
                  · replace h := ite_pos h c76
                    refine s_const X (by unfold InR; omega) dL_rise_129 ?_
                    refine s_goto (tgt := 134) X dL_rise_130 (by omega) ?_
                    exact s_le (by omega) (by omega) (K50 _ _ h)
    exact s_le (by first | omega | exact Nat.le_of_ble_eq_true rfl | (simp only [rm_L_draw, rm_L_isSound, rm_L_vehicles, rm_L_vehiclesByMatching, rm_L_stop, rm_L_walk, rm_L_service, rm_L_week, rm_L_putDay, rm_L_trip, rm_L_call, rm_L_close, rm_L_drawn]; omega)) (by first | omega | exact Nat.le_of_ble_eq_true rfl | (simp only [rm_L_draw, rm_L_isSound, rm_L_vehicles, rm_L_vehiclesByMatching, rm_L_stop, rm_L_walk, rm_L_service, rm_L_week, rm_L_putDay, rm_L_trip, rm_L_call, rm_L_close, rm_L_drawn]; omega)) (LP29 _ _ _ _ hl34)
  refine s_iload X 0 rfl dL_rise_10 ?_
  refine s_iflt_f (tgt := 35) X dL_rise_12 (by omega) (fun c10 => ?_) (fun c11 => ?_)
  · replace h := ite_neg h c10
    refine s_const X (by unfold InR; omega) dL_rise_35 ?_
    exact s_kn rfl rfl (K7 _ _ h)
  · replace h := ite_pos h c11
    refine s_load0 X 1 rfl dL_rise_15 ?_
    refine s_iload_n X 2 rfl dL_rise_16 ?_
    refine s_iload_n X 3 rfl dL_rise_17 ?_
    refine s_bipush X (by omega) dL_rise_18 ?_
    refine s_iload X 0 rfl dL_rise_20 ?_
    refine s_const X (by unfold InR; omega) dL_rise_22 ?_
    obtain ⟨r_2, m_3, hq14, h⟩ := bq2_some h
    refine s_callSW (As := [VR 0, VI from_, VI to_, VI 10, VI many_, VI 1]) X nc cwS_L_156 dL_rise_23 (H_pair G from_ to_ 10 many_ 1 m_ (r_2, m_3) hq14) rfl ⟨Nat.le_of_ble_eq_true rfl, Nat.le_of_ble_eq_true rfl⟩ ⟨Nat.le_of_ble_eq_true rfl, Nat.le_of_ble_eq_true rfl⟩ (Nat.le_of_ble_eq_true rfl) noX (kkR ?_)
    refine s_ldc (z := -900003) X (by unfold InR; omega) kc_L_40 dL_rise_26 ?_
    refine s_icmpne_f (tgt := 35) X dL_rise_28 (by omega) (fun c16 => ?_) (fun c17 => ?_)
    · replace h := ite_neg h c16
      refine s_const X (by unfold InR; omega) dL_rise_35 ?_
      exact s_kn rfl rfl (K7 _ _ h)
    · replace h := ite_pos h c17
      refine s_const X (by unfold InR; omega) dL_rise_31 ?_
      refine s_goto (tgt := 36) X dL_rise_32 (by omega) ?_
      exact s_kn rfl rfl (K7 _ _ h)
