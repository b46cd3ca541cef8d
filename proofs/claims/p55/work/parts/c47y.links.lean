/-! ===== the law's methods, walked (printed by a program) ===== -/
def rm_L_drawn : Room := { frames := 10, cells := 669, slots := 4014, locals := 174 }
set_option maxRecDepth 20000 in
set_option maxHeartbeats 8000000 in
theorem L_W_drawn (G : Gl)  (m : Mem) (r : (Int × Mem)) (h : W_drawn  m = some r) : ConM SHL G yL_drawn cL_drawn 13 (some .boolean) rm_L_drawn [VR 0, VR 455, VR 456, VR 457, VR 458] m (((.inl (some (VI r.1)), r.2) : Res × Mem)) := by
  refine conM_of (own := "LastbusLaw") (by decide) rfl (Nat.le_of_ble_eq_true rfl) (fun C X nc => ?_)
  obtain ⟨O, hO⟩ : ∃ O : Res × Mem, O = (((.inl (some (VI r.1)), r.2) : Res × Mem)) := ⟨_, rfl⟩
  rw [← hO]
  show J SHL G rm_L_drawn (.inl O) C 0 0 0 [(0, VR 0), (1, VR 455), (2, VR 456), (3, VR 457), (4, VR 458)] [] m
  unfold W_drawn at h
  refine s_const X (by unfold InR; omega) dL_drawn_0 ?_
  refine s_load0 X 1 rfl dL_drawn_1 ?_
  refine s_const X (by unfold InR; omega) dL_drawn_2 ?_
  obtain ⟨r_, m_, hq2, h⟩ := bq2_some h
  refine s_callSM (As := [VR 455, VI 3]) X nc cw_L_98 dL_drawn_3 (L_W_draw G 3 m (r_, m_) hq2) rfl ⟨Nat.le_of_ble_eq_true rfl, Nat.le_of_ble_eq_true rfl⟩ ⟨Nat.le_of_ble_eq_true rfl, Nat.le_of_ble_eq_true rfl⟩ (Nat.le_of_ble_eq_true rfl) noX (kkR ?_)
  obtain ⟨g3, h⟩ := grd_some h
  refine s_iadd X g3 dL_drawn_6 ?_
  obtain ⟨n_, e4, h⟩ := ltv_elim h
  refine s_istore X e4 rfl (by omega) dL_drawn_7 ?_
  refine s_load0 X 3 rfl dL_drawn_9 ?_
  refine s_bipush X (by omega) dL_drawn_10 ?_
  refine s_iload X 0 rfl dL_drawn_12 ?_
  obtain ⟨m_2, e6, h⟩ := ltv_elim h
  refine s_iast X e6 SHL_456 (by omega) (by omega) dL_drawn_14 ?_
  obtain ⟨kj_, hk8, h⟩ := ltv_elim h
  have K9 : ∀ (v_ : Int) (m_3 : Mem), kj_ v_ m_3 = some r → J SHL G rm_L_drawn (.inl O) C 9 54 61 [(5, VI n_), (0, VR 0), (1, VR 455), (2, VR 456), (3, VR 457), (4, VR 458)] [VI v_] m_3 := by
    intro v_ m_3 h
    subst hk8
    dsimp only at h
    obtain ⟨is_, e35, h⟩ := ltv_elim h
    refine s_istore X e35 rfl (by omega) dL_drawn_61 ?_
    refine s_const X (by unfold InR; omega) dL_drawn_63 ?_
    obtain ⟨v_2, e37, h⟩ := ltv_elim h
    refine s_istore X e37 rfl (by omega) dL_drawn_64 ?_
    obtain ⟨is_4, v_6, m_13, hl47, h⟩ := bq3_some h
    obtain ⟨fu380, hl48⟩ := loop_iter hl47
    have KX44 : ∀ q9 : Int × Int × Mem, q9 = (is_4, v_6, m_13) → J SHL G rm_L_drawn (.inl O) C 21 126 112 [(7, VI q9.2.1), (6, VI q9.1), (5, VI n_), (0, VR 0), (1, VR 455), (2, VR 456), (3, VR 457), (4, VR 458)] [] (q9.2.2) := by
      intro q9 e9
      subst e9
      show J SHL G rm_L_drawn (.inl O) C 21 126 112 [(7, VI v_6), (6, VI is_4), (5, VI n_), (0, VR 0), (1, VR 455), (2, VR 456), (3, VR 457), (4, VR 458)] [] m_13
      refine s_const X (by unfold InR; omega) dL_drawn_112 ?_
      obtain ⟨a_, e72, h⟩ := ltv_elim h
      refine s_istore X e72 rfl (by omega) dL_drawn_113 ?_
      obtain ⟨a_4, m_18, hl82, h⟩ := bq2_some h
      obtain ⟨fu730, hl83⟩ := loop_iter hl82
      have KX79 : ∀ q9 : Int × Mem, q9 = (a_4, m_18) → J SHL G rm_L_drawn (.inl O) C 21 126 167 [(7, VI q9.1), (6, VI is_4), (5, VI n_), (0, VR 0), (1, VR 455), (2, VR 456), (3, VR 457), (4, VR 458)] [] (q9.2) := by
        intro q9 e9
        subst e9
        show J SHL G rm_L_drawn (.inl O) C 21 126 167 [(7, VI a_4), (6, VI is_4), (5, VI n_), (0, VR 0), (1, VR 455), (2, VR 456), (3, VR 457), (4, VR 458)] [] m_18
        refine s_const X (by unfold InR; omega) dL_drawn_167 ?_
        obtain ⟨a_5, e117, h⟩ := ltv_elim h
        refine s_istore X e117 rfl (by omega) dL_drawn_168 ?_
        obtain ⟨is_9, a_8, m_28, hl127, h⟩ := bq3_some h
        obtain ⟨fu1180, hl128⟩ := loop_iter hl127
        have KX124 : ∀ q9 : Int × Int × Mem, q9 = (is_9, a_8, m_28) → J SHL G rm_L_drawn (.inl O) C 189 1134 267 [(7, VI q9.2.1), (6, VI q9.1), (5, VI n_), (0, VR 0), (1, VR 455), (2, VR 456), (3, VR 457), (4, VR 458)] [] (q9.2.2) := by
          intro q9 e9
          subst e9
          show J SHL G rm_L_drawn (.inl O) C 189 1134 267 [(7, VI a_8), (6, VI is_9), (5, VI n_), (0, VR 0), (1, VR 455), (2, VR 456), (3, VR 457), (4, VR 458)] [] m_28
          refine s_const X (by unfold InR; omega) dL_drawn_267 ?_
          refine s_load0 X 4 rfl dL_drawn_268 ?_
          refine s_bipush X (by omega) dL_drawn_269 ?_
          obtain ⟨r_11, m_29, hq183, h⟩ := bq2_some h
          refine s_callSM (As := [VR 455, VI 7]) X nc cw_L_98 dL_drawn_271 (L_W_draw G 7 m_28 (r_11, m_29) hq183) rfl ⟨Nat.le_of_ble_eq_true rfl, Nat.le_of_ble_eq_true rfl⟩ ⟨Nat.le_of_ble_eq_true rfl, Nat.le_of_ble_eq_true rfl⟩ (Nat.le_of_ble_eq_true rfl) noX (kkR ?_)
          obtain ⟨g184, h⟩ := grd_some h
          refine s_iadd X g184 dL_drawn_274 ?_
          obtain ⟨trips_, e185, h⟩ := ltv_elim h
          refine s_istore X e185 rfl (by omega) dL_drawn_275 ?_
          refine s_loadR X 7 rfl dL_drawn_277 ?_
          refine s_const X (by unfold InR; omega) dL_drawn_279 ?_
          refine s_iload X 0 rfl dL_drawn_280 ?_
          obtain ⟨m_30, e187, h⟩ := ltv_elim h
          refine s_iast X e187 SHL_458 (by omega) (by omega) dL_drawn_282 ?_
          refine s_const X (by unfold InR; omega) dL_drawn_283 ?_
          obtain ⟨k_, e189, h⟩ := ltv_elim h
          refine s_istore X e189 rfl (by omega) dL_drawn_284 ?_
          obtain ⟨is_14, k_4, m_53, hl199, h⟩ := bq3_some h
          obtain ⟨fu1900, hl200⟩ := loop_iter hl199
          have KX196 : ∀ q9 : Int × Int × Mem, q9 = (is_14, k_4, m_53) → J SHL G rm_L_drawn (.inl O) C 594 3564 544 [(8, VI q9.2.1), (7, VI trips_), (6, VI q9.1), (5, VI n_), (0, VR 0), (1, VR 455), (2, VR 456), (3, VR 457), (4, VR 458)] [] (q9.2.2) := by
            intro q9 e9
            subst e9
            show J SHL G rm_L_drawn (.inl O) C 594 3564 544 [(8, VI k_4), (7, VI trips_), (6, VI is_14), (5, VI n_), (0, VR 0), (1, VR 455), (2, VR 456), (3, VR 457), (4, VR 458)] [] m_53
            obtain ⟨g309, h⟩ := grd_some h
            refine s_iload X 2 rfl dL_drawn_544 ?_
            exact s_zret X g309 (Nat.le_of_ble_eq_true rfl) (Nat.le_of_ble_eq_true rfl) (by cases h; exact hO) dL_drawn_546
          have LP195 : ∀ (fu190 : Nat) (is_10 : Int) (k_2 : Int) (m_31 : Mem), iter (fun s => W_drawn_b6 n_ trips_ s.1 s.2.1 s.2.2) fu190 (is_10, k_2, m_31) = some (is_14, k_4, m_53) → J SHL G rm_L_drawn (.inl O) C (189 + 45 * k_2.toNat) (1134 + 270 * k_2.toNat) 286 [(8, VI k_2), (7, VI trips_), (6, VI is_10), (5, VI n_), (0, VR 0), (1, VR 455), (2, VR 456), (3, VR 457), (4, VR 458)] [] m_31 := by
            intro fu190
            induction fu190 with
            | zero => intro is_10 k_2 m_31 hn191; exact absurd hn191 (by simp [iter])
            | succ fu190 ih194 =>
              intro is_10 k_2 m_31 hn191
              obtain ⟨x192, h, hc193⟩ := iter_succ hn191
              replace h : W_drawn_b6 n_ trips_ is_10 k_2 m_31 = some x192 := h
              unfold W_drawn_b6 at h
              obtain ⟨g201, h⟩ := grd_some h
              have b0k_2 : 0 ≤ k_2 := g201.1
              have b1k_2 : k_2 ≤ 9 := g201.2
              refine s_iload X 0 rfl dL_drawn_286 ?_
              refine s_iload X 1 rfl dL_drawn_288 ?_
              refine s_icmpge_f (tgt := 544) X dL_drawn_290 (by omega) (fun c204 => ?_) (fun c205 => ?_)
              · replace h := ite_neg h c204
                exact s_le (by omega) (by omega) (KX196 _ (iter_exit h hc193))
              · replace h := ite_pos h c205
                obtain ⟨g206, h⟩ := grd_some h
                refine s_const X (by unfold InR; omega) dL_drawn_293 ?_
                refine s_bipush X (by omega) dL_drawn_294 ?_
                refine s_iload X 0 rfl dL_drawn_296 ?_
                refine s_imul X g206.1 dL_drawn_298 ?_
                refine s_iadd X g206.2 dL_drawn_299 ?_
                obtain ⟨at_, e207, h⟩ := ltv_elim h
                refine s_istore X e207 rfl (by omega) dL_drawn_300 ?_
                obtain ⟨g208, h⟩ := grd_some h
                refine s_loadR X 9 rfl dL_drawn_302 ?_
                refine s_iload X 0 rfl dL_drawn_304 ?_
                obtain ⟨kj_4, hk209, h⟩ := ltv_elim h
                have K210 : ∀ (v_8 : Int) (m_32 : Mem), kj_4 v_8 m_32 = some x192 → J SHL G rm_L_drawn (.inl O) C (189 + 45 * k_2.toNat) (1134 + 270 * k_2.toNat) 319 [(9, VI at_), (8, VI k_2), (7, VI trips_), (6, VI is_10), (5, VI n_), (0, VR 0), (1, VR 455), (2, VR 456), (3, VR 457), (4, VR 458)] [VI v_8, VI at_, VR 458] m_32 := by
                  intro v_8 m_32 h
                  subst hk209
                  dsimp only at h
                  obtain ⟨m_34, e218, h⟩ := ltv_elim h
                  refine s_iast X e218 SHL_458 g208.1 g208.2 dL_drawn_319 ?_
                  obtain ⟨g219, h⟩ := grd_some h
                  refine s_loadR X 9 rfl dL_drawn_320 ?_
                  refine s_iload X 0 rfl dL_drawn_322 ?_
                  refine s_const X (by unfold InR; omega) dL_drawn_324 ?_
                  refine s_iadd X g219.1 dL_drawn_325 ?_
                  refine s_const X (by unfold InR; omega) dL_drawn_326 ?_
                  refine s_load0 X 6 rfl dL_drawn_327 ?_
                  refine s_const X (by unfold InR; omega) dL_drawn_328 ?_
                  obtain ⟨r_13, m_35, hq220, h⟩ := bq2_some h
                  refine s_callSM (As := [VR 455, VI 3]) X nc cw_L_98 dL_drawn_329 (L_W_draw G 3 m_34 (r_13, m_35) hq220) rfl ⟨Nat.le_of_ble_eq_true rfl, Nat.le_of_ble_eq_true rfl⟩ ⟨by rw [show rm_L_draw.cells = 0 from rfl, show rm_L_drawn.cells = 669 from rfl]; omega, by rw [show rm_L_draw.slots = 0 from rfl, show rm_L_drawn.slots = 4014 from rfl]; omega⟩ (Nat.le_of_ble_eq_true rfl) noX (kkR ?_)
                  refine s_le (k' := (189 + 45 * k_2.toNat)) (n' := (1134 + 270 * k_2.toNat)) (by rw [show rm_L_draw.cells = 0 from rfl]; omega) (by rw [show rm_L_draw.slots = 0 from rfl]; omega) ?_
                  obtain ⟨g221, h⟩ := grd_some h
                  refine s_iadd X g221 dL_drawn_332 ?_
                  obtain ⟨m_36, e222, h⟩ := ltv_elim h
                  refine s_iast X e222 SHL_458 g219.2.1 g219.2.2 dL_drawn_333 ?_
                  refine s_sipush X (by omega) dL_drawn_334 ?_
                  refine s_load0 X 6 rfl dL_drawn_337 ?_
                  refine s_sipush X (by omega) dL_drawn_338 ?_
                  obtain ⟨r_14, m_37, hq224, h⟩ := bq2_some h
                  refine s_callSM (As := [VR 455, VI 130]) X nc cw_L_98 dL_drawn_341 (L_W_draw G 130 m_36 (r_14, m_37) hq224) rfl ⟨Nat.le_of_ble_eq_true rfl, Nat.le_of_ble_eq_true rfl⟩ ⟨by rw [show rm_L_draw.cells = 0 from rfl, show rm_L_drawn.cells = 669 from rfl]; omega, by rw [show rm_L_draw.slots = 0 from rfl, show rm_L_drawn.slots = 4014 from rfl]; omega⟩ (Nat.le_of_ble_eq_true rfl) noX (kkR ?_)
                  refine s_le (k' := (189 + 45 * k_2.toNat)) (n' := (1134 + 270 * k_2.toNat)) (by rw [show rm_L_draw.cells = 0 from rfl]; omega) (by rw [show rm_L_draw.slots = 0 from rfl]; omega) ?_
                  obtain ⟨g225, h⟩ := grd_some h
                  refine s_iadd X g225 dL_drawn_344 ?_
                  obtain ⟨time_, e226, h⟩ := ltv_elim h
                  refine s_istore X e226 rfl (by omega) dL_drawn_345 ?_
                  refine s_load0 X 7 rfl dL_drawn_347 ?_
                  refine s_iload X 5 rfl dL_drawn_348 ?_
                  obtain ⟨r_15, m_38, hq228, h⟩ := bq2_some h
                  refine s_callSM (As := [VR 455, VI n_]) X nc cw_L_98 dL_drawn_350 (L_W_draw G n_ m_37 (r_15, m_38) hq228) rfl ⟨Nat.le_of_ble_eq_true rfl, Nat.le_of_ble_eq_true rfl⟩ ⟨by rw [show rm_L_draw.cells = 0 from rfl, show rm_L_drawn.cells = 669 from rfl]; omega, by rw [show rm_L_draw.slots = 0 from rfl, show rm_L_drawn.slots = 4014 from rfl]; omega⟩ (Nat.le_of_ble_eq_true rfl) noX (kkR ?_)
                  refine s_le (k' := (189 + 45 * k_2.toNat)) (n' := (1134 + 270 * k_2.toNat)) (by rw [show rm_L_draw.cells = 0 from rfl]; omega) (by rw [show rm_L_draw.slots = 0 from rfl]; omega) ?_
                  obtain ⟨v_9, e230, h⟩ := ltv_elim h
                  refine s_istore X e230 rfl (by omega) dL_drawn_353 ?_
                  refine s_const X (by unfold InR; omega) dL_drawn_355 ?_
                  obtain ⟨c_, e232, h⟩ := ltv_elim h
                  refine s_istore X e232 rfl (by omega) dL_drawn_356 ?_
                  obtain ⟨is_13, time_5, v_16, c_4, m_52, hl242, h⟩ := bq5_some h
                  obtain ⟨fu2330, hl243⟩ := loop_iter hl242
                  have KX239 : ∀ q9 : Int × Int × Int × Int × Mem, q9 = (is_13, time_5, v_16, c_4, m_52) → J SHL G rm_L_drawn (.inl O) C (225 + 45 * k_2.toNat) (1350 + 270 * k_2.toNat) 538 [(12, VI q9.2.2.2.1), (11, VI q9.2.2.1), (10, VI q9.2.1), (9, VI at_), (8, VI k_2), (7, VI trips_), (6, VI q9.1), (5, VI n_), (0, VR 0), (1, VR 455), (2, VR 456), (3, VR 457), (4, VR 458)] [] (q9.2.2.2.2) := by
                    intro q9 e9
                    subst e9
                    show J SHL G rm_L_drawn (.inl O) C (225 + 45 * k_2.toNat) (1350 + 270 * k_2.toNat) 538 [(12, VI c_4), (11, VI v_16), (10, VI time_5), (9, VI at_), (8, VI k_2), (7, VI trips_), (6, VI is_13), (5, VI n_), (0, VR 0), (1, VR 455), (2, VR 456), (3, VR 457), (4, VR 458)] [] m_52
                    obtain ⟨g307, h⟩ := grd_some h
                    obtain ⟨k_3, e308, h⟩ := ltv_elim h
                    refine s_iinc X 4 rfl g307 e308 rfl (by omega) dL_drawn_538 ?_
                    refine s_goto (tgt := 286) X dL_drawn_541 (by omega) ?_
                    refine s_loc [0, 5, 6, 7, 8, 9, 10, 11, 12] rfl ?_
                    exact s_le (by omega) (by omega) (ih194 _ _ _ (iter_next h hc193))
                  have LP238 : ∀ (fu233 : Nat) (is_11 : Int) (time_2 : Int) (v_10 : Int) (c_2 : Int) (m_39 : Mem), iter (fun s => W_drawn_b7 n_ k_2 at_ s.1 s.2.1 s.2.2.1 s.2.2.2.1 s.2.2.2.2) fu233 (is_11, time_2, v_10, c_2, m_39) = some (is_13, time_5, v_16, c_4, m_52) → J SHL G rm_L_drawn (.inl O) C (189 + 45 * k_2.toNat + 9 * c_2.toNat) (1134 + 270 * k_2.toNat + 54 * c_2.toNat) 358 [(12, VI c_2), (11, VI v_10), (10, VI time_2), (9, VI at_), (8, VI k_2), (7, VI trips_), (6, VI is_11), (5, VI n_), (0, VR 0), (1, VR 455), (2, VR 456), (3, VR 457), (4, VR 458)] [] m_39 := by
                    intro fu233
                    induction fu233 with
                    | zero => intro is_11 time_2 v_10 c_2 m_39 hn234; exact absurd hn234 (by simp [iter])
                    | succ fu233 ih237 =>
                      intro is_11 time_2 v_10 c_2 m_39 hn234
                      obtain ⟨x235, h, hc236⟩ := iter_succ hn234
                      replace h : W_drawn_b7 n_ k_2 at_ is_11 time_2 v_10 c_2 m_39 = some x235 := h
                      unfold W_drawn_b7 at h
                      obtain ⟨g244, h⟩ := grd_some h
                      have b0c_2 : 0 ≤ c_2 := g244.1
                      have b1c_2 : c_2 ≤ 4 := g244.2.1
                      refine s_iload X 0 rfl dL_drawn_358 ?_
                      refine s_loadR X 12 rfl dL_drawn_360 ?_
                      refine s_iload X 3 rfl dL_drawn_362 ?_
                      refine s_const X (by unfold InR; omega) dL_drawn_364 ?_
                      refine s_iadd X g244.2.2.1 dL_drawn_365 ?_
                      refine s_iald X SHL_458 g244.2.2.2.1 g244.2.2.2.2 dL_drawn_366 ?_
                      refine s_icmpge_f (tgt := 538) X dL_drawn_367 (by omega) (fun c247 => ?_) (fun c248 => ?_)
                      · replace h := ite_neg h c247
                        exact s_le (by omega) (by omega) (KX239 _ (iter_exit h hc236))
                      · replace h := ite_pos h c248
                        obtain ⟨g249, h⟩ := grd_some h
                        refine s_loadR X 12 rfl dL_drawn_370 ?_
                        refine s_iload X 3 rfl dL_drawn_372 ?_
                        refine s_const X (by unfold InR; omega) dL_drawn_374 ?_
                        refine s_iadd X g249.1 dL_drawn_375 ?_
                        refine s_const X (by unfold InR; omega) dL_drawn_376 ?_
                        refine s_iload X 0 rfl dL_drawn_377 ?_
                        refine s_imul X g249.2.1 dL_drawn_379 ?_
                        refine s_iadd X g249.2.2.1 dL_drawn_380 ?_
                        refine s_iload X 1 rfl dL_drawn_381 ?_
                        obtain ⟨m_40, e250, h⟩ := ltv_elim h
                        refine s_iast X e250 SHL_458 g249.2.2.2.1 g249.2.2.2.2 dL_drawn_383 ?_
                        obtain ⟨g251, h⟩ := grd_some h
                        refine s_loadR X 12 rfl dL_drawn_384 ?_
                        refine s_iload X 3 rfl dL_drawn_386 ?_
                        refine s_const X (by unfold InR; omega) dL_drawn_388 ?_
                        refine s_iadd X g251.1 dL_drawn_389 ?_
                        refine s_const X (by unfold InR; omega) dL_drawn_390 ?_
                        refine s_iload X 0 rfl dL_drawn_391 ?_
                        refine s_imul X g249.2.1 dL_drawn_393 ?_
                        refine s_iadd X g251.2.1 dL_drawn_394 ?_
                        refine s_iload X 2 rfl dL_drawn_395 ?_
                        obtain ⟨m_41, e252, h⟩ := ltv_elim h
                        refine s_iast X e252 SHL_458 g251.2.2.1 g251.2.2.2 dL_drawn_397 ?_
                        refine s_iload X 2 rfl dL_drawn_398 ?_
                        obtain ⟨kj_5, hk254, h⟩ := ltv_elim h
                        have K255 : ∀ (v_11 : Int) (m_42 : Mem), kj_5 v_11 m_42 = some x235 → J SHL G rm_L_drawn (.inl O) C (189 + 45 * k_2.toNat + 9 * c_2.toNat) (1134 + 270 * k_2.toNat + 54 * c_2.toNat) 414 [(12, VI c_2), (11, VI v_10), (10, VI time_2), (9, VI at_), (8, VI k_2), (7, VI trips_), (6, VI is_11), (5, VI n_), (0, VR 0), (1, VR 455), (2, VR 456), (3, VR 457), (4, VR 458)] [VI v_11, VI time_2] m_42 := by
                          intro v_11 m_42 h
                          subst hk254
                          dsimp only at h
                          obtain ⟨g264, h⟩ := grd_some h
                          refine s_iadd X g264 dL_drawn_414 ?_
                          obtain ⟨time_3, e265, h⟩ := ltv_elim h
                          refine s_istore X e265 rfl (by omega) dL_drawn_415 ?_
                          obtain ⟨g266, h⟩ := grd_some h
                          refine s_loadR X 12 rfl dL_drawn_417 ?_
                          refine s_iload X 3 rfl dL_drawn_419 ?_
                          refine s_const X (by unfold InR; omega) dL_drawn_421 ?_
                          refine s_iadd X g266.1 dL_drawn_422 ?_
                          refine s_const X (by unfold InR; omega) dL_drawn_423 ?_
                          refine s_iload X 1 rfl dL_drawn_424 ?_
                          refine s_imul X g249.2.1 dL_drawn_426 ?_
                          refine s_iadd X g266.2.1 dL_drawn_427 ?_
                          refine s_iload X 0 rfl dL_drawn_428 ?_
                          obtain ⟨m_44, e267, h⟩ := ltv_elim h
                          refine s_iast X e267 SHL_458 g266.2.2.1 g266.2.2.2 dL_drawn_430 ?_
                          refine s_iload X 6 rfl dL_drawn_431 ?_
                          obtain ⟨kj_6, hk269, h⟩ := ltv_elim h
                          have K270 : ∀ (v_12 : Int) (m_45 : Mem), kj_6 v_12 m_45 = some x235 → J SHL G rm_L_drawn (.inl O) C (194 + 45 * k_2.toNat + 9 * c_2.toNat) (1164 + 270 * k_2.toNat + 54 * c_2.toNat) 498 [(10, VI time_3), (12, VI c_2), (11, VI v_10), (9, VI at_), (8, VI k_2), (7, VI trips_), (6, VI is_11), (5, VI n_), (0, VR 0), (1, VR 455), (2, VR 456), (3, VR 457), (4, VR 458)] [VI v_12, VI is_11] m_45 := by
                            intro v_12 m_45 h
                            subst hk269
                            dsimp only at h
                            refine s_iand X dL_drawn_498 ?_
                            obtain ⟨is_12, e296, h⟩ := ltv_elim h
                            refine s_istore X e296 rfl (by omega) dL_drawn_499 ?_
                            refine s_iload X 1 rfl dL_drawn_501 ?_
                            refine s_const X (by unfold InR; omega) dL_drawn_503 ?_
                            refine s_load0 X 9 rfl dL_drawn_504 ?_
                            refine s_bipush X (by omega) dL_drawn_505 ?_
                            obtain ⟨r_19, m_50, hq298, h⟩ := bq2_some h
                            refine s_callSM (As := [VR 455, VI 25]) X nc cw_L_98 dL_drawn_507 (L_W_draw G 25 m_45 (r_19, m_50) hq298) rfl ⟨Nat.le_of_ble_eq_true rfl, Nat.le_of_ble_eq_true rfl⟩ ⟨by rw [show rm_L_draw.cells = 0 from rfl, show rm_L_drawn.cells = 669 from rfl]; omega, by rw [show rm_L_draw.slots = 0 from rfl, show rm_L_drawn.slots = 4014 from rfl]; omega⟩ (Nat.le_of_ble_eq_true rfl) noX (kkR ?_)
                            refine s_le (k' := (194 + 45 * k_2.toNat + 9 * c_2.toNat)) (n' := (1164 + 270 * k_2.toNat + 54 * c_2.toNat)) (by rw [show rm_L_draw.cells = 0 from rfl]; omega) (by rw [show rm_L_draw.slots = 0 from rfl]; omega) ?_
                            obtain ⟨g299, h⟩ := grd_some h
                            refine s_iadd X g299.1 dL_drawn_510 ?_
                            refine s_iadd X g299.2 dL_drawn_511 ?_
                            obtain ⟨time_4, e300, h⟩ := ltv_elim h
                            refine s_istore X e300 rfl (by omega) dL_drawn_512 ?_
                            obtain ⟨g301, h⟩ := grd_some h
                            refine s_iload X 3 rfl dL_drawn_514 ?_
                            refine s_const X (by unfold InR; omega) dL_drawn_516 ?_
                            refine s_iadd X g301.1 dL_drawn_517 ?_
                            refine s_load0 X 9 rfl dL_drawn_518 ?_
                            refine s_iload X 7 rfl dL_drawn_519 ?_
                            refine s_const X (by unfold InR; omega) dL_drawn_521 ?_
                            refine s_isub X g301.2 dL_drawn_522 ?_
                            obtain ⟨r_20, m_51, hq302, h⟩ := bq2_some h
                            refine s_callSM (As := [VR 455, VI (n_ - 1)]) X nc cw_L_98 dL_drawn_523 (L_W_draw G (n_ - 1) m_50 (r_20, m_51) hq302) rfl ⟨Nat.le_of_ble_eq_true rfl, Nat.le_of_ble_eq_true rfl⟩ ⟨by rw [show rm_L_draw.cells = 0 from rfl, show rm_L_drawn.cells = 669 from rfl]; omega, by rw [show rm_L_draw.slots = 0 from rfl, show rm_L_drawn.slots = 4014 from rfl]; omega⟩ (Nat.le_of_ble_eq_true rfl) noX (kkR ?_)
                            refine s_le (k' := (194 + 45 * k_2.toNat + 9 * c_2.toNat)) (n' := (1164 + 270 * k_2.toNat + 54 * c_2.toNat)) (by rw [show rm_L_draw.cells = 0 from rfl]; omega) (by rw [show rm_L_draw.slots = 0 from rfl]; omega) ?_
                            obtain ⟨g303, h⟩ := grd_some h
                            refine s_iadd X g303.1 dL_drawn_526 ?_
                            refine s_iload X 7 rfl dL_drawn_527 ?_
                            refine s_irem X g303.2 dL_drawn_529 ?_
                            obtain ⟨v_15, e304, h⟩ := ltv_elim h
                            refine s_istore X e304 rfl (by omega) dL_drawn_530 ?_
                            obtain ⟨g305, h⟩ := grd_some h
                            obtain ⟨c_3, e306, h⟩ := ltv_elim h
                            refine s_iinc X 3 rfl g305 e306 rfl (by omega) dL_drawn_532 ?_
                            refine s_goto (tgt := 358) X dL_drawn_535 (by omega) ?_
                            refine s_loc [0, 1, 2, 4, 5, 6, 3, 7, 8, 9, 10, 11, 12] rfl ?_
                            exact s_le (by omega) (by omega) (ih237 _ _ _ _ _ (iter_next h hc236))
                          refine s_iload X 1 rfl dL_drawn_433 ?_
                          refine s_ifne_f (tgt := 464) X dL_drawn_435 (by omega) (fun c273 => ?_) (fun c274 => ?_)
                          · replace h := ite_neg h c273
                            obtain ⟨kj_7, hk276, h⟩ := ltv_elim h
                            have K277 : ∀ (v_13 : Int) (m_46 : Mem), kj_7 v_13 m_46 = some x235 → J SHL G rm_L_drawn (.inl O) C (194 + 45 * k_2.toNat + 9 * c_2.toNat) (1164 + 270 * k_2.toNat + 54 * c_2.toNat) 498 [(10, VI time_3), (12, VI c_2), (11, VI v_10), (9, VI at_), (8, VI k_2), (7, VI trips_), (6, VI is_11), (5, VI n_), (0, VR 0), (1, VR 455), (2, VR 456), (3, VR 457), (4, VR 458)] [VI v_13, VI is_11] m_46 := by
                              intro v_13 m_46 h
                              subst hk276
                              dsimp only at h
                              exact s_le (by omega) (by omega) (K270 _ _ h)
                            refine s_load0 X 8 rfl dL_drawn_464 ?_
                            refine s_iload X 4 rfl dL_drawn_465 ?_
                            refine s_iload X 2 rfl dL_drawn_467 ?_
                            refine s_loadR X 12 rfl dL_drawn_469 ?_
                            refine s_iload X 3 rfl dL_drawn_471 ?_
                            refine s_const X (by unfold InR; omega) dL_drawn_473 ?_
                            refine s_iadd X g251.1 dL_drawn_474 ?_
                            refine s_const X (by unfold InR; omega) dL_drawn_475 ?_
                            refine s_iload X 1 rfl dL_drawn_476 ?_
                            refine s_imul X g249.2.1 dL_drawn_478 ?_
                            refine s_iadd X g251.2.1 dL_drawn_479 ?_
                            refine s_iald X SHL_458 g251.2.2.1 g251.2.2.2 dL_drawn_480 ?_
                            refine s_iload X 0 rfl dL_drawn_481 ?_
                            obtain ⟨r_17, m_47, hq278, h⟩ := bq2_some h
                            refine s_callSW (As := [VR 0, VI k_2, VI v_10, VI (m_44 458 (at_ + 3 + 3 * c_2).toNat), VI time_3]) X nc cwS_L_122 dL_drawn_483 (H_call G k_2 v_10 (m_44 458 (at_ + 3 + 3 * c_2).toNat) time_3 m_44 (r_17, m_47) hq278) rfl ⟨Nat.le_of_ble_eq_true rfl, Nat.le_of_ble_eq_true rfl⟩ ⟨by rw [show rm_L_call.cells = 5 from rfl, show rm_L_drawn.cells = 669 from rfl]; omega, by rw [show rm_L_call.slots = 30 from rfl, show rm_L_drawn.slots = 4014 from rfl]; omega⟩ (Nat.le_of_ble_eq_true rfl) noX (kkR ?_)
                            refine s_le (k' := (194 + 45 * k_2.toNat + 9 * c_2.toNat)) (n' := (1164 + 270 * k_2.toNat + 54 * c_2.toNat)) (by rw [show rm_L_call.cells = 5 from rfl]; omega) (by rw [show rm_L_call.slots = 30 from rfl]; omega) ?_
                            obtain ⟨g279, h⟩ := grd_some h
                            refine s_iload X 1 rfl dL_drawn_486 ?_
                            refine s_const X (by unfold InR; omega) dL_drawn_488 ?_
                            refine s_iadd X g279 dL_drawn_489 ?_
                            refine s_icmpne_f (tgt := 497) X dL_drawn_490 (by omega) (fun c280 => ?_) (fun c281 => ?_)
                            · replace h := ite_neg h c280
                              refine s_const X (by unfold InR; omega) dL_drawn_497 ?_
                              exact s_le (by omega) (by omega) (K277 _ _ h)
                            · replace h := ite_pos h c281
                              refine s_const X (by unfold InR; omega) dL_drawn_493 ?_
                              refine s_goto (tgt := 498) X dL_drawn_494 (by omega) ?_
                              exact s_le (by omega) (by omega) (K277 _ _ h)
                          · replace h := ite_pos h c274
                            obtain ⟨g285, h⟩ := grd_some h
                            obtain ⟨kj_8, hk286, h⟩ := ltv_elim h
                            have K287 : ∀ (v_14 : Int) (m_48 : Mem), kj_8 v_14 m_48 = some x235 → J SHL G rm_L_drawn (.inl O) C (193 + 45 * k_2.toNat + 9 * c_2.toNat) (1158 + 270 * k_2.toNat + 54 * c_2.toNat) 498 [(10, VI time_3), (12, VI c_2), (11, VI v_10), (9, VI at_), (8, VI k_2), (7, VI trips_), (6, VI is_11), (5, VI n_), (0, VR 0), (1, VR 455), (2, VR 456), (3, VR 457), (4, VR 458)] [VI v_14, VI is_11] m_48 := by
                              intro v_14 m_48 h
                              subst hk286
                              dsimp only at h
                              exact s_le (by omega) (by omega) (K270 _ _ h)
                            refine s_load0 X 8 rfl dL_drawn_438 ?_
                            refine s_loadR X 12 rfl dL_drawn_439 ?_
                            refine s_iload X 3 rfl dL_drawn_441 ?_
                            refine s_iald X SHL_458 g285.1 g285.2 dL_drawn_443 ?_
                            refine s_iload X 2 rfl dL_drawn_444 ?_
                            refine s_iload X 0 rfl dL_drawn_446 ?_
                            obtain ⟨r_18, m_49, hq288, h⟩ := bq2_some h
                            refine s_callSW (As := [VR 0, VI (m_44 458 at_.toNat), VI v_10, VI time_3]) X nc cwS_L_120 dL_drawn_448 (H_trip G (m_44 458 at_.toNat) v_10 time_3 m_44 (r_18, m_49) hq288) rfl ⟨Nat.le_of_ble_eq_true rfl, Nat.le_of_ble_eq_true rfl⟩ ⟨by rw [show rm_L_trip.cells = 4 from rfl, show rm_L_drawn.cells = 669 from rfl]; omega, by rw [show rm_L_trip.slots = 24 from rfl, show rm_L_drawn.slots = 4014 from rfl]; omega⟩ (Nat.le_of_ble_eq_true rfl) noX (kkR ?_)
                            refine s_le (k' := (193 + 45 * k_2.toNat + 9 * c_2.toNat)) (n' := (1158 + 270 * k_2.toNat + 54 * c_2.toNat)) (by rw [show rm_L_trip.cells = 4 from rfl]; omega) (by rw [show rm_L_trip.slots = 24 from rfl]; omega) ?_
                            refine s_iload X 4 rfl dL_drawn_451 ?_
                            refine s_icmpne_f (tgt := 460) X dL_drawn_453 (by omega) (fun c290 => ?_) (fun c291 => ?_)
                            · replace h := ite_neg h c290
                              refine s_const X (by unfold InR; omega) dL_drawn_460 ?_
                              refine s_goto (tgt := 498) X dL_drawn_461 (by omega) ?_
                              exact s_le (by omega) (by omega) (K287 _ _ h)
                            · replace h := ite_pos h c291
                              refine s_const X (by unfold InR; omega) dL_drawn_456 ?_
                              refine s_goto (tgt := 498) X dL_drawn_457 (by omega) ?_
                              exact s_le (by omega) (by omega) (K287 _ _ h)
                        refine s_iload X 0 rfl dL_drawn_400 ?_
                        refine s_ifne_f (tgt := 409) X dL_drawn_402 (by omega) (fun c258 => ?_) (fun c259 => ?_)
                        · replace h := ite_neg h c258
                          refine s_load0 X 9 rfl dL_drawn_409 ?_
                          refine s_const X (by unfold InR; omega) dL_drawn_410 ?_
                          obtain ⟨r_16, m_43, hq261, h⟩ := bq2_some h
                          refine s_callSM (As := [VR 455, VI 4]) X nc cw_L_98 dL_drawn_411 (L_W_draw G 4 m_41 (r_16, m_43) hq261) rfl ⟨Nat.le_of_ble_eq_true rfl, Nat.le_of_ble_eq_true rfl⟩ ⟨by rw [show rm_L_draw.cells = 0 from rfl, show rm_L_drawn.cells = 669 from rfl]; omega, by rw [show rm_L_draw.slots = 0 from rfl, show rm_L_drawn.slots = 4014 from rfl]; omega⟩ (Nat.le_of_ble_eq_true rfl) noX (kkR ?_)
                          refine s_le (k' := (189 + 45 * k_2.toNat + 9 * c_2.toNat)) (n' := (1134 + 270 * k_2.toNat + 54 * c_2.toNat)) (by rw [show rm_L_draw.cells = 0 from rfl]; omega) (by rw [show rm_L_draw.slots = 0 from rfl]; omega) ?_
                          exact s_le (by omega) (by omega) (K255 _ _ h)
                        · replace h := ite_pos h c259
                          refine s_const X (by unfold InR; omega) dL_drawn_405 ?_
                          refine s_goto (tgt := 414) X dL_drawn_406 (by omega) ?_
                          exact s_le (by omega) (by omega) (K255 _ _ h)
                  exact s_le (by first | omega | exact Nat.le_of_ble_eq_true rfl | (simp only [rm_L_draw, rm_L_isSound, rm_L_vehicles, rm_L_vehiclesByMatching, rm_L_stop, rm_L_walk, rm_L_service, rm_L_week, rm_L_putDay, rm_L_trip, rm_L_call, rm_L_close, rm_L_drawn]; omega)) (by first | omega | exact Nat.le_of_ble_eq_true rfl | (simp only [rm_L_draw, rm_L_isSound, rm_L_vehicles, rm_L_vehiclesByMatching, rm_L_stop, rm_L_walk, rm_L_service, rm_L_week, rm_L_putDay, rm_L_trip, rm_L_call, rm_L_close, rm_L_drawn]; omega)) (LP238 _ _ _ _ _ _ hl243)
                refine s_load0 X 6 rfl dL_drawn_306 ?_
                refine s_const X (by unfold InR; omega) dL_drawn_307 ?_
                obtain ⟨r_12, m_33, hq211, h⟩ := bq2_some h
                refine s_callSM (As := [VR 455, VI 3]) X nc cw_L_98 dL_drawn_308 (L_W_draw G 3 m_31 (r_12, m_33) hq211) rfl ⟨Nat.le_of_ble_eq_true rfl, Nat.le_of_ble_eq_true rfl⟩ ⟨by rw [show rm_L_draw.cells = 0 from rfl, show rm_L_drawn.cells = 669 from rfl]; omega, by rw [show rm_L_draw.slots = 0 from rfl, show rm_L_drawn.slots = 4014 from rfl]; omega⟩ (Nat.le_of_ble_eq_true rfl) noX (kkR ?_)
                refine s_le (k' := (189 + 45 * k_2.toNat)) (n' := (1134 + 270 * k_2.toNat)) (by rw [show rm_L_draw.cells = 0 from rfl]; omega) (by rw [show rm_L_draw.slots = 0 from rfl]; omega) ?_
                refine s_ifne_f (tgt := 318) X dL_drawn_311 (by omega) (fun c213 => ?_) (fun c214 => ?_)
                · replace h := ite_neg h c213
                  refine s_const X (by unfold InR; omega) dL_drawn_318 ?_
                  exact s_le (by omega) (by omega) (K210 _ _ h)
                · replace h := ite_pos h c214
                  refine s_const X (by unfold InR; omega) dL_drawn_314 ?_
                  refine s_goto (tgt := 319) X dL_drawn_315 (by omega) ?_
                  exact s_le (by omega) (by omega) (K210 _ _ h)
          exact s_le (by first | omega | exact Nat.le_of_ble_eq_true rfl | (simp only [rm_L_draw, rm_L_isSound, rm_L_vehicles, rm_L_vehiclesByMatching, rm_L_stop, rm_L_walk, rm_L_service, rm_L_week, rm_L_putDay, rm_L_trip, rm_L_call, rm_L_close, rm_L_drawn]; omega)) (by first | omega | exact Nat.le_of_ble_eq_true rfl | (simp only [rm_L_draw, rm_L_isSound, rm_L_vehicles, rm_L_vehiclesByMatching, rm_L_stop, rm_L_walk, rm_L_service, rm_L_week, rm_L_putDay, rm_L_trip, rm_L_call, rm_L_close, rm_L_drawn]; omega)) (LP195 _ _ _ _ hl200)
        have LP123 : ∀ (fu118 : Nat) (is_5 : Int) (a_6 : Int) (m_19 : Mem), iter (fun s => W_drawn_b4 n_ s.1 s.2.1 s.2.2) fu118 (is_5, a_6, m_19) = some (is_9, a_8, m_28) → J SHL G rm_L_drawn (.inl O) C (21 + 28 * a_6.toNat) (126 + 168 * a_6.toNat) 170 [(7, VI a_6), (6, VI is_5), (5, VI n_), (0, VR 0), (1, VR 455), (2, VR 456), (3, VR 457), (4, VR 458)] [] m_19 := by
          intro fu118
          induction fu118 with
          | zero => intro is_5 a_6 m_19 hn119; exact absurd hn119 (by simp [iter])
          | succ fu118 ih122 =>
            intro is_5 a_6 m_19 hn119
            obtain ⟨x120, h, hc121⟩ := iter_succ hn119
            replace h : W_drawn_b4 n_ is_5 a_6 m_19 = some x120 := h
            unfold W_drawn_b4 at h
            obtain ⟨g129, h⟩ := grd_some h
            have b0a_6 : 0 ≤ a_6 := g129.1
            have b1a_6 : a_6 ≤ 6 := g129.2
            refine s_iload X 0 rfl dL_drawn_170 ?_
            refine s_iload X 2 rfl dL_drawn_172 ?_
            refine s_icmpge_f (tgt := 267) X dL_drawn_174 (by omega) (fun c132 => ?_) (fun c133 => ?_)
            · replace h := ite_neg h c132
              exact s_le (by omega) (by omega) (KX124 _ (iter_exit h hc121))
            · replace h := ite_pos h c133
              obtain ⟨g134, h⟩ := grd_some h
              refine s_iload X 0 rfl dL_drawn_177 ?_
              refine s_const X (by unfold InR; omega) dL_drawn_179 ?_
              refine s_iadd X g134 dL_drawn_180 ?_
              obtain ⟨b_5, e135, h⟩ := ltv_elim h
              refine s_istore X e135 rfl (by omega) dL_drawn_181 ?_
              obtain ⟨is_8, b_9, m_27, hl145, h⟩ := bq3_some h
              obtain ⟨fu1360, hl146⟩ := loop_iter hl145
              have KX142 : ∀ q9 : Int × Int × Mem, q9 = (is_8, b_9, m_27) → J SHL G rm_L_drawn (.inl O) C (45 + 28 * a_6.toNat) (270 + 168 * a_6.toNat) 261 [(8, VI q9.2.1), (7, VI a_6), (6, VI q9.1), (5, VI n_), (0, VR 0), (1, VR 455), (2, VR 456), (3, VR 457), (4, VR 458)] [] (q9.2.2) := by
                intro q9 e9
                subst e9
                show J SHL G rm_L_drawn (.inl O) C (45 + 28 * a_6.toNat) (270 + 168 * a_6.toNat) 261 [(8, VI b_9), (7, VI a_6), (6, VI is_8), (5, VI n_), (0, VR 0), (1, VR 455), (2, VR 456), (3, VR 457), (4, VR 458)] [] m_27
                obtain ⟨g180, h⟩ := grd_some h
                obtain ⟨a_7, e181, h⟩ := ltv_elim h
                refine s_iinc X 1 rfl g180 e181 rfl (by omega) dL_drawn_261 ?_
                refine s_goto (tgt := 170) X dL_drawn_264 (by omega) ?_
                refine s_loc [0, 2, 3, 4, 5, 6, 7, 8] rfl ?_
                exact s_le (by omega) (by omega) (ih122 _ _ _ (iter_next h hc121))
              have LP141 : ∀ (fu136 : Nat) (is_6 : Int) (b_6 : Int) (m_20 : Mem), iter (fun s => W_drawn_b5 n_ a_6 s.1 s.2.1 s.2.2) fu136 (is_6, b_6, m_20) = some (is_8, b_9, m_27) → J SHL G rm_L_drawn (.inl O) C (21 + 28 * a_6.toNat + 4 * b_6.toNat) (126 + 168 * a_6.toNat + 24 * b_6.toNat) 183 [(8, VI b_6), (7, VI a_6), (6, VI is_6), (5, VI n_), (0, VR 0), (1, VR 455), (2, VR 456), (3, VR 457), (4, VR 458)] [] m_20 := by
                intro fu136
                induction fu136 with
                | zero => intro is_6 b_6 m_20 hn137; exact absurd hn137 (by simp [iter])
                | succ fu136 ih140 =>
                  intro is_6 b_6 m_20 hn137
                  obtain ⟨x138, h, hc139⟩ := iter_succ hn137
                  replace h : W_drawn_b5 n_ a_6 is_6 b_6 m_20 = some x138 := h
                  unfold W_drawn_b5 at h
                  obtain ⟨g147, h⟩ := grd_some h
                  have b0b_6 : 0 ≤ b_6 := g147.1
                  have b1b_6 : b_6 ≤ 6 := g147.2
                  refine s_iload X 0 rfl dL_drawn_183 ?_
                  refine s_iload X 3 rfl dL_drawn_185 ?_
                  refine s_icmpge_f (tgt := 261) X dL_drawn_187 (by omega) (fun c150 => ?_) (fun c151 => ?_)
                  · replace h := ite_neg h c150
                    exact s_le (by omega) (by omega) (KX142 _ (iter_exit h hc139))
                  · replace h := ite_pos h c151
                    refine s_load0 X 5 rfl dL_drawn_190 ?_
                    refine s_const X (by unfold InR; omega) dL_drawn_191 ?_
                    obtain ⟨r_8, m_21, hq153, h⟩ := bq2_some h
                    refine s_callSM (As := [VR 455, VI 4]) X nc cw_L_98 dL_drawn_192 (L_W_draw G 4 m_20 (r_8, m_21) hq153) rfl ⟨Nat.le_of_ble_eq_true rfl, Nat.le_of_ble_eq_true rfl⟩ ⟨by rw [show rm_L_draw.cells = 0 from rfl, show rm_L_drawn.cells = 669 from rfl]; omega, by rw [show rm_L_draw.slots = 0 from rfl, show rm_L_drawn.slots = 4014 from rfl]; omega⟩ (Nat.le_of_ble_eq_true rfl) noX (kkR ?_)
                    refine s_le (k' := (21 + 28 * a_6.toNat + 4 * b_6.toNat)) (n' := (126 + 168 * a_6.toNat + 24 * b_6.toNat)) (by rw [show rm_L_draw.cells = 0 from rfl]; omega) (by rw [show rm_L_draw.slots = 0 from rfl]; omega) ?_
                    refine s_ifne_f (tgt := 255) X dL_drawn_195 (by omega) (fun c155 => ?_) (fun c156 => ?_)
                    · replace h := ite_neg h c155
                      obtain ⟨g157, h⟩ := grd_some h
                      obtain ⟨b_7, e158, h⟩ := ltv_elim h
                      refine s_iinc X 0 rfl g157 e158 rfl (by omega) dL_drawn_255 ?_
                      refine s_goto (tgt := 183) X dL_drawn_258 (by omega) ?_
                      exact s_le (by omega) (by omega) (ih140 _ _ _ (iter_next h hc139))
                    · replace h := ite_pos h c156
                      refine s_const X (by unfold InR; omega) dL_drawn_198 ?_
                      refine s_load0 X 5 rfl dL_drawn_199 ?_
                      refine s_bipush X (by omega) dL_drawn_200 ?_
                      obtain ⟨r_9, m_22, hq160, h⟩ := bq2_some h
                      refine s_callSM (As := [VR 455, VI 20]) X nc cw_L_98 dL_drawn_202 (L_W_draw G 20 m_21 (r_9, m_22) hq160) rfl ⟨Nat.le_of_ble_eq_true rfl, Nat.le_of_ble_eq_true rfl⟩ ⟨by rw [show rm_L_draw.cells = 0 from rfl, show rm_L_drawn.cells = 669 from rfl]; omega, by rw [show rm_L_draw.slots = 0 from rfl, show rm_L_drawn.slots = 4014 from rfl]; omega⟩ (Nat.le_of_ble_eq_true rfl) noX (kkR ?_)
                      refine s_le (k' := (21 + 28 * a_6.toNat + 4 * b_6.toNat)) (n' := (126 + 168 * a_6.toNat + 24 * b_6.toNat)) (by rw [show rm_L_draw.cells = 0 from rfl]; omega) (by rw [show rm_L_draw.slots = 0 from rfl]; omega) ?_
                      obtain ⟨g161, h⟩ := grd_some h
                      refine s_iadd X g161 dL_drawn_205 ?_
                      obtain ⟨minutes_, e162, h⟩ := ltv_elim h
                      refine s_istore X e162 rfl (by omega) dL_drawn_206 ?_
                      obtain ⟨g163, h⟩ := grd_some h
                      refine s_load0 X 8 rfl dL_drawn_208 ?_
                      refine s_bipush X (by omega) dL_drawn_209 ?_
                      refine s_iload X 2 rfl dL_drawn_211 ?_
                      refine s_imul X g163.1 dL_drawn_213 ?_
                      refine s_iload X 1 rfl dL_drawn_214 ?_
                      refine s_iadd X g163.2.1 dL_drawn_216 ?_
                      refine s_iload X 0 rfl dL_drawn_217 ?_
                      obtain ⟨m_23, e164, h⟩ := ltv_elim h
                      refine s_iast X e164 SHL_457 g163.2.2.1 g163.2.2.2 dL_drawn_219 ?_
                      obtain ⟨g165, h⟩ := grd_some h
                      refine s_load0 X 8 rfl dL_drawn_220 ?_
                      refine s_bipush X (by omega) dL_drawn_221 ?_
                      refine s_iload X 1 rfl dL_drawn_223 ?_
                      refine s_imul X g165.1 dL_drawn_225 ?_
                      refine s_iload X 2 rfl dL_drawn_226 ?_
                      refine s_iadd X g165.2.1 dL_drawn_228 ?_
                      refine s_iload X 0 rfl dL_drawn_229 ?_
                      obtain ⟨m_24, e166, h⟩ := ltv_elim h
                      refine s_iast X e166 SHL_457 g165.2.2.1 g165.2.2.2 dL_drawn_231 ?_
                      refine s_iload X 3 rfl dL_drawn_232 ?_
                      obtain ⟨kj_3, hk168, h⟩ := ltv_elim h
                      have K169 : ∀ (v_7 : Int) (m_25 : Mem), kj_3 v_7 m_25 = some x138 → J SHL G rm_L_drawn (.inl O) C (25 + 28 * a_6.toNat + 4 * b_6.toNat) (150 + 168 * a_6.toNat + 24 * b_6.toNat) 252 [(9, VI minutes_), (8, VI b_6), (7, VI a_6), (6, VI is_6), (5, VI n_), (0, VR 0), (1, VR 455), (2, VR 456), (3, VR 457), (4, VR 458)] [VI v_7, VI is_6] m_25 := by
                        intro v_7 m_25 h
                        subst hk168
                        dsimp only at h
                        refine s_iand X dL_drawn_252 ?_
                        obtain ⟨is_7, e177, h⟩ := ltv_elim h
                        refine s_istore X e177 rfl (by omega) dL_drawn_253 ?_
                        obtain ⟨g178, h⟩ := grd_some h
                        obtain ⟨b_8, e179, h⟩ := ltv_elim h
                        refine s_iinc X 2 rfl g178 e179 rfl (by omega) dL_drawn_255 ?_
                        refine s_goto (tgt := 183) X dL_drawn_258 (by omega) ?_
                        refine s_loc [0, 3, 1, 4, 5, 6, 7, 8, 9] rfl ?_
                        exact s_le (by omega) (by omega) (ih140 _ _ _ (iter_next h hc139))
                      refine s_load0 X 5 rfl dL_drawn_234 ?_
                      refine s_iload X 2 rfl dL_drawn_235 ?_
                      refine s_iload X 1 rfl dL_drawn_237 ?_
                      refine s_iload X 0 rfl dL_drawn_239 ?_
                      obtain ⟨r_10, m_26, hq170, h⟩ := bq2_some h
                      refine s_callSW (As := [VR 0, VI a_6, VI b_6, VI minutes_]) X nc cwS_L_117 dL_drawn_241 (H_walk G a_6 b_6 minutes_ m_24 (r_10, m_26) hq170) rfl ⟨Nat.le_of_ble_eq_true rfl, Nat.le_of_ble_eq_true rfl⟩ ⟨by rw [show rm_L_walk.cells = 4 from rfl, show rm_L_drawn.cells = 669 from rfl]; omega, by rw [show rm_L_walk.slots = 24 from rfl, show rm_L_drawn.slots = 4014 from rfl]; omega⟩ (Nat.le_of_ble_eq_true rfl) noX (kkR ?_)
                      refine s_le (k' := (25 + 28 * a_6.toNat + 4 * b_6.toNat)) (n' := (150 + 168 * a_6.toNat + 24 * b_6.toNat)) (by rw [show rm_L_walk.cells = 4 from rfl]; omega) (by rw [show rm_L_walk.slots = 24 from rfl]; omega) ?_
                      refine s_ifne_f (tgt := 251) X dL_drawn_244 (by omega) (fun c172 => ?_) (fun c173 => ?_)
                      · replace h := ite_neg h c172
                        refine s_const X (by unfold InR; omega) dL_drawn_251 ?_
                        exact s_le (by omega) (by omega) (K169 _ _ h)
                      · replace h := ite_pos h c173
                        refine s_const X (by unfold InR; omega) dL_drawn_247 ?_
                        refine s_goto (tgt := 252) X dL_drawn_248 (by omega) ?_
                        exact s_le (by omega) (by omega) (K169 _ _ h)
              exact s_le (by first | omega | exact Nat.le_of_ble_eq_true rfl | (simp only [rm_L_draw, rm_L_isSound, rm_L_vehicles, rm_L_vehiclesByMatching, rm_L_stop, rm_L_walk, rm_L_service, rm_L_week, rm_L_putDay, rm_L_trip, rm_L_call, rm_L_close, rm_L_drawn]; omega)) (by first | omega | exact Nat.le_of_ble_eq_true rfl | (simp only [rm_L_draw, rm_L_isSound, rm_L_vehicles, rm_L_vehiclesByMatching, rm_L_stop, rm_L_walk, rm_L_service, rm_L_week, rm_L_putDay, rm_L_trip, rm_L_call, rm_L_close, rm_L_drawn]; omega)) (LP141 _ _ _ _ hl146)
        exact s_le (by first | omega | exact Nat.le_of_ble_eq_true rfl | (simp only [rm_L_draw, rm_L_isSound, rm_L_vehicles, rm_L_vehiclesByMatching, rm_L_stop, rm_L_walk, rm_L_service, rm_L_week, rm_L_putDay, rm_L_trip, rm_L_call, rm_L_close, rm_L_drawn]; omega)) (by first | omega | exact Nat.le_of_ble_eq_true rfl | (simp only [rm_L_draw, rm_L_isSound, rm_L_vehicles, rm_L_vehiclesByMatching, rm_L_stop, rm_L_walk, rm_L_service, rm_L_week, rm_L_putDay, rm_L_trip, rm_L_call, rm_L_close, rm_L_drawn]; omega)) (LP123 _ _ _ _ hl128)
      have LP78 : ∀ (fu73 : Nat) (a_2 : Int) (m_14 : Mem), iter (fun s => W_drawn_b2 n_ s.1 s.2) fu73 (a_2, m_14) = some (a_4, m_18) → J SHL G rm_L_drawn (.inl O) C 21 126 115 [(7, VI a_2), (6, VI is_4), (5, VI n_), (0, VR 0), (1, VR 455), (2, VR 456), (3, VR 457), (4, VR 458)] [] m_14 := by
        intro fu73
        induction fu73 with
        | zero => intro a_2 m_14 hn74; exact absurd hn74 (by simp [iter])
        | succ fu73 ih77 =>
          intro a_2 m_14 hn74
          obtain ⟨x75, h, hc76⟩ := iter_succ hn74
          replace h : W_drawn_b2 n_ a_2 m_14 = some x75 := h
          unfold W_drawn_b2 at h
          refine s_iload X 0 rfl dL_drawn_115 ?_
          refine s_iload X 2 rfl dL_drawn_117 ?_
          refine s_icmpge_f (tgt := 167) X dL_drawn_119 (by omega) (fun c87 => ?_) (fun c88 => ?_)
          · replace h := ite_neg h c87
            exact KX79 _ (iter_exit h hc76)
          · replace h := ite_pos h c88
            refine s_const X (by unfold InR; omega) dL_drawn_122 ?_
            obtain ⟨b_, e90, h⟩ := ltv_elim h
            refine s_istore X e90 rfl (by omega) dL_drawn_123 ?_
            obtain ⟨b_4, m_17, hl100, h⟩ := bq2_some h
            obtain ⟨fu910, hl101⟩ := loop_iter hl100
            have KX97 : ∀ q9 : Int × Mem, q9 = (b_4, m_17) → J SHL G rm_L_drawn (.inl O) C 21 126 161 [(8, VI q9.1), (7, VI a_2), (6, VI is_4), (5, VI n_), (0, VR 0), (1, VR 455), (2, VR 456), (3, VR 457), (4, VR 458)] [] (q9.2) := by
              intro q9 e9
              subst e9
              show J SHL G rm_L_drawn (.inl O) C 21 126 161 [(8, VI b_4), (7, VI a_2), (6, VI is_4), (5, VI n_), (0, VR 0), (1, VR 455), (2, VR 456), (3, VR 457), (4, VR 458)] [] m_17
              obtain ⟨g114, h⟩ := grd_some h
              obtain ⟨a_3, e115, h⟩ := ltv_elim h
              refine s_iinc X 1 rfl g114 e115 rfl (by omega) dL_drawn_161 ?_
              refine s_goto (tgt := 115) X dL_drawn_164 (by omega) ?_
              refine s_loc [0, 2, 3, 4, 5, 6, 7, 8] rfl ?_
              exact ih77 _ _ (iter_next h hc76)
            have LP96 : ∀ (fu91 : Nat) (b_2 : Int) (m_15 : Mem), iter (fun s => W_drawn_b3 n_ a_2 s.1 s.2) fu91 (b_2, m_15) = some (b_4, m_17) → J SHL G rm_L_drawn (.inl O) C 21 126 125 [(8, VI b_2), (7, VI a_2), (6, VI is_4), (5, VI n_), (0, VR 0), (1, VR 455), (2, VR 456), (3, VR 457), (4, VR 458)] [] m_15 := by
              intro fu91
              induction fu91 with
              | zero => intro b_2 m_15 hn92; exact absurd hn92 (by simp [iter])
              | succ fu91 ih95 =>
                intro b_2 m_15 hn92
                obtain ⟨x93, h, hc94⟩ := iter_succ hn92
                replace h : W_drawn_b3 n_ a_2 b_2 m_15 = some x93 := h
                unfold W_drawn_b3 at h
                refine s_iload X 0 rfl dL_drawn_125 ?_
                refine s_iload X 3 rfl dL_drawn_127 ?_
                refine s_icmpge_f (tgt := 161) X dL_drawn_129 (by omega) (fun c105 => ?_) (fun c106 => ?_)
                · replace h := ite_neg h c105
                  exact KX97 _ (iter_exit h hc94)
                · replace h := ite_pos h c106
                  obtain ⟨g107, h⟩ := grd_some h
                  refine s_load0 X 7 rfl dL_drawn_132 ?_
                  refine s_bipush X (by omega) dL_drawn_133 ?_
                  refine s_iload X 1 rfl dL_drawn_135 ?_
                  refine s_imul X g107.1 dL_drawn_137 ?_
                  refine s_iload X 0 rfl dL_drawn_138 ?_
                  refine s_iadd X g107.2.1 dL_drawn_140 ?_
                  have kM108 : J SHL G rm_L_drawn (.inl O) C 21 126 154 [(8, VI b_2), (7, VI a_2), (6, VI is_4), (5, VI n_), (0, VR 0), (1, VR 455), (2, VR 456), (3, VR 457), (4, VR 458)] [VI (if a_2 = b_2 then 0 else 1000000), VI (6 * a_2 + b_2), VR 457] m_15 := by
                    obtain ⟨m_16, e111, h⟩ := ltv_elim h
                    refine s_iast X e111 SHL_457 g107.2.2.1 g107.2.2.2 dL_drawn_154 ?_
                    obtain ⟨g112, h⟩ := grd_some h
                    obtain ⟨b_3, e113, h⟩ := ltv_elim h
                    refine s_iinc X 0 rfl g112 e113 rfl (by omega) dL_drawn_155 ?_
                    refine s_goto (tgt := 125) X dL_drawn_158 (by omega) ?_
                    exact ih95 _ _ (iter_next h hc94)
                  refine s_iload X 1 rfl dL_drawn_141 ?_
                  refine s_iload X 0 rfl dL_drawn_143 ?_
                  refine s_icmpne_f (tgt := 152) X dL_drawn_145 (by omega) (fun c109 => ?_) (fun c110 => ?_)
                  · refine s_ldc (z := 1000000) X (by unfold InR; omega) kc_L_116 dL_drawn_152 ?_
                    exact s_eqt (if_neg c109) kM108
                  · refine s_const X (by unfold InR; omega) dL_drawn_148 ?_
                    refine s_goto (tgt := 154) X dL_drawn_149 (by omega) ?_
                    exact s_eqt (if_pos c110) kM108
            exact LP96 _ _ _ hl101
      exact LP78 _ _ _ hl83
    have LP43 : ∀ (fu38 : Nat) (is_2 : Int) (v_3 : Int) (m_8 : Mem), iter (fun s => W_drawn_b1 n_ s.1 s.2.1 s.2.2) fu38 (is_2, v_3, m_8) = some (is_4, v_6, m_13) → J SHL G rm_L_drawn (.inl O) C (9 + 2 * v_3.toNat) (54 + 12 * v_3.toNat) 66 [(7, VI v_3), (6, VI is_2), (5, VI n_), (0, VR 0), (1, VR 455), (2, VR 456), (3, VR 457), (4, VR 458)] [] m_8 := by
      intro fu38
      induction fu38 with
      | zero => intro is_2 v_3 m_8 hn39; exact absurd hn39 (by simp [iter])
      | succ fu38 ih42 =>
        intro is_2 v_3 m_8 hn39
        obtain ⟨x40, h, hc41⟩ := iter_succ hn39
        replace h : W_drawn_b1 n_ is_2 v_3 m_8 = some x40 := h
        unfold W_drawn_b1 at h
        obtain ⟨g49, h⟩ := grd_some h
        have b0v_3 : 0 ≤ v_3 := g49.1
        have b1v_3 : v_3 ≤ 6 := g49.2
        refine s_iload X 0 rfl dL_drawn_66 ?_
        refine s_iload X 2 rfl dL_drawn_68 ?_
        refine s_icmpge_f (tgt := 112) X dL_drawn_70 (by omega) (fun c52 => ?_) (fun c53 => ?_)
        · replace h := ite_neg h c52
          exact s_le (by omega) (by omega) (KX44 _ (iter_exit h hc41))
        · replace h := ite_pos h c53
          obtain ⟨g54, h⟩ := grd_some h
          refine s_load0 X 5 rfl dL_drawn_73 ?_
          refine s_iload X 0 rfl dL_drawn_74 ?_
          refine s_load0 X 4 rfl dL_drawn_76 ?_
          refine s_bipush X (by omega) dL_drawn_77 ?_
          obtain ⟨r_6, m_9, hq55, h⟩ := bq2_some h
          refine s_callSM (As := [VR 455, VI 6]) X nc cw_L_98 dL_drawn_79 (L_W_draw G 6 m_8 (r_6, m_9) hq55) rfl ⟨Nat.le_of_ble_eq_true rfl, Nat.le_of_ble_eq_true rfl⟩ ⟨by rw [show rm_L_draw.cells = 0 from rfl, show rm_L_drawn.cells = 669 from rfl]; omega, by rw [show rm_L_draw.slots = 0 from rfl, show rm_L_drawn.slots = 4014 from rfl]; omega⟩ (Nat.le_of_ble_eq_true rfl) noX (kkR ?_)
          refine s_le (k' := (9 + 2 * v_3.toNat)) (n' := (54 + 12 * v_3.toNat)) (by rw [show rm_L_draw.cells = 0 from rfl]; omega) (by rw [show rm_L_draw.slots = 0 from rfl]; omega) ?_
          obtain ⟨m_10, e57, h⟩ := ltv_elim h
          refine s_iast X e57 SHL_456 g49.1 g54 dL_drawn_82 ?_
          refine s_iload X 1 rfl dL_drawn_83 ?_
          obtain ⟨kj_2, hk59, h⟩ := ltv_elim h
          have K60 : ∀ (v_4 : Int) (m_11 : Mem), kj_2 v_4 m_11 = some x40 → J SHL G rm_L_drawn (.inl O) C (11 + 2 * v_3.toNat) (66 + 12 * v_3.toNat) 103 [(7, VI v_3), (6, VI is_2), (5, VI n_), (0, VR 0), (1, VR 455), (2, VR 456), (3, VR 457), (4, VR 458)] [VI v_4, VI is_2] m_11 := by
            intro v_4 m_11 h
            subst hk59
            dsimp only at h
            refine s_iand X dL_drawn_103 ?_
            obtain ⟨is_3, e68, h⟩ := ltv_elim h
            refine s_istore X e68 rfl (by omega) dL_drawn_104 ?_
            obtain ⟨g69, h⟩ := grd_some h
            obtain ⟨v_5, e70, h⟩ := ltv_elim h
            refine s_iinc X 1 rfl g69 e70 rfl (by omega) dL_drawn_106 ?_
            refine s_goto (tgt := 66) X dL_drawn_109 (by omega) ?_
            exact s_le (by omega) (by omega) (ih42 _ _ _ (iter_next h hc41))
          refine s_load0 X 3 rfl dL_drawn_85 ?_
          refine s_load0 X 5 rfl dL_drawn_86 ?_
          refine s_iload X 0 rfl dL_drawn_87 ?_
          refine s_iald X SHL_456 g49.1 g54 dL_drawn_89 ?_
          obtain ⟨r_7, m_12, hq61, h⟩ := bq2_some h
          refine s_callSW (As := [VR 0, VI (m_10 456 v_3.toNat)]) X nc cwS_L_113 dL_drawn_90 (H_stop G (m_10 456 v_3.toNat) m_10 (r_7, m_12) hq61) rfl ⟨Nat.le_of_ble_eq_true rfl, Nat.le_of_ble_eq_true rfl⟩ ⟨by rw [show rm_L_stop.cells = 2 from rfl, show rm_L_drawn.cells = 669 from rfl]; omega, by rw [show rm_L_stop.slots = 12 from rfl, show rm_L_drawn.slots = 4014 from rfl]; omega⟩ (Nat.le_of_ble_eq_true rfl) noX (kkR ?_)
          refine s_le (k' := (11 + 2 * v_3.toNat)) (n' := (66 + 12 * v_3.toNat)) (by rw [show rm_L_stop.cells = 2 from rfl]; omega) (by rw [show rm_L_stop.slots = 12 from rfl]; omega) ?_
          refine s_iload X 0 rfl dL_drawn_93 ?_
          refine s_icmpne_f (tgt := 102) X dL_drawn_95 (by omega) (fun c63 => ?_) (fun c64 => ?_)
          · replace h := ite_neg h c63
            refine s_const X (by unfold InR; omega) dL_drawn_102 ?_
            exact s_le (by omega) (by omega) (K60 _ _ h)
          · replace h := ite_pos h c64
            refine s_const X (by unfold InR; omega) dL_drawn_98 ?_
            refine s_goto (tgt := 103) X dL_drawn_99 (by omega) ?_
            exact s_le (by omega) (by omega) (K60 _ _ h)
    exact s_le (by first | omega | exact Nat.le_of_ble_eq_true rfl | (simp only [rm_L_draw, rm_L_isSound, rm_L_vehicles, rm_L_vehiclesByMatching, rm_L_stop, rm_L_walk, rm_L_service, rm_L_week, rm_L_putDay, rm_L_trip, rm_L_call, rm_L_close, rm_L_drawn]; omega)) (by first | omega | exact Nat.le_of_ble_eq_true rfl | (simp only [rm_L_draw, rm_L_isSound, rm_L_vehicles, rm_L_vehiclesByMatching, rm_L_stop, rm_L_walk, rm_L_service, rm_L_week, rm_L_putDay, rm_L_trip, rm_L_call, rm_L_close, rm_L_drawn]; omega)) (LP43 _ _ _ _ hl48)
  refine s_load0 X 1 rfl dL_drawn_15 ?_
  obtain ⟨r_2, m_4, hq10, h⟩ := bq2_some h
  refine s_callSW (As := [VR 0]) X nc cwS_L_104 dL_drawn_16 (H_service G m_2 (r_2, m_4) hq10) rfl ⟨Nat.le_of_ble_eq_true rfl, Nat.le_of_ble_eq_true rfl⟩ ⟨Nat.le_of_ble_eq_true rfl, Nat.le_of_ble_eq_true rfl⟩ (Nat.le_of_ble_eq_true rfl) noX (kkR ?_)
  refine s_ifne_f (tgt := 60) X dL_drawn_19 (by omega) (fun c12 => ?_) (fun c13 => ?_)
  · replace h := ite_neg h c12
    refine s_const X (by unfold InR; omega) dL_drawn_60 ?_
    exact s_kn rfl rfl (K9 _ _ h)
  · replace h := ite_pos h c13
    refine s_load0 X 1 rfl dL_drawn_22 ?_
    obtain ⟨r_3, m_5, hq16, h⟩ := bq2_some h
    refine s_callSW (As := [VR 0]) X nc cwS_L_104 dL_drawn_23 (H_service G m_4 (r_3, m_5) hq16) rfl ⟨Nat.le_of_ble_eq_true rfl, Nat.le_of_ble_eq_true rfl⟩ ⟨Nat.le_of_ble_eq_true rfl, Nat.le_of_ble_eq_true rfl⟩ (Nat.le_of_ble_eq_true rfl) noX (kkR ?_)
    refine s_const X (by unfold InR; omega) dL_drawn_26 ?_
    refine s_icmpne_f (tgt := 60) X dL_drawn_27 (by omega) (fun c18 => ?_) (fun c19 => ?_)
    · replace h := ite_neg h c18
      refine s_const X (by unfold InR; omega) dL_drawn_60 ?_
      exact s_kn rfl rfl (K9 _ _ h)
    · replace h := ite_pos h c19
      refine s_load0 X 1 rfl dL_drawn_30 ?_
      refine s_const X (by unfold InR; omega) dL_drawn_31 ?_
      refine s_bipush X (by omega) dL_drawn_32 ?_
      refine s_bipush X (by omega) dL_drawn_34 ?_
      refine s_bipush X (by omega) dL_drawn_36 ?_
      obtain ⟨r_4, m_6, hq22, h⟩ := bq2_some h
      refine s_callSW (As := [VR 0, VI 0, VI 127, VI 9, VI 11]) X nc cwS_L_107 dL_drawn_38 (H_week G 0 127 9 11 m_5 (r_4, m_6) hq22) rfl ⟨Nat.le_of_ble_eq_true rfl, Nat.le_of_ble_eq_true rfl⟩ ⟨Nat.le_of_ble_eq_true rfl, Nat.le_of_ble_eq_true rfl⟩ (Nat.le_of_ble_eq_true rfl) noX (kkR ?_)
      refine s_const X (by unfold InR; omega) dL_drawn_41 ?_
      refine s_icmpne_f (tgt := 60) X dL_drawn_42 (by omega) (fun c24 => ?_) (fun c25 => ?_)
      · replace h := ite_neg h c24
        refine s_const X (by unfold InR; omega) dL_drawn_60 ?_
        exact s_kn rfl rfl (K9 _ _ h)
      · replace h := ite_pos h c25
        refine s_load0 X 1 rfl dL_drawn_45 ?_
        refine s_const X (by unfold InR; omega) dL_drawn_46 ?_
        refine s_bipush X (by omega) dL_drawn_47 ?_
        refine s_const X (by unfold InR; omega) dL_drawn_49 ?_
        obtain ⟨r_5, m_7, hq28, h⟩ := bq2_some h
        refine s_callSW (As := [VR 0, VI 1, VI 10, VI 1]) X nc cwS_L_110 dL_drawn_50 (H_putDay G 1 10 1 m_6 (r_5, m_7) hq28) rfl ⟨Nat.le_of_ble_eq_true rfl, Nat.le_of_ble_eq_true rfl⟩ ⟨Nat.le_of_ble_eq_true rfl, Nat.le_of_ble_eq_true rfl⟩ (Nat.le_of_ble_eq_true rfl) noX (kkR ?_)
        refine s_ifne_f (tgt := 60) X dL_drawn_53 (by omega) (fun c30 => ?_) (fun c31 => ?_)
        · replace h := ite_neg h c30
          refine s_const X (by unfold InR; omega) dL_drawn_60 ?_
          exact s_kn rfl rfl (K9 _ _ h)
        · replace h := ite_pos h c31
          refine s_const X (by unfold InR; omega) dL_drawn_56 ?_
          refine s_goto (tgt := 61) X dL_drawn_57 (by omega) ?_
          exact s_kn rfl rfl (K9 _ _ h)
