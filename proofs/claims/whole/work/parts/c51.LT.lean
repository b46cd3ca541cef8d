/-! ===== THE LAW'S TURNS ===== -/
set_option maxRecDepth 20000 in
set_option maxHeartbeats 4000000 in
theorem T_stop {G : Gl} {C : Ct} {b Ls : Nat} {xs : Nat → Int32} {Q : Ct → State → Prop} {Inv : Mem → Mem → Prop} {k n : Nat} {i : Int} {M : Mem} (LC : LawC G C b Ls xs) (hIC : InvC Inv) (hst : ST_stop Inv) (h0 : 0 ≤ i) (h6 : i + 6 ≤ Ls) (hk : k + 100 ≤ 603072) (hn : n + 600 ≤ 7223402) (hI : Inv M (offM 455 M)) (hnx : ∀ M2 : Mem, Inv M2 (offM 455 M2) → J SHL G room_1 (.inr Q) C (k + 100) (n + 600) 3989 (L0 i) [] M2) : J SHL G room_1 (.inr Q) C k n 268 (L0 i) [] M := by
  obtain ⟨X, nc, hsc, hz, hL⟩ := LC
  have hL9 : (Ls : Int) ≤ 3072 := by omega
  refine s_ok (fun _ _ hM => ?_)
  refine s_load0 X 1 rfl dL_law_268 ?_
  refine s_load0 X 0 rfl dL_law_269 ?_
  refine s_iload X 5 rfl dL_law_270 ?_
  refine s_const X (by unfold InR; omega) dL_law_272 ?_
  refine s_iadd X (by unfold InR; omega) dL_law_273 ?_
  refine s_sld X hsc hz (by omega) (by omega) dL_law_274 ?_
  refine s_load0 X 3 rfl dL_law_275 ?_
  obtain ⟨rc, rm0, e1, -, -, f1, f2⟩ := hst M (offM 455 M) ((xs (i + 1).toNat).toInt) hI hM (okM_off hM 455) (InR_of _)
  have hH := H_stop G ((xs (i + 1).toNat).toInt) M rc e1 (fun x hx => (f2 x hx).1)
  rw [hout_eq] at hH
  refine s_callSW (As := [VR 0, VI ((xs (i + 1).toNat).toInt), VR 489]) X nc cwS_L_182 dL_law_276 hH rfl ⟨Nat.le_of_ble_eq_true rfl, Nat.le_of_ble_eq_true rfl⟩ ⟨by show k + 2 ≤ 603072; omega, by show n + 12 ≤ 7223402; omega⟩ (Nat.le_of_ble_eq_true rfl) noX (kkR ?_)
  obtain ⟨M1, hM1⟩ : ∃ z, z = hmem wrI rc M := ⟨_, rfl⟩
  rw [← hM1]
  obtain ⟨kz, hkz⟩ : ∃ z, z = hcode [0, 1] rc := ⟨_, rfl⟩
  show J SHL G room_1 (.inr Q) C (k + 2) (n + 12) 279 [(0, VR 491), (1, VR 0), (2, VR 455), (3, VR 489), (4, VR 490), (5, VI i)] [VI (hcode [0, 1] rc)] M1
  refine s_istore X hkz rfl (by omega) dL_law_279 ?_
  show J SHL G room_1 (.inr Q) C (k + 2) (n + 12) 281 [(6, VI kz), (0, VR 491), (1, VR 0), (2, VR 455), (3, VR 489), (4, VR 490), (5, VI i)] [] M1
  refine s_ok (fun _ _ hMM => ?_)
  have hI1 : Inv M (offM 455 M1) := inv_mid hIC hI (by rw [hM1]; exact (hmem_lo wrI_lo rc M).2)
  refine s_load0 X 3 rfl dL_law_281 ?_
  refine s_load0 X 1 rfl dL_law_282 ?_
  refine s_iload X 6 rfl dL_law_283 ?_
  refine s_const X (by unfold InR; omega) dL_law_285 ?_
  refine s_iadd X (by unfold InR; omega) dL_law_286 ?_
  refine s_sld X hsc hz (by omega) (by omega) dL_law_287 ?_
  obtain ⟨rc2, rm, e1b, e2, hI2, h1, h2⟩ := hst M (offM 455 M1) ((xs (i + 1).toNat).toInt) hI1 hM (okM_off hMM 455) (InR_of _)
  cases e1.symm.trans e1b
  refine s_callVH (As := [VI ((xs (i + 1).toNat).toInt)]) X cw_L_187 SHL_455 rfl dL_law_288 (con_M (As := [VR 0, VI ((xs (i + 1).toNat).toInt)]) nrI (L_M_stop (offG G 455) ((xs (i + 1).toNat).toInt) (offM 455 M1) rm e2)) rfl ⟨Nat.le_of_ble_eq_true rfl, Nat.le_of_ble_eq_true rfl⟩ ⟨by show k + 2 + 0 ≤ 603072; omega, by show n + 12 + 0 ≤ 7223402; omega⟩ (Nat.le_of_ble_eq_true rfl) noX (kkR ?_)
  obtain ⟨g1, g2, g3⟩ := ag_use hIC wrI_lo (M := M) hI2 h1 h2
  rw [← hM1] at g1 g2 g3
  obtain ⟨M2, hM2⟩ : ∃ z, z = putM 455 34 M1 rm.2 := ⟨_, rfl⟩
  rw [← hM2] at g1 g2 g3 ⊢
  rw [← hkz] at g1 g2
  obtain ⟨bz, hbz⟩ : ∃ z, z = rm.1 := ⟨_, rfl⟩
  rw [← hbz] at g2
  show J SHL G room_1 (.inr Q) C (k + 2) (n + 12) 291 [(6, VI kz), (0, VR 491), (1, VR 0), (2, VR 455), (3, VR 489), (4, VR 490), (5, VI i)] [VI rm.1] M2
  refine s_istore X hbz rfl (by omega) dL_law_291 ?_
  show J SHL G room_1 (.inr Q) C (k + 2) (n + 12) 293 [(7, VI bz), (6, VI kz), (0, VR 491), (1, VR 0), (2, VR 455), (3, VR 489), (4, VR 490), (5, VI i)] [] M2
  refine s_load0 X 4 rfl dL_law_293 ?_
  refine s_callVH (As := []) X cw_L_188 SHL_455 rfl dL_law_294 (con_Mr (As := [VR 0]) nrI (L_M_thrown (offG G 455) (offM 455 M2) (offM 455 M2 0 0) rfl)) rfl ⟨Nat.le_of_ble_eq_true rfl, Nat.le_of_ble_eq_true rfl⟩ ⟨by show k + 2 + 0 ≤ 603072; omega, by show n + 12 + 0 ≤ 7223402; omega⟩ (Nat.le_of_ble_eq_true rfl) noX (kkR ?_)
  show J SHL G room_1 (.inr Q) C (k + 2) (n + 12) 297 [(7, VI bz), (6, VI kz), (0, VR 491), (1, VR 0), (2, VR 455), (3, VR 489), (4, VR 490), (5, VI i)] [VI (M2 455 0)] M2
  rw [g1]
  refine s_iload X 1 rfl dL_law_297 ?_
  refine s_icmpeq_t (tgt := 304) X dL_law_299 (by omega) (fun _ => ?_) (fun q => absurd rfl q)
  refine s_iload X 1 rfl dL_law_304 ?_
  refine s_ifne_t (tgt := 321) X dL_law_306 (by omega) (fun _ => ?_) (fun q => ?_)
  · refine s_goto (tgt := 3989) X dL_law_321 (by omega) ?_
    refine s_loc [2, 3, 4, 5, 6, 7] rfl ?_
    exact s_le (by omega) (by omega) (hnx M2 g3)
  · have hk0 : kz = 0 := by omega
    obtain ⟨hok, hat⟩ := g2 hk0
    refine s_load0 X 5 rfl dL_law_309 ?_
    refine s_const X (by unfold InR; omega) dL_law_310 ?_
    refine s_lald X SHL_489 dL_law_311 ?_
    rw [hat 489 0 (by omega), hat 489 1 (by omega), wrI_at]
    refine s_iload X 0 rfl dL_law_312 ?_
    refine s_i2l X dL_law_314 ?_
    refine s_lcmp X dL_law_315 ?_
    refine s_ifeq_t (tgt := 321) X dL_law_316 (by omega) (fun _ => ?_) (fun q => absurd ((lcmpI_0 _ _).mpr rfl) q)
    refine s_goto (tgt := 3989) X dL_law_321 (by omega) ?_
    refine s_loc [2, 3, 4, 5, 6, 7] rfl ?_
    exact s_le (by omega) (by omega) (hnx M2 g3)
set_option maxRecDepth 20000 in
set_option maxHeartbeats 4000000 in
theorem T_setChange {G : Gl} {C : Ct} {b Ls : Nat} {xs : Nat → Int32} {Q : Ct → State → Prop} {Inv : Mem → Mem → Prop} {k n : Nat} {i : Int} {M : Mem} (LC : LawC G C b Ls xs) (hIC : InvC Inv) (hst : ST_setChange Inv) (h0 : 0 ≤ i) (h6 : i + 6 ≤ Ls) (hk : k + 100 ≤ 603072) (hn : n + 600 ≤ 7223402) (hI : Inv M (offM 455 M)) (hnx : ∀ M2 : Mem, Inv M2 (offM 455 M2) → J SHL G room_1 (.inr Q) C (k + 100) (n + 600) 3989 (L0 i) [] M2) : J SHL G room_1 (.inr Q) C k n 324 (L0 i) [] M := by
  obtain ⟨X, nc, hsc, hz, hL⟩ := LC
  have hL9 : (Ls : Int) ≤ 3072 := by omega
  refine s_ok (fun _ _ hM => ?_)
  refine s_load0 X 1 rfl dL_law_324 ?_
  refine s_load0 X 0 rfl dL_law_325 ?_
  refine s_iload X 5 rfl dL_law_326 ?_
  refine s_const X (by unfold InR; omega) dL_law_328 ?_
  refine s_iadd X (by unfold InR; omega) dL_law_329 ?_
  refine s_sld X hsc hz (by omega) (by omega) dL_law_330 ?_
  refine s_load0 X 0 rfl dL_law_331 ?_
  refine s_iload X 5 rfl dL_law_332 ?_
  refine s_const X (by unfold InR; omega) dL_law_334 ?_
  refine s_iadd X (by unfold InR; omega) dL_law_335 ?_
  refine s_sld X hsc hz (by omega) (by omega) dL_law_336 ?_
  refine s_load0 X 3 rfl dL_law_337 ?_
  obtain ⟨rc, rm0, e1, -, -, f1, f2⟩ := hst M (offM 455 M) ((xs (i + 1).toNat).toInt) ((xs (i + 2).toNat).toInt) hI hM (okM_off hM 455) (InR_of _) (InR_of _)
  have hH := H_setChange G ((xs (i + 1).toNat).toInt) ((xs (i + 2).toNat).toInt) M rc e1 (fun x hx => (f2 x hx).1)
  rw [hout_eq] at hH
  refine s_callSW (As := [VR 0, VI ((xs (i + 1).toNat).toInt), VI ((xs (i + 2).toNat).toInt), VR 489]) X nc cwS_L_191 dL_law_338 hH rfl ⟨Nat.le_of_ble_eq_true rfl, Nat.le_of_ble_eq_true rfl⟩ ⟨by show k + 2 ≤ 603072; omega, by show n + 12 ≤ 7223402; omega⟩ (Nat.le_of_ble_eq_true rfl) noX (kkR ?_)
  obtain ⟨M1, hM1⟩ : ∃ z, z = hmem wrI rc M := ⟨_, rfl⟩
  rw [← hM1]
  obtain ⟨kz, hkz⟩ : ∃ z, z = hcode [2, 0] rc := ⟨_, rfl⟩
  show J SHL G room_1 (.inr Q) C (k + 2) (n + 12) 341 [(0, VR 491), (1, VR 0), (2, VR 455), (3, VR 489), (4, VR 490), (5, VI i)] [VI (hcode [2, 0] rc)] M1
  refine s_istore X hkz rfl (by omega) dL_law_341 ?_
  show J SHL G room_1 (.inr Q) C (k + 2) (n + 12) 343 [(6, VI kz), (0, VR 491), (1, VR 0), (2, VR 455), (3, VR 489), (4, VR 490), (5, VI i)] [] M1
  refine s_ok (fun _ _ hMM => ?_)
  have hI1 : Inv M (offM 455 M1) := inv_mid hIC hI (by rw [hM1]; exact (hmem_lo wrI_lo rc M).2)
  refine s_load0 X 3 rfl dL_law_343 ?_
  refine s_load0 X 1 rfl dL_law_344 ?_
  refine s_iload X 6 rfl dL_law_345 ?_
  refine s_const X (by unfold InR; omega) dL_law_347 ?_
  refine s_iadd X (by unfold InR; omega) dL_law_348 ?_
  refine s_sld X hsc hz (by omega) (by omega) dL_law_349 ?_
  refine s_load0 X 1 rfl dL_law_350 ?_
  refine s_iload X 6 rfl dL_law_351 ?_
  refine s_const X (by unfold InR; omega) dL_law_353 ?_
  refine s_iadd X (by unfold InR; omega) dL_law_354 ?_
  refine s_sld X hsc hz (by omega) (by omega) dL_law_355 ?_
  obtain ⟨rc2, rm, e1b, e2, hI2, h1, h2⟩ := hst M (offM 455 M1) ((xs (i + 1).toNat).toInt) ((xs (i + 2).toNat).toInt) hI1 hM (okM_off hMM 455) (InR_of _) (InR_of _)
  cases e1.symm.trans e1b
  refine s_callVH (As := [VI ((xs (i + 1).toNat).toInt), VI ((xs (i + 2).toNat).toInt)]) X cw_L_194 SHL_455 rfl dL_law_356 (con_M (As := [VR 0, VI ((xs (i + 1).toNat).toInt), VI ((xs (i + 2).toNat).toInt)]) nrI (L_M_setChange (offG G 455) ((xs (i + 1).toNat).toInt) ((xs (i + 2).toNat).toInt) (offM 455 M1) rm e2)) rfl ⟨Nat.le_of_ble_eq_true rfl, Nat.le_of_ble_eq_true rfl⟩ ⟨by show k + 2 + 0 ≤ 603072; omega, by show n + 12 + 0 ≤ 7223402; omega⟩ (Nat.le_of_ble_eq_true rfl) noX (kkR ?_)
  obtain ⟨g1, g2, g3⟩ := ag_use hIC wrI_lo (M := M) hI2 h1 h2
  rw [← hM1] at g1 g2 g3
  obtain ⟨M2, hM2⟩ : ∃ z, z = putM 455 34 M1 rm.2 := ⟨_, rfl⟩
  rw [← hM2] at g1 g2 g3 ⊢
  rw [← hkz] at g1 g2
  obtain ⟨bz, hbz⟩ : ∃ z, z = rm.1 := ⟨_, rfl⟩
  rw [← hbz] at g2
  show J SHL G room_1 (.inr Q) C (k + 2) (n + 12) 359 [(6, VI kz), (0, VR 491), (1, VR 0), (2, VR 455), (3, VR 489), (4, VR 490), (5, VI i)] [VI rm.1] M2
  refine s_istore X hbz rfl (by omega) dL_law_359 ?_
  show J SHL G room_1 (.inr Q) C (k + 2) (n + 12) 361 [(7, VI bz), (6, VI kz), (0, VR 491), (1, VR 0), (2, VR 455), (3, VR 489), (4, VR 490), (5, VI i)] [] M2
  refine s_load0 X 4 rfl dL_law_361 ?_
  refine s_callVH (As := []) X cw_L_188 SHL_455 rfl dL_law_362 (con_Mr (As := [VR 0]) nrI (L_M_thrown (offG G 455) (offM 455 M2) (offM 455 M2 0 0) rfl)) rfl ⟨Nat.le_of_ble_eq_true rfl, Nat.le_of_ble_eq_true rfl⟩ ⟨by show k + 2 + 0 ≤ 603072; omega, by show n + 12 + 0 ≤ 7223402; omega⟩ (Nat.le_of_ble_eq_true rfl) noX (kkR ?_)
  show J SHL G room_1 (.inr Q) C (k + 2) (n + 12) 365 [(7, VI bz), (6, VI kz), (0, VR 491), (1, VR 0), (2, VR 455), (3, VR 489), (4, VR 490), (5, VI i)] [VI (M2 455 0)] M2
  rw [g1]
  refine s_iload X 1 rfl dL_law_365 ?_
  refine s_icmpeq_t (tgt := 372) X dL_law_367 (by omega) (fun _ => ?_) (fun q => absurd rfl q)
  refine s_iload X 1 rfl dL_law_372 ?_
  refine s_ifne_t (tgt := 389) X dL_law_374 (by omega) (fun _ => ?_) (fun q => ?_)
  · refine s_goto (tgt := 3989) X dL_law_389 (by omega) ?_
    refine s_loc [2, 3, 4, 5, 6, 7] rfl ?_
    exact s_le (by omega) (by omega) (hnx M2 g3)
  · have hk0 : kz = 0 := by omega
    obtain ⟨hok, hat⟩ := g2 hk0
    refine s_load0 X 5 rfl dL_law_377 ?_
    refine s_const X (by unfold InR; omega) dL_law_378 ?_
    refine s_lald X SHL_489 dL_law_379 ?_
    rw [hat 489 0 (by omega), hat 489 1 (by omega), wrI_at]
    refine s_iload X 0 rfl dL_law_380 ?_
    refine s_i2l X dL_law_382 ?_
    refine s_lcmp X dL_law_383 ?_
    refine s_ifeq_t (tgt := 389) X dL_law_384 (by omega) (fun _ => ?_) (fun q => absurd ((lcmpI_0 _ _).mpr rfl) q)
    refine s_goto (tgt := 3989) X dL_law_389 (by omega) ?_
    refine s_loc [2, 3, 4, 5, 6, 7] rfl ?_
    exact s_le (by omega) (by omega) (hnx M2 g3)
set_option maxRecDepth 20000 in
set_option maxHeartbeats 4000000 in
theorem T_walk {G : Gl} {C : Ct} {b Ls : Nat} {xs : Nat → Int32} {Q : Ct → State → Prop} {Inv : Mem → Mem → Prop} {k n : Nat} {i : Int} {M : Mem} (LC : LawC G C b Ls xs) (hIC : InvC Inv) (hst : ST_walk Inv) (h0 : 0 ≤ i) (h6 : i + 6 ≤ Ls) (hk : k + 100 ≤ 603072) (hn : n + 600 ≤ 7223402) (hI : Inv M (offM 455 M)) (hnx : ∀ M2 : Mem, Inv M2 (offM 455 M2) → J SHL G room_1 (.inr Q) C (k + 100) (n + 600) 3989 (L0 i) [] M2) : J SHL G room_1 (.inr Q) C k n 392 (L0 i) [] M := by
  obtain ⟨X, nc, hsc, hz, hL⟩ := LC
  have hL9 : (Ls : Int) ≤ 3072 := by omega
  refine s_ok (fun _ _ hM => ?_)
  refine s_load0 X 1 rfl dL_law_392 ?_
  refine s_load0 X 0 rfl dL_law_393 ?_
  refine s_iload X 5 rfl dL_law_394 ?_
  refine s_const X (by unfold InR; omega) dL_law_396 ?_
  refine s_iadd X (by unfold InR; omega) dL_law_397 ?_
  refine s_sld X hsc hz (by omega) (by omega) dL_law_398 ?_
  refine s_load0 X 0 rfl dL_law_399 ?_
  refine s_iload X 5 rfl dL_law_400 ?_
  refine s_const X (by unfold InR; omega) dL_law_402 ?_
  refine s_iadd X (by unfold InR; omega) dL_law_403 ?_
  refine s_sld X hsc hz (by omega) (by omega) dL_law_404 ?_
  refine s_load0 X 0 rfl dL_law_405 ?_
  refine s_iload X 5 rfl dL_law_406 ?_
  refine s_const X (by unfold InR; omega) dL_law_408 ?_
  refine s_iadd X (by unfold InR; omega) dL_law_409 ?_
  refine s_sld X hsc hz (by omega) (by omega) dL_law_410 ?_
  refine s_load0 X 3 rfl dL_law_411 ?_
  obtain ⟨rc, rm0, e1, -, -, f1, f2⟩ := hst M (offM 455 M) ((xs (i + 1).toNat).toInt) ((xs (i + 2).toNat).toInt) ((xs (i + 3).toNat).toInt) hI hM (okM_off hM 455) (InR_of _) (InR_of _) (InR_of _)
  have hH := H_walk G ((xs (i + 1).toNat).toInt) ((xs (i + 2).toNat).toInt) ((xs (i + 3).toNat).toInt) M rc e1 (fun x hx => (f2 x hx).1)
  rw [hout_eq] at hH
  refine s_callSW (As := [VR 0, VI ((xs (i + 1).toNat).toInt), VI ((xs (i + 2).toNat).toInt), VI ((xs (i + 3).toNat).toInt), VR 489]) X nc cwS_L_195 dL_law_412 hH rfl ⟨Nat.le_of_ble_eq_true rfl, Nat.le_of_ble_eq_true rfl⟩ ⟨by show k + 4 ≤ 603072; omega, by show n + 24 ≤ 7223402; omega⟩ (Nat.le_of_ble_eq_true rfl) noX (kkR ?_)
  obtain ⟨M1, hM1⟩ : ∃ z, z = hmem wrI rc M := ⟨_, rfl⟩
  rw [← hM1]
  obtain ⟨kz, hkz⟩ : ∃ z, z = hcode [2, 0] rc := ⟨_, rfl⟩
  show J SHL G room_1 (.inr Q) C (k + 4) (n + 24) 415 [(0, VR 491), (1, VR 0), (2, VR 455), (3, VR 489), (4, VR 490), (5, VI i)] [VI (hcode [2, 0] rc)] M1
  refine s_istore X hkz rfl (by omega) dL_law_415 ?_
  show J SHL G room_1 (.inr Q) C (k + 4) (n + 24) 417 [(6, VI kz), (0, VR 491), (1, VR 0), (2, VR 455), (3, VR 489), (4, VR 490), (5, VI i)] [] M1
  refine s_ok (fun _ _ hMM => ?_)
  have hI1 : Inv M (offM 455 M1) := inv_mid hIC hI (by rw [hM1]; exact (hmem_lo wrI_lo rc M).2)
  refine s_load0 X 3 rfl dL_law_417 ?_
  refine s_load0 X 1 rfl dL_law_418 ?_
  refine s_iload X 6 rfl dL_law_419 ?_
  refine s_const X (by unfold InR; omega) dL_law_421 ?_
  refine s_iadd X (by unfold InR; omega) dL_law_422 ?_
  refine s_sld X hsc hz (by omega) (by omega) dL_law_423 ?_
  refine s_load0 X 1 rfl dL_law_424 ?_
  refine s_iload X 6 rfl dL_law_425 ?_
  refine s_const X (by unfold InR; omega) dL_law_427 ?_
  refine s_iadd X (by unfold InR; omega) dL_law_428 ?_
  refine s_sld X hsc hz (by omega) (by omega) dL_law_429 ?_
  refine s_load0 X 1 rfl dL_law_430 ?_
  refine s_iload X 6 rfl dL_law_431 ?_
  refine s_const X (by unfold InR; omega) dL_law_433 ?_
  refine s_iadd X (by unfold InR; omega) dL_law_434 ?_
  refine s_sld X hsc hz (by omega) (by omega) dL_law_435 ?_
  obtain ⟨rc2, rm, e1b, e2, hI2, h1, h2⟩ := hst M (offM 455 M1) ((xs (i + 1).toNat).toInt) ((xs (i + 2).toNat).toInt) ((xs (i + 3).toNat).toInt) hI1 hM (okM_off hMM 455) (InR_of _) (InR_of _) (InR_of _)
  cases e1.symm.trans e1b
  refine s_callVH (As := [VI ((xs (i + 1).toNat).toInt), VI ((xs (i + 2).toNat).toInt), VI ((xs (i + 3).toNat).toInt)]) X cw_L_198 SHL_455 rfl dL_law_436 (con_M (As := [VR 0, VI ((xs (i + 1).toNat).toInt), VI ((xs (i + 2).toNat).toInt), VI ((xs (i + 3).toNat).toInt)]) nrI (L_M_walk (offG G 455) ((xs (i + 1).toNat).toInt) ((xs (i + 2).toNat).toInt) ((xs (i + 3).toNat).toInt) (offM 455 M1) rm e2)) rfl ⟨Nat.le_of_ble_eq_true rfl, Nat.le_of_ble_eq_true rfl⟩ ⟨by show k + 4 + 0 ≤ 603072; omega, by show n + 24 + 0 ≤ 7223402; omega⟩ (Nat.le_of_ble_eq_true rfl) noX (kkR ?_)
  obtain ⟨g1, g2, g3⟩ := ag_use hIC wrI_lo (M := M) hI2 h1 h2
  rw [← hM1] at g1 g2 g3
  obtain ⟨M2, hM2⟩ : ∃ z, z = putM 455 34 M1 rm.2 := ⟨_, rfl⟩
  rw [← hM2] at g1 g2 g3 ⊢
  rw [← hkz] at g1 g2
  obtain ⟨bz, hbz⟩ : ∃ z, z = rm.1 := ⟨_, rfl⟩
  rw [← hbz] at g2
  show J SHL G room_1 (.inr Q) C (k + 4) (n + 24) 439 [(6, VI kz), (0, VR 491), (1, VR 0), (2, VR 455), (3, VR 489), (4, VR 490), (5, VI i)] [VI rm.1] M2
  refine s_istore X hbz rfl (by omega) dL_law_439 ?_
  show J SHL G room_1 (.inr Q) C (k + 4) (n + 24) 441 [(7, VI bz), (6, VI kz), (0, VR 491), (1, VR 0), (2, VR 455), (3, VR 489), (4, VR 490), (5, VI i)] [] M2
  refine s_load0 X 4 rfl dL_law_441 ?_
  refine s_callVH (As := []) X cw_L_188 SHL_455 rfl dL_law_442 (con_Mr (As := [VR 0]) nrI (L_M_thrown (offG G 455) (offM 455 M2) (offM 455 M2 0 0) rfl)) rfl ⟨Nat.le_of_ble_eq_true rfl, Nat.le_of_ble_eq_true rfl⟩ ⟨by show k + 4 + 0 ≤ 603072; omega, by show n + 24 + 0 ≤ 7223402; omega⟩ (Nat.le_of_ble_eq_true rfl) noX (kkR ?_)
  show J SHL G room_1 (.inr Q) C (k + 4) (n + 24) 445 [(7, VI bz), (6, VI kz), (0, VR 491), (1, VR 0), (2, VR 455), (3, VR 489), (4, VR 490), (5, VI i)] [VI (M2 455 0)] M2
  rw [g1]
  refine s_iload X 1 rfl dL_law_445 ?_
  refine s_icmpeq_t (tgt := 452) X dL_law_447 (by omega) (fun _ => ?_) (fun q => absurd rfl q)
  refine s_iload X 1 rfl dL_law_452 ?_
  refine s_ifne_t (tgt := 469) X dL_law_454 (by omega) (fun _ => ?_) (fun q => ?_)
  · refine s_goto (tgt := 3989) X dL_law_469 (by omega) ?_
    refine s_loc [2, 3, 4, 5, 6, 7] rfl ?_
    exact s_le (by omega) (by omega) (hnx M2 g3)
  · have hk0 : kz = 0 := by omega
    obtain ⟨hok, hat⟩ := g2 hk0
    refine s_load0 X 5 rfl dL_law_457 ?_
    refine s_const X (by unfold InR; omega) dL_law_458 ?_
    refine s_lald X SHL_489 dL_law_459 ?_
    rw [hat 489 0 (by omega), hat 489 1 (by omega), wrI_at]
    refine s_iload X 0 rfl dL_law_460 ?_
    refine s_i2l X dL_law_462 ?_
    refine s_lcmp X dL_law_463 ?_
    refine s_ifeq_t (tgt := 469) X dL_law_464 (by omega) (fun _ => ?_) (fun q => absurd ((lcmpI_0 _ _).mpr rfl) q)
    refine s_goto (tgt := 3989) X dL_law_469 (by omega) ?_
    refine s_loc [2, 3, 4, 5, 6, 7] rfl ?_
    exact s_le (by omega) (by omega) (hnx M2 g3)
set_option maxRecDepth 20000 in
set_option maxHeartbeats 4000000 in
theorem T_walkTime {G : Gl} {C : Ct} {b Ls : Nat} {xs : Nat → Int32} {Q : Ct → State → Prop} {Inv : Mem → Mem → Prop} {k n : Nat} {i : Int} {M : Mem} (LC : LawC G C b Ls xs) (hIC : InvC Inv) (hst : ST_walkTime Inv) (h0 : 0 ≤ i) (h6 : i + 6 ≤ Ls) (hk : k + 100 ≤ 603072) (hn : n + 600 ≤ 7223402) (hI : Inv M (offM 455 M)) (hnx : ∀ M2 : Mem, Inv M2 (offM 455 M2) → J SHL G room_1 (.inr Q) C (k + 100) (n + 600) 3989 (L0 i) [] M2) : J SHL G room_1 (.inr Q) C k n 472 (L0 i) [] M := by
  obtain ⟨X, nc, hsc, hz, hL⟩ := LC
  have hL9 : (Ls : Int) ≤ 3072 := by omega
  refine s_ok (fun _ _ hM => ?_)
  refine s_load0 X 1 rfl dL_law_472 ?_
  refine s_load0 X 0 rfl dL_law_473 ?_
  refine s_iload X 5 rfl dL_law_474 ?_
  refine s_const X (by unfold InR; omega) dL_law_476 ?_
  refine s_iadd X (by unfold InR; omega) dL_law_477 ?_
  refine s_sld X hsc hz (by omega) (by omega) dL_law_478 ?_
  refine s_load0 X 0 rfl dL_law_479 ?_
  refine s_iload X 5 rfl dL_law_480 ?_
  refine s_const X (by unfold InR; omega) dL_law_482 ?_
  refine s_iadd X (by unfold InR; omega) dL_law_483 ?_
  refine s_sld X hsc hz (by omega) (by omega) dL_law_484 ?_
  refine s_load0 X 3 rfl dL_law_485 ?_
  obtain ⟨rc, rm0, e1, -, -, f1, f2⟩ := hst M (offM 455 M) ((xs (i + 1).toNat).toInt) ((xs (i + 2).toNat).toInt) hI hM (okM_off hM 455) (InR_of _) (InR_of _)
  have hH := H_walkTime G ((xs (i + 1).toNat).toInt) ((xs (i + 2).toNat).toInt) M rc e1 (fun x hx => (f2 x hx).1)
  rw [hout_eq] at hH
  refine s_callSW (As := [VR 0, VI ((xs (i + 1).toNat).toInt), VI ((xs (i + 2).toNat).toInt), VR 489]) X nc cwS_L_199 dL_law_486 hH rfl ⟨Nat.le_of_ble_eq_true rfl, Nat.le_of_ble_eq_true rfl⟩ ⟨by show k + 3 ≤ 603072; omega, by show n + 18 ≤ 7223402; omega⟩ (Nat.le_of_ble_eq_true rfl) noX (kkR ?_)
  obtain ⟨M1, hM1⟩ : ∃ z, z = hmem wrI rc M := ⟨_, rfl⟩
  rw [← hM1]
  obtain ⟨kz, hkz⟩ : ∃ z, z = hcode [2, 5] rc := ⟨_, rfl⟩
  show J SHL G room_1 (.inr Q) C (k + 3) (n + 18) 489 [(0, VR 491), (1, VR 0), (2, VR 455), (3, VR 489), (4, VR 490), (5, VI i)] [VI (hcode [2, 5] rc)] M1
  refine s_istore X hkz rfl (by omega) dL_law_489 ?_
  show J SHL G room_1 (.inr Q) C (k + 3) (n + 18) 491 [(6, VI kz), (0, VR 491), (1, VR 0), (2, VR 455), (3, VR 489), (4, VR 490), (5, VI i)] [] M1
  refine s_ok (fun _ _ hMM => ?_)
  have hI1 : Inv M (offM 455 M1) := inv_mid hIC hI (by rw [hM1]; exact (hmem_lo wrI_lo rc M).2)
  refine s_load0 X 3 rfl dL_law_491 ?_
  refine s_load0 X 1 rfl dL_law_492 ?_
  refine s_iload X 6 rfl dL_law_493 ?_
  refine s_const X (by unfold InR; omega) dL_law_495 ?_
  refine s_iadd X (by unfold InR; omega) dL_law_496 ?_
  refine s_sld X hsc hz (by omega) (by omega) dL_law_497 ?_
  refine s_load0 X 1 rfl dL_law_498 ?_
  refine s_iload X 6 rfl dL_law_499 ?_
  refine s_const X (by unfold InR; omega) dL_law_501 ?_
  refine s_iadd X (by unfold InR; omega) dL_law_502 ?_
  refine s_sld X hsc hz (by omega) (by omega) dL_law_503 ?_
  obtain ⟨rc2, rm, e1b, e2, hI2, h1, h2⟩ := hst M (offM 455 M1) ((xs (i + 1).toNat).toInt) ((xs (i + 2).toNat).toInt) hI1 hM (okM_off hMM 455) (InR_of _) (InR_of _)
  cases e1.symm.trans e1b
  refine s_callVH (As := [VI ((xs (i + 1).toNat).toInt), VI ((xs (i + 2).toNat).toInt)]) X cw_L_201 SHL_455 rfl dL_law_504 (con_M (As := [VR 0, VI ((xs (i + 1).toNat).toInt), VI ((xs (i + 2).toNat).toInt)]) nrI (L_M_walkTime (offG G 455) ((xs (i + 1).toNat).toInt) ((xs (i + 2).toNat).toInt) (offM 455 M1) rm e2)) rfl ⟨Nat.le_of_ble_eq_true rfl, Nat.le_of_ble_eq_true rfl⟩ ⟨by show k + 3 + 0 ≤ 603072; omega, by show n + 18 + 0 ≤ 7223402; omega⟩ (Nat.le_of_ble_eq_true rfl) noX (kkR ?_)
  obtain ⟨g1, g2, g3⟩ := ag_use hIC wrI_lo (M := M) hI2 h1 h2
  rw [← hM1] at g1 g2 g3
  obtain ⟨M2, hM2⟩ : ∃ z, z = putM 455 34 M1 rm.2 := ⟨_, rfl⟩
  rw [← hM2] at g1 g2 g3 ⊢
  rw [← hkz] at g1 g2
  obtain ⟨bz, hbz⟩ : ∃ z, z = rm.1 := ⟨_, rfl⟩
  rw [← hbz] at g2
  show J SHL G room_1 (.inr Q) C (k + 3) (n + 18) 507 [(6, VI kz), (0, VR 491), (1, VR 0), (2, VR 455), (3, VR 489), (4, VR 490), (5, VI i)] [VI rm.1] M2
  refine s_istore X hbz rfl (by omega) dL_law_507 ?_
  show J SHL G room_1 (.inr Q) C (k + 3) (n + 18) 509 [(7, VI bz), (6, VI kz), (0, VR 491), (1, VR 0), (2, VR 455), (3, VR 489), (4, VR 490), (5, VI i)] [] M2
  refine s_load0 X 4 rfl dL_law_509 ?_
  refine s_callVH (As := []) X cw_L_188 SHL_455 rfl dL_law_510 (con_Mr (As := [VR 0]) nrI (L_M_thrown (offG G 455) (offM 455 M2) (offM 455 M2 0 0) rfl)) rfl ⟨Nat.le_of_ble_eq_true rfl, Nat.le_of_ble_eq_true rfl⟩ ⟨by show k + 3 + 0 ≤ 603072; omega, by show n + 18 + 0 ≤ 7223402; omega⟩ (Nat.le_of_ble_eq_true rfl) noX (kkR ?_)
  show J SHL G room_1 (.inr Q) C (k + 3) (n + 18) 513 [(7, VI bz), (6, VI kz), (0, VR 491), (1, VR 0), (2, VR 455), (3, VR 489), (4, VR 490), (5, VI i)] [VI (M2 455 0)] M2
  rw [g1]
  refine s_iload X 1 rfl dL_law_513 ?_
  refine s_icmpeq_t (tgt := 520) X dL_law_515 (by omega) (fun _ => ?_) (fun q => absurd rfl q)
  refine s_iload X 1 rfl dL_law_520 ?_
  refine s_ifne_t (tgt := 537) X dL_law_522 (by omega) (fun _ => ?_) (fun q => ?_)
  · refine s_goto (tgt := 3989) X dL_law_537 (by omega) ?_
    refine s_loc [2, 3, 4, 5, 6, 7] rfl ?_
    exact s_le (by omega) (by omega) (hnx M2 g3)
  · have hk0 : kz = 0 := by omega
    obtain ⟨hok, hat⟩ := g2 hk0
    refine s_load0 X 5 rfl dL_law_525 ?_
    refine s_const X (by unfold InR; omega) dL_law_526 ?_
    refine s_lald X SHL_489 dL_law_527 ?_
    rw [hat 489 0 (by omega), hat 489 1 (by omega), wrI_at]
    refine s_iload X 0 rfl dL_law_528 ?_
    refine s_i2l X dL_law_530 ?_
    refine s_lcmp X dL_law_531 ?_
    refine s_ifeq_t (tgt := 537) X dL_law_532 (by omega) (fun _ => ?_) (fun q => absurd ((lcmpI_0 _ _).mpr rfl) q)
    refine s_goto (tgt := 3989) X dL_law_537 (by omega) ?_
    refine s_loc [2, 3, 4, 5, 6, 7] rfl ?_
    exact s_le (by omega) (by omega) (hnx M2 g3)
set_option maxRecDepth 20000 in
set_option maxHeartbeats 4000000 in
theorem T_service {G : Gl} {C : Ct} {b Ls : Nat} {xs : Nat → Int32} {Q : Ct → State → Prop} {Inv : Mem → Mem → Prop} {k n : Nat} {i : Int} {M : Mem} (LC : LawC G C b Ls xs) (hIC : InvC Inv) (hst : ST_service Inv) (h0 : 0 ≤ i) (h6 : i + 6 ≤ Ls) (hk : k + 100 ≤ 603072) (hn : n + 600 ≤ 7223402) (hI : Inv M (offM 455 M)) (hnx : ∀ M2 : Mem, Inv M2 (offM 455 M2) → J SHL G room_1 (.inr Q) C (k + 100) (n + 600) 3989 (L0 i) [] M2) : J SHL G room_1 (.inr Q) C k n 540 (L0 i) [] M := by
  obtain ⟨X, nc, hsc, hz, hL⟩ := LC
  have hL9 : (Ls : Int) ≤ 3072 := by omega
  refine s_ok (fun _ _ hM => ?_)
  refine s_load0 X 1 rfl dL_law_540 ?_
  refine s_load0 X 3 rfl dL_law_541 ?_
  obtain ⟨rc, rm0, e1, -, -, f1, f2⟩ := hst M (offM 455 M) hI hM (okM_off hM 455) 
  have hH := H_service G M rc e1 (fun x hx => (f2 x hx).1)
  rw [hout_eq] at hH
  refine s_callSW (As := [VR 0, VR 489]) X nc cwS_L_202 dL_law_542 hH rfl ⟨Nat.le_of_ble_eq_true rfl, Nat.le_of_ble_eq_true rfl⟩ ⟨by show k + 1 ≤ 603072; omega, by show n + 6 ≤ 7223402; omega⟩ (Nat.le_of_ble_eq_true rfl) noX (kkR ?_)
  obtain ⟨M1, hM1⟩ : ∃ z, z = hmem wrI rc M := ⟨_, rfl⟩
  rw [← hM1]
  obtain ⟨kz, hkz⟩ : ∃ z, z = hcode [1] rc := ⟨_, rfl⟩
  show J SHL G room_1 (.inr Q) C (k + 1) (n + 6) 545 [(0, VR 491), (1, VR 0), (2, VR 455), (3, VR 489), (4, VR 490), (5, VI i)] [VI (hcode [1] rc)] M1
  refine s_istore X hkz rfl (by omega) dL_law_545 ?_
  show J SHL G room_1 (.inr Q) C (k + 1) (n + 6) 547 [(6, VI kz), (0, VR 491), (1, VR 0), (2, VR 455), (3, VR 489), (4, VR 490), (5, VI i)] [] M1
  refine s_ok (fun _ _ hMM => ?_)
  have hI1 : Inv M (offM 455 M1) := inv_mid hIC hI (by rw [hM1]; exact (hmem_lo wrI_lo rc M).2)
  refine s_load0 X 3 rfl dL_law_547 ?_
  obtain ⟨rc2, rm, e1b, e2, hI2, h1, h2⟩ := hst M (offM 455 M1) hI1 hM (okM_off hMM 455) 
  cases e1.symm.trans e1b
  refine s_callVH (As := []) X cw_L_205 SHL_455 rfl dL_law_548 (con_M (As := [VR 0]) nrI (L_M_service (offG G 455) (offM 455 M1) rm e2)) rfl ⟨Nat.le_of_ble_eq_true rfl, Nat.le_of_ble_eq_true rfl⟩ ⟨by show k + 1 + 0 ≤ 603072; omega, by show n + 6 + 0 ≤ 7223402; omega⟩ (Nat.le_of_ble_eq_true rfl) noX (kkR ?_)
  obtain ⟨g1, g2, g3⟩ := ag_use hIC wrI_lo (M := M) hI2 h1 h2
  rw [← hM1] at g1 g2 g3
  obtain ⟨M2, hM2⟩ : ∃ z, z = putM 455 34 M1 rm.2 := ⟨_, rfl⟩
  rw [← hM2] at g1 g2 g3 ⊢
  rw [← hkz] at g1 g2
  obtain ⟨bz, hbz⟩ : ∃ z, z = rm.1 := ⟨_, rfl⟩
  rw [← hbz] at g2
  show J SHL G room_1 (.inr Q) C (k + 1) (n + 6) 551 [(6, VI kz), (0, VR 491), (1, VR 0), (2, VR 455), (3, VR 489), (4, VR 490), (5, VI i)] [VI rm.1] M2
  refine s_istore X hbz rfl (by omega) dL_law_551 ?_
  show J SHL G room_1 (.inr Q) C (k + 1) (n + 6) 553 [(7, VI bz), (6, VI kz), (0, VR 491), (1, VR 0), (2, VR 455), (3, VR 489), (4, VR 490), (5, VI i)] [] M2
  refine s_load0 X 4 rfl dL_law_553 ?_
  refine s_callVH (As := []) X cw_L_188 SHL_455 rfl dL_law_554 (con_Mr (As := [VR 0]) nrI (L_M_thrown (offG G 455) (offM 455 M2) (offM 455 M2 0 0) rfl)) rfl ⟨Nat.le_of_ble_eq_true rfl, Nat.le_of_ble_eq_true rfl⟩ ⟨by show k + 1 + 0 ≤ 603072; omega, by show n + 6 + 0 ≤ 7223402; omega⟩ (Nat.le_of_ble_eq_true rfl) noX (kkR ?_)
  show J SHL G room_1 (.inr Q) C (k + 1) (n + 6) 557 [(7, VI bz), (6, VI kz), (0, VR 491), (1, VR 0), (2, VR 455), (3, VR 489), (4, VR 490), (5, VI i)] [VI (M2 455 0)] M2
  rw [g1]
  refine s_iload X 1 rfl dL_law_557 ?_
  refine s_icmpeq_t (tgt := 564) X dL_law_559 (by omega) (fun _ => ?_) (fun q => absurd rfl q)
  refine s_iload X 1 rfl dL_law_564 ?_
  refine s_ifne_t (tgt := 581) X dL_law_566 (by omega) (fun _ => ?_) (fun q => ?_)
  · refine s_goto (tgt := 3989) X dL_law_581 (by omega) ?_
    refine s_loc [2, 3, 4, 5, 6, 7] rfl ?_
    exact s_le (by omega) (by omega) (hnx M2 g3)
  · have hk0 : kz = 0 := by omega
    obtain ⟨hok, hat⟩ := g2 hk0
    refine s_load0 X 5 rfl dL_law_569 ?_
    refine s_const X (by unfold InR; omega) dL_law_570 ?_
    refine s_lald X SHL_489 dL_law_571 ?_
    rw [hat 489 0 (by omega), hat 489 1 (by omega), wrI_at]
    refine s_iload X 0 rfl dL_law_572 ?_
    refine s_i2l X dL_law_574 ?_
    refine s_lcmp X dL_law_575 ?_
    refine s_ifeq_t (tgt := 581) X dL_law_576 (by omega) (fun _ => ?_) (fun q => absurd ((lcmpI_0 _ _).mpr rfl) q)
    refine s_goto (tgt := 3989) X dL_law_581 (by omega) ?_
    refine s_loc [2, 3, 4, 5, 6, 7] rfl ?_
    exact s_le (by omega) (by omega) (hnx M2 g3)
set_option maxRecDepth 20000 in
set_option maxHeartbeats 4000000 in
theorem T_week {G : Gl} {C : Ct} {b Ls : Nat} {xs : Nat → Int32} {Q : Ct → State → Prop} {Inv : Mem → Mem → Prop} {k n : Nat} {i : Int} {M : Mem} (LC : LawC G C b Ls xs) (hIC : InvC Inv) (hst : ST_week Inv) (h0 : 0 ≤ i) (h6 : i + 6 ≤ Ls) (hk : k + 100 ≤ 603072) (hn : n + 600 ≤ 7223402) (hI : Inv M (offM 455 M)) (hnx : ∀ M2 : Mem, Inv M2 (offM 455 M2) → J SHL G room_1 (.inr Q) C (k + 100) (n + 600) 3989 (L0 i) [] M2) : J SHL G room_1 (.inr Q) C k n 584 (L0 i) [] M := by
  obtain ⟨X, nc, hsc, hz, hL⟩ := LC
  have hL9 : (Ls : Int) ≤ 3072 := by omega
  refine s_ok (fun _ _ hM => ?_)
  refine s_load0 X 1 rfl dL_law_584 ?_
  refine s_load0 X 0 rfl dL_law_585 ?_
  refine s_iload X 5 rfl dL_law_586 ?_
  refine s_const X (by unfold InR; omega) dL_law_588 ?_
  refine s_iadd X (by unfold InR; omega) dL_law_589 ?_
  refine s_sld X hsc hz (by omega) (by omega) dL_law_590 ?_
  refine s_load0 X 0 rfl dL_law_591 ?_
  refine s_iload X 5 rfl dL_law_592 ?_
  refine s_const X (by unfold InR; omega) dL_law_594 ?_
  refine s_iadd X (by unfold InR; omega) dL_law_595 ?_
  refine s_sld X hsc hz (by omega) (by omega) dL_law_596 ?_
  refine s_load0 X 0 rfl dL_law_597 ?_
  refine s_iload X 5 rfl dL_law_598 ?_
  refine s_const X (by unfold InR; omega) dL_law_600 ?_
  refine s_iadd X (by unfold InR; omega) dL_law_601 ?_
  refine s_sld X hsc hz (by omega) (by omega) dL_law_602 ?_
  refine s_load0 X 0 rfl dL_law_603 ?_
  refine s_iload X 5 rfl dL_law_604 ?_
  refine s_const X (by unfold InR; omega) dL_law_606 ?_
  refine s_iadd X (by unfold InR; omega) dL_law_607 ?_
  refine s_sld X hsc hz (by omega) (by omega) dL_law_608 ?_
  refine s_load0 X 3 rfl dL_law_609 ?_
  obtain ⟨rc, rm0, e1, -, -, f1, f2⟩ := hst M (offM 455 M) ((xs (i + 1).toNat).toInt) ((xs (i + 2).toNat).toInt) ((xs (i + 3).toNat).toInt) ((xs (i + 4).toNat).toInt) hI hM (okM_off hM 455) (InR_of _) (InR_of _) (InR_of _) (InR_of _)
  have hH := H_week G ((xs (i + 1).toNat).toInt) ((xs (i + 2).toNat).toInt) ((xs (i + 3).toNat).toInt) ((xs (i + 4).toNat).toInt) M rc e1 (fun x hx => (f2 x hx).1)
  rw [hout_eq] at hH
  refine s_callSW (As := [VR 0, VI ((xs (i + 1).toNat).toInt), VI ((xs (i + 2).toNat).toInt), VI ((xs (i + 3).toNat).toInt), VI ((xs (i + 4).toNat).toInt), VR 489]) X nc cwS_L_206 dL_law_610 hH rfl ⟨Nat.le_of_ble_eq_true rfl, Nat.le_of_ble_eq_true rfl⟩ ⟨by show k + 5 ≤ 603072; omega, by show n + 30 ≤ 7223402; omega⟩ (Nat.le_of_ble_eq_true rfl) noX (kkR ?_)
  obtain ⟨M1, hM1⟩ : ∃ z, z = hmem wrI rc M := ⟨_, rfl⟩
  rw [← hM1]
  obtain ⟨kz, hkz⟩ : ∃ z, z = hcode [2, 0] rc := ⟨_, rfl⟩
  show J SHL G room_1 (.inr Q) C (k + 5) (n + 30) 613 [(0, VR 491), (1, VR 0), (2, VR 455), (3, VR 489), (4, VR 490), (5, VI i)] [VI (hcode [2, 0] rc)] M1
  refine s_istore X hkz rfl (by omega) dL_law_613 ?_
  show J SHL G room_1 (.inr Q) C (k + 5) (n + 30) 615 [(6, VI kz), (0, VR 491), (1, VR 0), (2, VR 455), (3, VR 489), (4, VR 490), (5, VI i)] [] M1
  refine s_ok (fun _ _ hMM => ?_)
  have hI1 : Inv M (offM 455 M1) := inv_mid hIC hI (by rw [hM1]; exact (hmem_lo wrI_lo rc M).2)
  refine s_load0 X 3 rfl dL_law_615 ?_
  refine s_load0 X 1 rfl dL_law_616 ?_
  refine s_iload X 6 rfl dL_law_617 ?_
  refine s_const X (by unfold InR; omega) dL_law_619 ?_
  refine s_iadd X (by unfold InR; omega) dL_law_620 ?_
  refine s_sld X hsc hz (by omega) (by omega) dL_law_621 ?_
  refine s_load0 X 1 rfl dL_law_622 ?_
  refine s_iload X 6 rfl dL_law_623 ?_
  refine s_const X (by unfold InR; omega) dL_law_625 ?_
  refine s_iadd X (by unfold InR; omega) dL_law_626 ?_
  refine s_sld X hsc hz (by omega) (by omega) dL_law_627 ?_
  refine s_load0 X 1 rfl dL_law_628 ?_
  refine s_iload X 6 rfl dL_law_629 ?_
  refine s_const X (by unfold InR; omega) dL_law_631 ?_
  refine s_iadd X (by unfold InR; omega) dL_law_632 ?_
  refine s_sld X hsc hz (by omega) (by omega) dL_law_633 ?_
  refine s_load0 X 1 rfl dL_law_634 ?_
  refine s_iload X 6 rfl dL_law_635 ?_
  refine s_const X (by unfold InR; omega) dL_law_637 ?_
  refine s_iadd X (by unfold InR; omega) dL_law_638 ?_
  refine s_sld X hsc hz (by omega) (by omega) dL_law_639 ?_
  obtain ⟨rc2, rm, e1b, e2, hI2, h1, h2⟩ := hst M (offM 455 M1) ((xs (i + 1).toNat).toInt) ((xs (i + 2).toNat).toInt) ((xs (i + 3).toNat).toInt) ((xs (i + 4).toNat).toInt) hI1 hM (okM_off hMM 455) (InR_of _) (InR_of _) (InR_of _) (InR_of _)
  cases e1.symm.trans e1b
  refine s_callVH (As := [VI ((xs (i + 1).toNat).toInt), VI ((xs (i + 2).toNat).toInt), VI ((xs (i + 3).toNat).toInt), VI ((xs (i + 4).toNat).toInt)]) X cw_L_209 SHL_455 rfl dL_law_640 (con_M (As := [VR 0, VI ((xs (i + 1).toNat).toInt), VI ((xs (i + 2).toNat).toInt), VI ((xs (i + 3).toNat).toInt), VI ((xs (i + 4).toNat).toInt)]) nrI (L_M_week (offG G 455) ((xs (i + 1).toNat).toInt) ((xs (i + 2).toNat).toInt) ((xs (i + 3).toNat).toInt) ((xs (i + 4).toNat).toInt) (offM 455 M1) rm e2)) rfl ⟨Nat.le_of_ble_eq_true rfl, Nat.le_of_ble_eq_true rfl⟩ ⟨by show k + 5 + 0 ≤ 603072; omega, by show n + 30 + 0 ≤ 7223402; omega⟩ (Nat.le_of_ble_eq_true rfl) noX (kkR ?_)
  obtain ⟨g1, g2, g3⟩ := ag_use hIC wrI_lo (M := M) hI2 h1 h2
  rw [← hM1] at g1 g2 g3
  obtain ⟨M2, hM2⟩ : ∃ z, z = putM 455 34 M1 rm.2 := ⟨_, rfl⟩
  rw [← hM2] at g1 g2 g3 ⊢
  rw [← hkz] at g1 g2
  obtain ⟨bz, hbz⟩ : ∃ z, z = rm.1 := ⟨_, rfl⟩
  rw [← hbz] at g2
  show J SHL G room_1 (.inr Q) C (k + 5) (n + 30) 643 [(6, VI kz), (0, VR 491), (1, VR 0), (2, VR 455), (3, VR 489), (4, VR 490), (5, VI i)] [VI rm.1] M2
  refine s_istore X hbz rfl (by omega) dL_law_643 ?_
  show J SHL G room_1 (.inr Q) C (k + 5) (n + 30) 645 [(7, VI bz), (6, VI kz), (0, VR 491), (1, VR 0), (2, VR 455), (3, VR 489), (4, VR 490), (5, VI i)] [] M2
  refine s_load0 X 4 rfl dL_law_645 ?_
  refine s_callVH (As := []) X cw_L_188 SHL_455 rfl dL_law_646 (con_Mr (As := [VR 0]) nrI (L_M_thrown (offG G 455) (offM 455 M2) (offM 455 M2 0 0) rfl)) rfl ⟨Nat.le_of_ble_eq_true rfl, Nat.le_of_ble_eq_true rfl⟩ ⟨by show k + 5 + 0 ≤ 603072; omega, by show n + 30 + 0 ≤ 7223402; omega⟩ (Nat.le_of_ble_eq_true rfl) noX (kkR ?_)
  show J SHL G room_1 (.inr Q) C (k + 5) (n + 30) 649 [(7, VI bz), (6, VI kz), (0, VR 491), (1, VR 0), (2, VR 455), (3, VR 489), (4, VR 490), (5, VI i)] [VI (M2 455 0)] M2
  rw [g1]
  refine s_iload X 1 rfl dL_law_649 ?_
  refine s_icmpeq_t (tgt := 656) X dL_law_651 (by omega) (fun _ => ?_) (fun q => absurd rfl q)
  refine s_iload X 1 rfl dL_law_656 ?_
  refine s_ifne_t (tgt := 673) X dL_law_658 (by omega) (fun _ => ?_) (fun q => ?_)
  · refine s_goto (tgt := 3989) X dL_law_673 (by omega) ?_
    refine s_loc [2, 3, 4, 5, 6, 7] rfl ?_
    exact s_le (by omega) (by omega) (hnx M2 g3)
  · have hk0 : kz = 0 := by omega
    obtain ⟨hok, hat⟩ := g2 hk0
    refine s_load0 X 5 rfl dL_law_661 ?_
    refine s_const X (by unfold InR; omega) dL_law_662 ?_
    refine s_lald X SHL_489 dL_law_663 ?_
    rw [hat 489 0 (by omega), hat 489 1 (by omega), wrI_at]
    refine s_iload X 0 rfl dL_law_664 ?_
    refine s_i2l X dL_law_666 ?_
    refine s_lcmp X dL_law_667 ?_
    refine s_ifeq_t (tgt := 673) X dL_law_668 (by omega) (fun _ => ?_) (fun q => absurd ((lcmpI_0 _ _).mpr rfl) q)
    refine s_goto (tgt := 3989) X dL_law_673 (by omega) ?_
    refine s_loc [2, 3, 4, 5, 6, 7] rfl ?_
    exact s_le (by omega) (by omega) (hnx M2 g3)
set_option maxRecDepth 20000 in
set_option maxHeartbeats 4000000 in
theorem T_putDay {G : Gl} {C : Ct} {b Ls : Nat} {xs : Nat → Int32} {Q : Ct → State → Prop} {Inv : Mem → Mem → Prop} {k n : Nat} {i : Int} {M : Mem} (LC : LawC G C b Ls xs) (hIC : InvC Inv) (hst : ST_putDay Inv) (h0 : 0 ≤ i) (h6 : i + 6 ≤ Ls) (hk : k + 100 ≤ 603072) (hn : n + 600 ≤ 7223402) (hI : Inv M (offM 455 M)) (hnx : ∀ M2 : Mem, Inv M2 (offM 455 M2) → J SHL G room_1 (.inr Q) C (k + 100) (n + 600) 3989 (L0 i) [] M2) : J SHL G room_1 (.inr Q) C k n 676 (L0 i) [] M := by
  obtain ⟨X, nc, hsc, hz, hL⟩ := LC
  have hL9 : (Ls : Int) ≤ 3072 := by omega
  refine s_ok (fun _ _ hM => ?_)
  refine s_load0 X 1 rfl dL_law_676 ?_
  refine s_load0 X 0 rfl dL_law_677 ?_
  refine s_iload X 5 rfl dL_law_678 ?_
  refine s_const X (by unfold InR; omega) dL_law_680 ?_
  refine s_iadd X (by unfold InR; omega) dL_law_681 ?_
  refine s_sld X hsc hz (by omega) (by omega) dL_law_682 ?_
  refine s_load0 X 0 rfl dL_law_683 ?_
  refine s_iload X 5 rfl dL_law_684 ?_
  refine s_const X (by unfold InR; omega) dL_law_686 ?_
  refine s_iadd X (by unfold InR; omega) dL_law_687 ?_
  refine s_sld X hsc hz (by omega) (by omega) dL_law_688 ?_
  refine s_load0 X 0 rfl dL_law_689 ?_
  refine s_iload X 5 rfl dL_law_690 ?_
  refine s_const X (by unfold InR; omega) dL_law_692 ?_
  refine s_iadd X (by unfold InR; omega) dL_law_693 ?_
  refine s_sld X hsc hz (by omega) (by omega) dL_law_694 ?_
  have kB : ∀ w9 : Int, w9 = (if (xs (i + 3).toNat).toInt = 0 then 0 else 1) → J SHL G room_1 (.inr Q) C (k + 0) (n + 0) 703 [(0, VR 491), (1, VR 0), (2, VR 455), (3, VR 489), (4, VR 490), (5, VI i)] [VI w9, VI ((xs (i + 2).toNat).toInt), VI ((xs (i + 1).toNat).toInt), VR 0] M := by
    intro w9 e9
    subst e9
    refine s_load0 X 3 rfl dL_law_703 ?_
    obtain ⟨rc, rm0, e1, -, -, f1, f2⟩ := hst M (offM 455 M) ((xs (i + 1).toNat).toInt) ((xs (i + 2).toNat).toInt) ((if (xs (i + 3).toNat).toInt = 0 then 0 else 1)) hI hM (okM_off hM 455) (InR_of _) (InR_of _) (by split <;> omega)
    have hH := H_putDay G ((xs (i + 1).toNat).toInt) ((xs (i + 2).toNat).toInt) ((if (xs (i + 3).toNat).toInt = 0 then 0 else 1)) M rc e1 (fun x hx => (f2 x hx).1)
    rw [hout_eq] at hH
    refine s_callSW (As := [VR 0, VI ((xs (i + 1).toNat).toInt), VI ((xs (i + 2).toNat).toInt), VI ((if (xs (i + 3).toNat).toInt = 0 then 0 else 1)), VR 489]) X nc cwS_L_210 dL_law_704 hH rfl ⟨Nat.le_of_ble_eq_true rfl, Nat.le_of_ble_eq_true rfl⟩ ⟨by show k + 2 ≤ 603072; omega, by show n + 12 ≤ 7223402; omega⟩ (Nat.le_of_ble_eq_true rfl) noX (kkR ?_)
    obtain ⟨M1, hM1⟩ : ∃ z, z = hmem wrB rc M := ⟨_, rfl⟩
    rw [← hM1]
    obtain ⟨kz, hkz⟩ : ∃ z, z = hcode [2, 0] rc := ⟨_, rfl⟩
    show J SHL G room_1 (.inr Q) C (k + 2) (n + 12) 707 [(0, VR 491), (1, VR 0), (2, VR 455), (3, VR 489), (4, VR 490), (5, VI i)] [VI (hcode [2, 0] rc)] M1
    refine s_istore X hkz rfl (by omega) dL_law_707 ?_
    show J SHL G room_1 (.inr Q) C (k + 2) (n + 12) 709 [(6, VI kz), (0, VR 491), (1, VR 0), (2, VR 455), (3, VR 489), (4, VR 490), (5, VI i)] [] M1
    refine s_ok (fun _ _ hMM => ?_)
    have hI1 : Inv M (offM 455 M1) := inv_mid hIC hI (by rw [hM1]; exact (hmem_lo wrB_lo rc M).2)
    refine s_load0 X 3 rfl dL_law_709 ?_
    refine s_load0 X 1 rfl dL_law_710 ?_
    refine s_iload X 6 rfl dL_law_711 ?_
    refine s_const X (by unfold InR; omega) dL_law_713 ?_
    refine s_iadd X (by unfold InR; omega) dL_law_714 ?_
    refine s_sld X hsc hz (by omega) (by omega) dL_law_715 ?_
    refine s_load0 X 1 rfl dL_law_716 ?_
    refine s_iload X 6 rfl dL_law_717 ?_
    refine s_const X (by unfold InR; omega) dL_law_719 ?_
    refine s_iadd X (by unfold InR; omega) dL_law_720 ?_
    refine s_sld X hsc hz (by omega) (by omega) dL_law_721 ?_
    refine s_load0 X 1 rfl dL_law_722 ?_
    refine s_iload X 6 rfl dL_law_723 ?_
    refine s_const X (by unfold InR; omega) dL_law_725 ?_
    refine s_iadd X (by unfold InR; omega) dL_law_726 ?_
    refine s_sld X hsc hz (by omega) (by omega) dL_law_727 ?_
    have kB : ∀ w9 : Int, w9 = (if (xs (i + 3).toNat).toInt = 0 then 0 else 1) → J SHL G room_1 (.inr Q) C (k + 2) (n + 12) 736 [(6, VI kz), (0, VR 491), (1, VR 0), (2, VR 455), (3, VR 489), (4, VR 490), (5, VI i)] [VI w9, VI ((xs (i + 2).toNat).toInt), VI ((xs (i + 1).toNat).toInt), VR 455] M1 := by
      intro w9 e9
      subst e9
      obtain ⟨rc2, rm, e1b, e2, hI2, h1, h2⟩ := hst M (offM 455 M1) ((xs (i + 1).toNat).toInt) ((xs (i + 2).toNat).toInt) ((if (xs (i + 3).toNat).toInt = 0 then 0 else 1)) hI1 hM (okM_off hMM 455) (InR_of _) (InR_of _) (by split <;> omega)
      cases e1.symm.trans e1b
      refine s_callVH (As := [VI ((xs (i + 1).toNat).toInt), VI ((xs (i + 2).toNat).toInt), VI ((if (xs (i + 3).toNat).toInt = 0 then 0 else 1))]) X cw_L_213 SHL_455 rfl dL_law_736 (con_M (As := [VR 0, VI ((xs (i + 1).toNat).toInt), VI ((xs (i + 2).toNat).toInt), VI ((if (xs (i + 3).toNat).toInt = 0 then 0 else 1))]) nrI (L_M_putDay (offG G 455) ((xs (i + 1).toNat).toInt) ((xs (i + 2).toNat).toInt) ((if (xs (i + 3).toNat).toInt = 0 then 0 else 1)) (offM 455 M1) rm e2)) rfl ⟨Nat.le_of_ble_eq_true rfl, Nat.le_of_ble_eq_true rfl⟩ ⟨by show k + 2 + 0 ≤ 603072; omega, by show n + 12 + 0 ≤ 7223402; omega⟩ (Nat.le_of_ble_eq_true rfl) noX (kkR ?_)
      obtain ⟨g1, g2, g3⟩ := ag_use hIC wrB_lo (M := M) hI2 h1 h2
      rw [← hM1] at g1 g2 g3
      obtain ⟨M2, hM2⟩ : ∃ z, z = putM 455 34 M1 rm.2 := ⟨_, rfl⟩
      rw [← hM2] at g1 g2 g3 ⊢
      rw [← hkz] at g1 g2
      obtain ⟨bz, hbz⟩ : ∃ z, z = rm.1 := ⟨_, rfl⟩
      rw [← hbz] at g2
      show J SHL G room_1 (.inr Q) C (k + 2) (n + 12) 739 [(6, VI kz), (0, VR 491), (1, VR 0), (2, VR 455), (3, VR 489), (4, VR 490), (5, VI i)] [VI rm.1] M2
      refine s_istore X hbz rfl (by omega) dL_law_739 ?_
      show J SHL G room_1 (.inr Q) C (k + 2) (n + 12) 741 [(7, VI bz), (6, VI kz), (0, VR 491), (1, VR 0), (2, VR 455), (3, VR 489), (4, VR 490), (5, VI i)] [] M2
      refine s_load0 X 4 rfl dL_law_741 ?_
      refine s_callVH (As := []) X cw_L_188 SHL_455 rfl dL_law_742 (con_Mr (As := [VR 0]) nrI (L_M_thrown (offG G 455) (offM 455 M2) (offM 455 M2 0 0) rfl)) rfl ⟨Nat.le_of_ble_eq_true rfl, Nat.le_of_ble_eq_true rfl⟩ ⟨by show k + 2 + 0 ≤ 603072; omega, by show n + 12 + 0 ≤ 7223402; omega⟩ (Nat.le_of_ble_eq_true rfl) noX (kkR ?_)
      show J SHL G room_1 (.inr Q) C (k + 2) (n + 12) 745 [(7, VI bz), (6, VI kz), (0, VR 491), (1, VR 0), (2, VR 455), (3, VR 489), (4, VR 490), (5, VI i)] [VI (M2 455 0)] M2
      rw [g1]
      refine s_iload X 1 rfl dL_law_745 ?_
      refine s_icmpeq_t (tgt := 752) X dL_law_747 (by omega) (fun _ => ?_) (fun q => absurd rfl q)
      refine s_iload X 1 rfl dL_law_752 ?_
      refine s_ifne_t (tgt := 776) X dL_law_754 (by omega) (fun _ => ?_) (fun q => ?_)
      · refine s_goto (tgt := 3989) X dL_law_776 (by omega) ?_
        refine s_loc [2, 3, 4, 5, 6, 7] rfl ?_
        exact s_le (by omega) (by omega) (hnx M2 g3)
      · have hk0 : kz = 0 := by omega
        obtain ⟨hok, hat⟩ := g2 hk0
        refine s_load0 X 5 rfl dL_law_757 ?_
        refine s_const X (by unfold InR; omega) dL_law_758 ?_
        refine s_lald X SHL_489 dL_law_759 ?_
        rw [hat 489 0 (by omega), hat 489 1 (by omega), wrB_at]
        refine s_iload X 0 rfl dL_law_760 ?_
        refine s_ifeq_t (tgt := 769) X dL_law_762 (by omega) (fun c1 => ?_) (fun c1 => ?_)
        · refine s_lconst X dL_law_769 ?_
          rw [if_pos c1]
          refine s_lcmp X dL_law_770 ?_
          refine s_ifeq_t (tgt := 776) X dL_law_771 (by omega) (fun _ => ?_) (fun q => absurd ((lcmpI_0 _ _).mpr rfl) q)
          refine s_goto (tgt := 3989) X dL_law_776 (by omega) ?_
          refine s_loc [2, 3, 4, 5, 6, 7] rfl ?_
          exact s_le (by omega) (by omega) (hnx M2 g3)
        · refine s_lconst X dL_law_765 ?_
          refine s_goto (tgt := 770) X dL_law_766 (by omega) ?_
          rw [if_neg c1]
          refine s_lcmp X dL_law_770 ?_
          refine s_ifeq_t (tgt := 776) X dL_law_771 (by omega) (fun _ => ?_) (fun q => absurd ((lcmpI_0 _ _).mpr rfl) q)
          refine s_goto (tgt := 3989) X dL_law_776 (by omega) ?_
          refine s_loc [2, 3, 4, 5, 6, 7] rfl ?_
          exact s_le (by omega) (by omega) (hnx M2 g3)
    refine s_ifeq_t (tgt := 735) X dL_law_728 (by omega) (fun c1 => ?_) (fun c1 => ?_)
    · refine s_const X (by unfold InR; omega) dL_law_735 ?_
      exact kB 0 (if_pos c1).symm
    · refine s_const X (by unfold InR; omega) dL_law_731 ?_
      refine s_goto (tgt := 736) X dL_law_732 (by omega) ?_
      exact kB 1 (if_neg c1).symm
  refine s_ifeq_t (tgt := 702) X dL_law_695 (by omega) (fun c1 => ?_) (fun c1 => ?_)
  · refine s_const X (by unfold InR; omega) dL_law_702 ?_
    exact kB 0 (if_pos c1).symm
  · refine s_const X (by unfold InR; omega) dL_law_698 ?_
    refine s_goto (tgt := 703) X dL_law_699 (by omega) ?_
    exact kB 1 (if_neg c1).symm
set_option maxRecDepth 20000 in
set_option maxHeartbeats 4000000 in
theorem T_runsOn {G : Gl} {C : Ct} {b Ls : Nat} {xs : Nat → Int32} {Q : Ct → State → Prop} {Inv : Mem → Mem → Prop} {k n : Nat} {i : Int} {M : Mem} (LC : LawC G C b Ls xs) (hIC : InvC Inv) (hst : ST_runsOn Inv) (h0 : 0 ≤ i) (h6 : i + 6 ≤ Ls) (hk : k + 100 ≤ 603072) (hn : n + 600 ≤ 7223402) (hI : Inv M (offM 455 M)) (hnx : ∀ M2 : Mem, Inv M2 (offM 455 M2) → J SHL G room_1 (.inr Q) C (k + 100) (n + 600) 3989 (L0 i) [] M2) : J SHL G room_1 (.inr Q) C k n 779 (L0 i) [] M := by
  obtain ⟨X, nc, hsc, hz, hL⟩ := LC
  have hL9 : (Ls : Int) ≤ 3072 := by omega
  refine s_ok (fun _ _ hM => ?_)
  refine s_load0 X 1 rfl dL_law_779 ?_
  refine s_load0 X 0 rfl dL_law_780 ?_
  refine s_iload X 5 rfl dL_law_781 ?_
  refine s_const X (by unfold InR; omega) dL_law_783 ?_
  refine s_iadd X (by unfold InR; omega) dL_law_784 ?_
  refine s_sld X hsc hz (by omega) (by omega) dL_law_785 ?_
  refine s_load0 X 0 rfl dL_law_786 ?_
  refine s_iload X 5 rfl dL_law_787 ?_
  refine s_const X (by unfold InR; omega) dL_law_789 ?_
  refine s_iadd X (by unfold InR; omega) dL_law_790 ?_
  refine s_sld X hsc hz (by omega) (by omega) dL_law_791 ?_
  refine s_load0 X 3 rfl dL_law_792 ?_
  obtain ⟨rc, rm0, e1, -, -, f1, f2⟩ := hst M (offM 455 M) ((xs (i + 1).toNat).toInt) ((xs (i + 2).toNat).toInt) hI hM (okM_off hM 455) (InR_of _) (InR_of _)
  have hH := H_runsOn G ((xs (i + 1).toNat).toInt) ((xs (i + 2).toNat).toInt) M rc e1 (fun x hx => (f2 x hx).1)
  rw [hout_eq] at hH
  refine s_callSW (As := [VR 0, VI ((xs (i + 1).toNat).toInt), VI ((xs (i + 2).toNat).toInt), VR 489]) X nc cwS_L_214 dL_law_793 hH rfl ⟨Nat.le_of_ble_eq_true rfl, Nat.le_of_ble_eq_true rfl⟩ ⟨by show k + 2 ≤ 603072; omega, by show n + 12 ≤ 7223402; omega⟩ (Nat.le_of_ble_eq_true rfl) noX (kkR ?_)
  obtain ⟨M1, hM1⟩ : ∃ z, z = hmem wrB rc M := ⟨_, rfl⟩
  rw [← hM1]
  obtain ⟨kz, hkz⟩ : ∃ z, z = hcode [2, 0] rc := ⟨_, rfl⟩
  show J SHL G room_1 (.inr Q) C (k + 2) (n + 12) 796 [(0, VR 491), (1, VR 0), (2, VR 455), (3, VR 489), (4, VR 490), (5, VI i)] [VI (hcode [2, 0] rc)] M1
  refine s_istore X hkz rfl (by omega) dL_law_796 ?_
  show J SHL G room_1 (.inr Q) C (k + 2) (n + 12) 798 [(6, VI kz), (0, VR 491), (1, VR 0), (2, VR 455), (3, VR 489), (4, VR 490), (5, VI i)] [] M1
  refine s_ok (fun _ _ hMM => ?_)
  have hI1 : Inv M (offM 455 M1) := inv_mid hIC hI (by rw [hM1]; exact (hmem_lo wrB_lo rc M).2)
  refine s_load0 X 3 rfl dL_law_798 ?_
  refine s_load0 X 1 rfl dL_law_799 ?_
  refine s_iload X 6 rfl dL_law_800 ?_
  refine s_const X (by unfold InR; omega) dL_law_802 ?_
  refine s_iadd X (by unfold InR; omega) dL_law_803 ?_
  refine s_sld X hsc hz (by omega) (by omega) dL_law_804 ?_
  refine s_load0 X 1 rfl dL_law_805 ?_
  refine s_iload X 6 rfl dL_law_806 ?_
  refine s_const X (by unfold InR; omega) dL_law_808 ?_
  refine s_iadd X (by unfold InR; omega) dL_law_809 ?_
  refine s_sld X hsc hz (by omega) (by omega) dL_law_810 ?_
  obtain ⟨rc2, rm, e1b, e2, hI2, h1, h2⟩ := hst M (offM 455 M1) ((xs (i + 1).toNat).toInt) ((xs (i + 2).toNat).toInt) hI1 hM (okM_off hMM 455) (InR_of _) (InR_of _)
  cases e1.symm.trans e1b
  refine s_callVH (As := [VI ((xs (i + 1).toNat).toInt), VI ((xs (i + 2).toNat).toInt)]) X cw_L_216 SHL_455 rfl dL_law_811 (con_M (As := [VR 0, VI ((xs (i + 1).toNat).toInt), VI ((xs (i + 2).toNat).toInt)]) nrI (L_M_runsOn (offG G 455) ((xs (i + 1).toNat).toInt) ((xs (i + 2).toNat).toInt) (offM 455 M1) rm e2)) rfl ⟨Nat.le_of_ble_eq_true rfl, Nat.le_of_ble_eq_true rfl⟩ ⟨by show k + 2 + 0 ≤ 603072; omega, by show n + 12 + 0 ≤ 7223402; omega⟩ (Nat.le_of_ble_eq_true rfl) noX (kkR ?_)
  obtain ⟨g1, g2, g3⟩ := ag_use hIC wrB_lo (M := M) hI2 h1 h2
  rw [← hM1] at g1 g2 g3
  obtain ⟨M2, hM2⟩ : ∃ z, z = putM 455 34 M1 rm.2 := ⟨_, rfl⟩
  rw [← hM2] at g1 g2 g3 ⊢
  rw [← hkz] at g1 g2
  obtain ⟨bz, hbz⟩ : ∃ z, z = rm.1 := ⟨_, rfl⟩
  rw [← hbz] at g2
  show J SHL G room_1 (.inr Q) C (k + 2) (n + 12) 814 [(6, VI kz), (0, VR 491), (1, VR 0), (2, VR 455), (3, VR 489), (4, VR 490), (5, VI i)] [VI rm.1] M2
  refine s_istore X hbz rfl (by omega) dL_law_814 ?_
  show J SHL G room_1 (.inr Q) C (k + 2) (n + 12) 816 [(7, VI bz), (6, VI kz), (0, VR 491), (1, VR 0), (2, VR 455), (3, VR 489), (4, VR 490), (5, VI i)] [] M2
  refine s_load0 X 4 rfl dL_law_816 ?_
  refine s_callVH (As := []) X cw_L_188 SHL_455 rfl dL_law_817 (con_Mr (As := [VR 0]) nrI (L_M_thrown (offG G 455) (offM 455 M2) (offM 455 M2 0 0) rfl)) rfl ⟨Nat.le_of_ble_eq_true rfl, Nat.le_of_ble_eq_true rfl⟩ ⟨by show k + 2 + 0 ≤ 603072; omega, by show n + 12 + 0 ≤ 7223402; omega⟩ (Nat.le_of_ble_eq_true rfl) noX (kkR ?_)
  show J SHL G room_1 (.inr Q) C (k + 2) (n + 12) 820 [(7, VI bz), (6, VI kz), (0, VR 491), (1, VR 0), (2, VR 455), (3, VR 489), (4, VR 490), (5, VI i)] [VI (M2 455 0)] M2
  rw [g1]
  refine s_iload X 1 rfl dL_law_820 ?_
  refine s_icmpeq_t (tgt := 827) X dL_law_822 (by omega) (fun _ => ?_) (fun q => absurd rfl q)
  refine s_iload X 1 rfl dL_law_827 ?_
  refine s_ifne_t (tgt := 851) X dL_law_829 (by omega) (fun _ => ?_) (fun q => ?_)
  · refine s_goto (tgt := 3989) X dL_law_851 (by omega) ?_
    refine s_loc [2, 3, 4, 5, 6, 7] rfl ?_
    exact s_le (by omega) (by omega) (hnx M2 g3)
  · have hk0 : kz = 0 := by omega
    obtain ⟨hok, hat⟩ := g2 hk0
    refine s_load0 X 5 rfl dL_law_832 ?_
    refine s_const X (by unfold InR; omega) dL_law_833 ?_
    refine s_lald X SHL_489 dL_law_834 ?_
    rw [hat 489 0 (by omega), hat 489 1 (by omega), wrB_at]
    refine s_iload X 0 rfl dL_law_835 ?_
    refine s_ifeq_t (tgt := 844) X dL_law_837 (by omega) (fun c1 => ?_) (fun c1 => ?_)
    · refine s_lconst X dL_law_844 ?_
      rw [if_pos c1]
      refine s_lcmp X dL_law_845 ?_
      refine s_ifeq_t (tgt := 851) X dL_law_846 (by omega) (fun _ => ?_) (fun q => absurd ((lcmpI_0 _ _).mpr rfl) q)
      refine s_goto (tgt := 3989) X dL_law_851 (by omega) ?_
      refine s_loc [2, 3, 4, 5, 6, 7] rfl ?_
      exact s_le (by omega) (by omega) (hnx M2 g3)
    · refine s_lconst X dL_law_840 ?_
      refine s_goto (tgt := 845) X dL_law_841 (by omega) ?_
      rw [if_neg c1]
      refine s_lcmp X dL_law_845 ?_
      refine s_ifeq_t (tgt := 851) X dL_law_846 (by omega) (fun _ => ?_) (fun q => absurd ((lcmpI_0 _ _).mpr rfl) q)
      refine s_goto (tgt := 3989) X dL_law_851 (by omega) ?_
      refine s_loc [2, 3, 4, 5, 6, 7] rfl ?_
      exact s_le (by omega) (by omega) (hnx M2 g3)
set_option maxRecDepth 20000 in
set_option maxHeartbeats 4000000 in
theorem T_nextDay {G : Gl} {C : Ct} {b Ls : Nat} {xs : Nat → Int32} {Q : Ct → State → Prop} {Inv : Mem → Mem → Prop} {k n : Nat} {i : Int} {M : Mem} (LC : LawC G C b Ls xs) (hIC : InvC Inv) (hst : ST_nextDay Inv) (h0 : 0 ≤ i) (h6 : i + 6 ≤ Ls) (hk : k + 100 ≤ 603072) (hn : n + 600 ≤ 7223402) (hI : Inv M (offM 455 M)) (hnx : ∀ M2 : Mem, Inv M2 (offM 455 M2) → J SHL G room_1 (.inr Q) C (k + 100) (n + 600) 3989 (L0 i) [] M2) : J SHL G room_1 (.inr Q) C k n 854 (L0 i) [] M := by
  obtain ⟨X, nc, hsc, hz, hL⟩ := LC
  have hL9 : (Ls : Int) ≤ 3072 := by omega
  refine s_ok (fun _ _ hM => ?_)
  refine s_load0 X 1 rfl dL_law_854 ?_
  refine s_load0 X 0 rfl dL_law_855 ?_
  refine s_iload X 5 rfl dL_law_856 ?_
  refine s_const X (by unfold InR; omega) dL_law_858 ?_
  refine s_iadd X (by unfold InR; omega) dL_law_859 ?_
  refine s_sld X hsc hz (by omega) (by omega) dL_law_860 ?_
  refine s_load0 X 0 rfl dL_law_861 ?_
  refine s_iload X 5 rfl dL_law_862 ?_
  refine s_const X (by unfold InR; omega) dL_law_864 ?_
  refine s_iadd X (by unfold InR; omega) dL_law_865 ?_
  refine s_sld X hsc hz (by omega) (by omega) dL_law_866 ?_
  refine s_load0 X 3 rfl dL_law_867 ?_
  obtain ⟨rc, rm0, e1, -, -, f1, f2⟩ := hst M (offM 455 M) ((xs (i + 1).toNat).toInt) ((xs (i + 2).toNat).toInt) hI hM (okM_off hM 455) (InR_of _) (InR_of _)
  have hH := H_nextDay G ((xs (i + 1).toNat).toInt) ((xs (i + 2).toNat).toInt) M rc e1 (fun x hx => (f2 x hx).1)
  rw [hout_eq] at hH
  refine s_callSW (As := [VR 0, VI ((xs (i + 1).toNat).toInt), VI ((xs (i + 2).toNat).toInt), VR 489]) X nc cwS_L_217 dL_law_868 hH rfl ⟨Nat.le_of_ble_eq_true rfl, Nat.le_of_ble_eq_true rfl⟩ ⟨by show k + 3 ≤ 603072; omega, by show n + 18 ≤ 7223402; omega⟩ (Nat.le_of_ble_eq_true rfl) noX (kkR ?_)
  obtain ⟨M1, hM1⟩ : ∃ z, z = hmem wrI rc M := ⟨_, rfl⟩
  rw [← hM1]
  obtain ⟨kz, hkz⟩ : ∃ z, z = hcode [2, 0, 5] rc := ⟨_, rfl⟩
  show J SHL G room_1 (.inr Q) C (k + 3) (n + 18) 871 [(0, VR 491), (1, VR 0), (2, VR 455), (3, VR 489), (4, VR 490), (5, VI i)] [VI (hcode [2, 0, 5] rc)] M1
  refine s_istore X hkz rfl (by omega) dL_law_871 ?_
  show J SHL G room_1 (.inr Q) C (k + 3) (n + 18) 873 [(6, VI kz), (0, VR 491), (1, VR 0), (2, VR 455), (3, VR 489), (4, VR 490), (5, VI i)] [] M1
  refine s_ok (fun _ _ hMM => ?_)
  have hI1 : Inv M (offM 455 M1) := inv_mid hIC hI (by rw [hM1]; exact (hmem_lo wrI_lo rc M).2)
  refine s_load0 X 3 rfl dL_law_873 ?_
  refine s_load0 X 1 rfl dL_law_874 ?_
  refine s_iload X 6 rfl dL_law_875 ?_
  refine s_const X (by unfold InR; omega) dL_law_877 ?_
  refine s_iadd X (by unfold InR; omega) dL_law_878 ?_
  refine s_sld X hsc hz (by omega) (by omega) dL_law_879 ?_
  refine s_load0 X 1 rfl dL_law_880 ?_
  refine s_iload X 6 rfl dL_law_881 ?_
  refine s_const X (by unfold InR; omega) dL_law_883 ?_
  refine s_iadd X (by unfold InR; omega) dL_law_884 ?_
  refine s_sld X hsc hz (by omega) (by omega) dL_law_885 ?_
  obtain ⟨rc2, rm, e1b, e2, hI2, h1, h2⟩ := hst M (offM 455 M1) ((xs (i + 1).toNat).toInt) ((xs (i + 2).toNat).toInt) hI1 hM (okM_off hMM 455) (InR_of _) (InR_of _)
  cases e1.symm.trans e1b
  refine s_callVH (As := [VI ((xs (i + 1).toNat).toInt), VI ((xs (i + 2).toNat).toInt)]) X cw_L_219 SHL_455 rfl dL_law_886 (con_M (As := [VR 0, VI ((xs (i + 1).toNat).toInt), VI ((xs (i + 2).toNat).toInt)]) nrI (L_M_nextDay (offG G 455) ((xs (i + 1).toNat).toInt) ((xs (i + 2).toNat).toInt) (offM 455 M1) rm e2)) rfl ⟨Nat.le_of_ble_eq_true rfl, Nat.le_of_ble_eq_true rfl⟩ ⟨by show k + 3 + 0 ≤ 603072; omega, by show n + 18 + 0 ≤ 7223402; omega⟩ (Nat.le_of_ble_eq_true rfl) noX (kkR ?_)
  obtain ⟨g1, g2, g3⟩ := ag_use hIC wrI_lo (M := M) hI2 h1 h2
  rw [← hM1] at g1 g2 g3
  obtain ⟨M2, hM2⟩ : ∃ z, z = putM 455 34 M1 rm.2 := ⟨_, rfl⟩
  rw [← hM2] at g1 g2 g3 ⊢
  rw [← hkz] at g1 g2
  obtain ⟨bz, hbz⟩ : ∃ z, z = rm.1 := ⟨_, rfl⟩
  rw [← hbz] at g2
  show J SHL G room_1 (.inr Q) C (k + 3) (n + 18) 889 [(6, VI kz), (0, VR 491), (1, VR 0), (2, VR 455), (3, VR 489), (4, VR 490), (5, VI i)] [VI rm.1] M2
  refine s_istore X hbz rfl (by omega) dL_law_889 ?_
  show J SHL G room_1 (.inr Q) C (k + 3) (n + 18) 891 [(7, VI bz), (6, VI kz), (0, VR 491), (1, VR 0), (2, VR 455), (3, VR 489), (4, VR 490), (5, VI i)] [] M2
  refine s_load0 X 4 rfl dL_law_891 ?_
  refine s_callVH (As := []) X cw_L_188 SHL_455 rfl dL_law_892 (con_Mr (As := [VR 0]) nrI (L_M_thrown (offG G 455) (offM 455 M2) (offM 455 M2 0 0) rfl)) rfl ⟨Nat.le_of_ble_eq_true rfl, Nat.le_of_ble_eq_true rfl⟩ ⟨by show k + 3 + 0 ≤ 603072; omega, by show n + 18 + 0 ≤ 7223402; omega⟩ (Nat.le_of_ble_eq_true rfl) noX (kkR ?_)
  show J SHL G room_1 (.inr Q) C (k + 3) (n + 18) 895 [(7, VI bz), (6, VI kz), (0, VR 491), (1, VR 0), (2, VR 455), (3, VR 489), (4, VR 490), (5, VI i)] [VI (M2 455 0)] M2
  rw [g1]
  refine s_iload X 1 rfl dL_law_895 ?_
  refine s_icmpeq_t (tgt := 902) X dL_law_897 (by omega) (fun _ => ?_) (fun q => absurd rfl q)
  refine s_iload X 1 rfl dL_law_902 ?_
  refine s_ifne_t (tgt := 919) X dL_law_904 (by omega) (fun _ => ?_) (fun q => ?_)
  · refine s_goto (tgt := 3989) X dL_law_919 (by omega) ?_
    refine s_loc [2, 3, 4, 5, 6, 7] rfl ?_
    exact s_le (by omega) (by omega) (hnx M2 g3)
  · have hk0 : kz = 0 := by omega
    obtain ⟨hok, hat⟩ := g2 hk0
    refine s_load0 X 5 rfl dL_law_907 ?_
    refine s_const X (by unfold InR; omega) dL_law_908 ?_
    refine s_lald X SHL_489 dL_law_909 ?_
    rw [hat 489 0 (by omega), hat 489 1 (by omega), wrI_at]
    refine s_iload X 0 rfl dL_law_910 ?_
    refine s_i2l X dL_law_912 ?_
    refine s_lcmp X dL_law_913 ?_
    refine s_ifeq_t (tgt := 919) X dL_law_914 (by omega) (fun _ => ?_) (fun q => absurd ((lcmpI_0 _ _).mpr rfl) q)
    refine s_goto (tgt := 3989) X dL_law_919 (by omega) ?_
    refine s_loc [2, 3, 4, 5, 6, 7] rfl ?_
    exact s_le (by omega) (by omega) (hnx M2 g3)
set_option maxRecDepth 20000 in
set_option maxHeartbeats 4000000 in
theorem T_trip {G : Gl} {C : Ct} {b Ls : Nat} {xs : Nat → Int32} {Q : Ct → State → Prop} {Inv : Mem → Mem → Prop} {k n : Nat} {i : Int} {M : Mem} (LC : LawC G C b Ls xs) (hIC : InvC Inv) (hst : ST_trip Inv) (h0 : 0 ≤ i) (h6 : i + 6 ≤ Ls) (hk : k + 100 ≤ 603072) (hn : n + 600 ≤ 7223402) (hI : Inv M (offM 455 M)) (hnx : ∀ M2 : Mem, Inv M2 (offM 455 M2) → J SHL G room_1 (.inr Q) C (k + 100) (n + 600) 3989 (L0 i) [] M2) : J SHL G room_1 (.inr Q) C k n 922 (L0 i) [] M := by
  obtain ⟨X, nc, hsc, hz, hL⟩ := LC
  have hL9 : (Ls : Int) ≤ 3072 := by omega
  refine s_ok (fun _ _ hM => ?_)
  refine s_load0 X 1 rfl dL_law_922 ?_
  refine s_load0 X 0 rfl dL_law_923 ?_
  refine s_iload X 5 rfl dL_law_924 ?_
  refine s_const X (by unfold InR; omega) dL_law_926 ?_
  refine s_iadd X (by unfold InR; omega) dL_law_927 ?_
  refine s_sld X hsc hz (by omega) (by omega) dL_law_928 ?_
  refine s_load0 X 0 rfl dL_law_929 ?_
  refine s_iload X 5 rfl dL_law_930 ?_
  refine s_const X (by unfold InR; omega) dL_law_932 ?_
  refine s_iadd X (by unfold InR; omega) dL_law_933 ?_
  refine s_sld X hsc hz (by omega) (by omega) dL_law_934 ?_
  refine s_load0 X 0 rfl dL_law_935 ?_
  refine s_iload X 5 rfl dL_law_936 ?_
  refine s_const X (by unfold InR; omega) dL_law_938 ?_
  refine s_iadd X (by unfold InR; omega) dL_law_939 ?_
  refine s_sld X hsc hz (by omega) (by omega) dL_law_940 ?_
  refine s_load0 X 3 rfl dL_law_941 ?_
  obtain ⟨rc, rm0, e1, -, -, f1, f2⟩ := hst M (offM 455 M) ((xs (i + 1).toNat).toInt) ((xs (i + 2).toNat).toInt) ((xs (i + 3).toNat).toInt) hI hM (okM_off hM 455) (InR_of _) (InR_of _) (InR_of _)
  have hH := H_trip G ((xs (i + 1).toNat).toInt) ((xs (i + 2).toNat).toInt) ((xs (i + 3).toNat).toInt) M rc e1 (fun x hx => (f2 x hx).1)
  rw [hout_eq] at hH
  refine s_callSW (As := [VR 0, VI ((xs (i + 1).toNat).toInt), VI ((xs (i + 2).toNat).toInt), VI ((xs (i + 3).toNat).toInt), VR 489]) X nc cwS_L_220 dL_law_942 hH rfl ⟨Nat.le_of_ble_eq_true rfl, Nat.le_of_ble_eq_true rfl⟩ ⟨by show k + 4 ≤ 603072; omega, by show n + 24 ≤ 7223402; omega⟩ (Nat.le_of_ble_eq_true rfl) noX (kkR ?_)
  obtain ⟨M1, hM1⟩ : ∃ z, z = hmem wrI rc M := ⟨_, rfl⟩
  rw [← hM1]
  obtain ⟨kz, hkz⟩ : ∃ z, z = hcode [2, 0, 1] rc := ⟨_, rfl⟩
  show J SHL G room_1 (.inr Q) C (k + 4) (n + 24) 945 [(0, VR 491), (1, VR 0), (2, VR 455), (3, VR 489), (4, VR 490), (5, VI i)] [VI (hcode [2, 0, 1] rc)] M1
  refine s_istore X hkz rfl (by omega) dL_law_945 ?_
  show J SHL G room_1 (.inr Q) C (k + 4) (n + 24) 947 [(6, VI kz), (0, VR 491), (1, VR 0), (2, VR 455), (3, VR 489), (4, VR 490), (5, VI i)] [] M1
  refine s_ok (fun _ _ hMM => ?_)
  have hI1 : Inv M (offM 455 M1) := inv_mid hIC hI (by rw [hM1]; exact (hmem_lo wrI_lo rc M).2)
  refine s_load0 X 3 rfl dL_law_947 ?_
  refine s_load0 X 1 rfl dL_law_948 ?_
  refine s_iload X 6 rfl dL_law_949 ?_
  refine s_const X (by unfold InR; omega) dL_law_951 ?_
  refine s_iadd X (by unfold InR; omega) dL_law_952 ?_
  refine s_sld X hsc hz (by omega) (by omega) dL_law_953 ?_
  refine s_load0 X 1 rfl dL_law_954 ?_
  refine s_iload X 6 rfl dL_law_955 ?_
  refine s_const X (by unfold InR; omega) dL_law_957 ?_
  refine s_iadd X (by unfold InR; omega) dL_law_958 ?_
  refine s_sld X hsc hz (by omega) (by omega) dL_law_959 ?_
  refine s_load0 X 1 rfl dL_law_960 ?_
  refine s_iload X 6 rfl dL_law_961 ?_
  refine s_const X (by unfold InR; omega) dL_law_963 ?_
  refine s_iadd X (by unfold InR; omega) dL_law_964 ?_
  refine s_sld X hsc hz (by omega) (by omega) dL_law_965 ?_
  obtain ⟨rc2, rm, e1b, e2, hI2, h1, h2⟩ := hst M (offM 455 M1) ((xs (i + 1).toNat).toInt) ((xs (i + 2).toNat).toInt) ((xs (i + 3).toNat).toInt) hI1 hM (okM_off hMM 455) (InR_of _) (InR_of _) (InR_of _)
  cases e1.symm.trans e1b
  refine s_callVH (As := [VI ((xs (i + 1).toNat).toInt), VI ((xs (i + 2).toNat).toInt), VI ((xs (i + 3).toNat).toInt)]) X cw_L_222 SHL_455 rfl dL_law_966 (con_M (As := [VR 0, VI ((xs (i + 1).toNat).toInt), VI ((xs (i + 2).toNat).toInt), VI ((xs (i + 3).toNat).toInt)]) nrI (L_M_trip (offG G 455) ((xs (i + 1).toNat).toInt) ((xs (i + 2).toNat).toInt) ((xs (i + 3).toNat).toInt) (offM 455 M1) rm e2)) rfl ⟨Nat.le_of_ble_eq_true rfl, Nat.le_of_ble_eq_true rfl⟩ ⟨by show k + 4 + 0 ≤ 603072; omega, by show n + 24 + 0 ≤ 7223402; omega⟩ (Nat.le_of_ble_eq_true rfl) noX (kkR ?_)
  obtain ⟨g1, g2, g3⟩ := ag_use hIC wrI_lo (M := M) hI2 h1 h2
  rw [← hM1] at g1 g2 g3
  obtain ⟨M2, hM2⟩ : ∃ z, z = putM 455 34 M1 rm.2 := ⟨_, rfl⟩
  rw [← hM2] at g1 g2 g3 ⊢
  rw [← hkz] at g1 g2
  obtain ⟨bz, hbz⟩ : ∃ z, z = rm.1 := ⟨_, rfl⟩
  rw [← hbz] at g2
  show J SHL G room_1 (.inr Q) C (k + 4) (n + 24) 969 [(6, VI kz), (0, VR 491), (1, VR 0), (2, VR 455), (3, VR 489), (4, VR 490), (5, VI i)] [VI rm.1] M2
  refine s_istore X hbz rfl (by omega) dL_law_969 ?_
  show J SHL G room_1 (.inr Q) C (k + 4) (n + 24) 971 [(7, VI bz), (6, VI kz), (0, VR 491), (1, VR 0), (2, VR 455), (3, VR 489), (4, VR 490), (5, VI i)] [] M2
  refine s_load0 X 4 rfl dL_law_971 ?_
  refine s_callVH (As := []) X cw_L_188 SHL_455 rfl dL_law_972 (con_Mr (As := [VR 0]) nrI (L_M_thrown (offG G 455) (offM 455 M2) (offM 455 M2 0 0) rfl)) rfl ⟨Nat.le_of_ble_eq_true rfl, Nat.le_of_ble_eq_true rfl⟩ ⟨by show k + 4 + 0 ≤ 603072; omega, by show n + 24 + 0 ≤ 7223402; omega⟩ (Nat.le_of_ble_eq_true rfl) noX (kkR ?_)
  show J SHL G room_1 (.inr Q) C (k + 4) (n + 24) 975 [(7, VI bz), (6, VI kz), (0, VR 491), (1, VR 0), (2, VR 455), (3, VR 489), (4, VR 490), (5, VI i)] [VI (M2 455 0)] M2
  rw [g1]
  refine s_iload X 1 rfl dL_law_975 ?_
  refine s_icmpeq_t (tgt := 982) X dL_law_977 (by omega) (fun _ => ?_) (fun q => absurd rfl q)
  refine s_iload X 1 rfl dL_law_982 ?_
  refine s_ifne_t (tgt := 999) X dL_law_984 (by omega) (fun _ => ?_) (fun q => ?_)
  · refine s_goto (tgt := 3989) X dL_law_999 (by omega) ?_
    refine s_loc [2, 3, 4, 5, 6, 7] rfl ?_
    exact s_le (by omega) (by omega) (hnx M2 g3)
  · have hk0 : kz = 0 := by omega
    obtain ⟨hok, hat⟩ := g2 hk0
    refine s_load0 X 5 rfl dL_law_987 ?_
    refine s_const X (by unfold InR; omega) dL_law_988 ?_
    refine s_lald X SHL_489 dL_law_989 ?_
    rw [hat 489 0 (by omega), hat 489 1 (by omega), wrI_at]
    refine s_iload X 0 rfl dL_law_990 ?_
    refine s_i2l X dL_law_992 ?_
    refine s_lcmp X dL_law_993 ?_
    refine s_ifeq_t (tgt := 999) X dL_law_994 (by omega) (fun _ => ?_) (fun q => absurd ((lcmpI_0 _ _).mpr rfl) q)
    refine s_goto (tgt := 3989) X dL_law_999 (by omega) ?_
    refine s_loc [2, 3, 4, 5, 6, 7] rfl ?_
    exact s_le (by omega) (by omega) (hnx M2 g3)
set_option maxRecDepth 20000 in
set_option maxHeartbeats 4000000 in
theorem T_call {G : Gl} {C : Ct} {b Ls : Nat} {xs : Nat → Int32} {Q : Ct → State → Prop} {Inv : Mem → Mem → Prop} {k n : Nat} {i : Int} {M : Mem} (LC : LawC G C b Ls xs) (hIC : InvC Inv) (hst : ST_call Inv) (h0 : 0 ≤ i) (h6 : i + 6 ≤ Ls) (hk : k + 100 ≤ 603072) (hn : n + 600 ≤ 7223402) (hI : Inv M (offM 455 M)) (hnx : ∀ M2 : Mem, Inv M2 (offM 455 M2) → J SHL G room_1 (.inr Q) C (k + 100) (n + 600) 3989 (L0 i) [] M2) : J SHL G room_1 (.inr Q) C k n 1002 (L0 i) [] M := by
  obtain ⟨X, nc, hsc, hz, hL⟩ := LC
  have hL9 : (Ls : Int) ≤ 3072 := by omega
  refine s_ok (fun _ _ hM => ?_)
  refine s_load0 X 1 rfl dL_law_1002 ?_
  refine s_load0 X 0 rfl dL_law_1003 ?_
  refine s_iload X 5 rfl dL_law_1004 ?_
  refine s_const X (by unfold InR; omega) dL_law_1006 ?_
  refine s_iadd X (by unfold InR; omega) dL_law_1007 ?_
  refine s_sld X hsc hz (by omega) (by omega) dL_law_1008 ?_
  refine s_load0 X 0 rfl dL_law_1009 ?_
  refine s_iload X 5 rfl dL_law_1010 ?_
  refine s_const X (by unfold InR; omega) dL_law_1012 ?_
  refine s_iadd X (by unfold InR; omega) dL_law_1013 ?_
  refine s_sld X hsc hz (by omega) (by omega) dL_law_1014 ?_
  refine s_load0 X 0 rfl dL_law_1015 ?_
  refine s_iload X 5 rfl dL_law_1016 ?_
  refine s_const X (by unfold InR; omega) dL_law_1018 ?_
  refine s_iadd X (by unfold InR; omega) dL_law_1019 ?_
  refine s_sld X hsc hz (by omega) (by omega) dL_law_1020 ?_
  refine s_load0 X 0 rfl dL_law_1021 ?_
  refine s_iload X 5 rfl dL_law_1022 ?_
  refine s_const X (by unfold InR; omega) dL_law_1024 ?_
  refine s_iadd X (by unfold InR; omega) dL_law_1025 ?_
  refine s_sld X hsc hz (by omega) (by omega) dL_law_1026 ?_
  refine s_load0 X 3 rfl dL_law_1027 ?_
  obtain ⟨rc, rm0, e1, -, -, f1, f2⟩ := hst M (offM 455 M) ((xs (i + 1).toNat).toInt) ((xs (i + 2).toNat).toInt) ((xs (i + 3).toNat).toInt) ((xs (i + 4).toNat).toInt) hI hM (okM_off hM 455) (InR_of _) (InR_of _) (InR_of _) (InR_of _)
  have hH := H_call G ((xs (i + 1).toNat).toInt) ((xs (i + 2).toNat).toInt) ((xs (i + 3).toNat).toInt) ((xs (i + 4).toNat).toInt) M rc e1 (fun x hx => (f2 x hx).1)
  rw [hout_eq] at hH
  refine s_callSW (As := [VR 0, VI ((xs (i + 1).toNat).toInt), VI ((xs (i + 2).toNat).toInt), VI ((xs (i + 3).toNat).toInt), VI ((xs (i + 4).toNat).toInt), VR 489]) X nc cwS_L_223 dL_law_1028 hH rfl ⟨Nat.le_of_ble_eq_true rfl, Nat.le_of_ble_eq_true rfl⟩ ⟨by show k + 5 ≤ 603072; omega, by show n + 30 ≤ 7223402; omega⟩ (Nat.le_of_ble_eq_true rfl) noX (kkR ?_)
  obtain ⟨M1, hM1⟩ : ∃ z, z = hmem wrI rc M := ⟨_, rfl⟩
  rw [← hM1]
  obtain ⟨kz, hkz⟩ : ∃ z, z = hcode [2, 0, 1] rc := ⟨_, rfl⟩
  show J SHL G room_1 (.inr Q) C (k + 5) (n + 30) 1031 [(0, VR 491), (1, VR 0), (2, VR 455), (3, VR 489), (4, VR 490), (5, VI i)] [VI (hcode [2, 0, 1] rc)] M1
  refine s_istore X hkz rfl (by omega) dL_law_1031 ?_
  show J SHL G room_1 (.inr Q) C (k + 5) (n + 30) 1033 [(6, VI kz), (0, VR 491), (1, VR 0), (2, VR 455), (3, VR 489), (4, VR 490), (5, VI i)] [] M1
  refine s_ok (fun _ _ hMM => ?_)
  have hI1 : Inv M (offM 455 M1) := inv_mid hIC hI (by rw [hM1]; exact (hmem_lo wrI_lo rc M).2)
  refine s_load0 X 3 rfl dL_law_1033 ?_
  refine s_load0 X 1 rfl dL_law_1034 ?_
  refine s_iload X 6 rfl dL_law_1035 ?_
  refine s_const X (by unfold InR; omega) dL_law_1037 ?_
  refine s_iadd X (by unfold InR; omega) dL_law_1038 ?_
  refine s_sld X hsc hz (by omega) (by omega) dL_law_1039 ?_
  refine s_load0 X 1 rfl dL_law_1040 ?_
  refine s_iload X 6 rfl dL_law_1041 ?_
  refine s_const X (by unfold InR; omega) dL_law_1043 ?_
  refine s_iadd X (by unfold InR; omega) dL_law_1044 ?_
  refine s_sld X hsc hz (by omega) (by omega) dL_law_1045 ?_
  refine s_load0 X 1 rfl dL_law_1046 ?_
  refine s_iload X 6 rfl dL_law_1047 ?_
  refine s_const X (by unfold InR; omega) dL_law_1049 ?_
  refine s_iadd X (by unfold InR; omega) dL_law_1050 ?_
  refine s_sld X hsc hz (by omega) (by omega) dL_law_1051 ?_
  refine s_load0 X 1 rfl dL_law_1052 ?_
  refine s_iload X 6 rfl dL_law_1053 ?_
  refine s_const X (by unfold InR; omega) dL_law_1055 ?_
  refine s_iadd X (by unfold InR; omega) dL_law_1056 ?_
  refine s_sld X hsc hz (by omega) (by omega) dL_law_1057 ?_
  obtain ⟨rc2, rm, e1b, e2, hI2, h1, h2⟩ := hst M (offM 455 M1) ((xs (i + 1).toNat).toInt) ((xs (i + 2).toNat).toInt) ((xs (i + 3).toNat).toInt) ((xs (i + 4).toNat).toInt) hI1 hM (okM_off hMM 455) (InR_of _) (InR_of _) (InR_of _) (InR_of _)
  cases e1.symm.trans e1b
  refine s_callVH (As := [VI ((xs (i + 1).toNat).toInt), VI ((xs (i + 2).toNat).toInt), VI ((xs (i + 3).toNat).toInt), VI ((xs (i + 4).toNat).toInt)]) X cw_L_225 SHL_455 rfl dL_law_1058 (con_M (As := [VR 0, VI ((xs (i + 1).toNat).toInt), VI ((xs (i + 2).toNat).toInt), VI ((xs (i + 3).toNat).toInt), VI ((xs (i + 4).toNat).toInt)]) nrI (L_M_call (offG G 455) ((xs (i + 1).toNat).toInt) ((xs (i + 2).toNat).toInt) ((xs (i + 3).toNat).toInt) ((xs (i + 4).toNat).toInt) (offM 455 M1) rm e2)) rfl ⟨Nat.le_of_ble_eq_true rfl, Nat.le_of_ble_eq_true rfl⟩ ⟨by show k + 5 + 0 ≤ 603072; omega, by show n + 30 + 0 ≤ 7223402; omega⟩ (Nat.le_of_ble_eq_true rfl) noX (kkR ?_)
  obtain ⟨g1, g2, g3⟩ := ag_use hIC wrI_lo (M := M) hI2 h1 h2
  rw [← hM1] at g1 g2 g3
  obtain ⟨M2, hM2⟩ : ∃ z, z = putM 455 34 M1 rm.2 := ⟨_, rfl⟩
  rw [← hM2] at g1 g2 g3 ⊢
  rw [← hkz] at g1 g2
  obtain ⟨bz, hbz⟩ : ∃ z, z = rm.1 := ⟨_, rfl⟩
  rw [← hbz] at g2
  show J SHL G room_1 (.inr Q) C (k + 5) (n + 30) 1061 [(6, VI kz), (0, VR 491), (1, VR 0), (2, VR 455), (3, VR 489), (4, VR 490), (5, VI i)] [VI rm.1] M2
  refine s_istore X hbz rfl (by omega) dL_law_1061 ?_
  show J SHL G room_1 (.inr Q) C (k + 5) (n + 30) 1063 [(7, VI bz), (6, VI kz), (0, VR 491), (1, VR 0), (2, VR 455), (3, VR 489), (4, VR 490), (5, VI i)] [] M2
  refine s_load0 X 4 rfl dL_law_1063 ?_
  refine s_callVH (As := []) X cw_L_188 SHL_455 rfl dL_law_1064 (con_Mr (As := [VR 0]) nrI (L_M_thrown (offG G 455) (offM 455 M2) (offM 455 M2 0 0) rfl)) rfl ⟨Nat.le_of_ble_eq_true rfl, Nat.le_of_ble_eq_true rfl⟩ ⟨by show k + 5 + 0 ≤ 603072; omega, by show n + 30 + 0 ≤ 7223402; omega⟩ (Nat.le_of_ble_eq_true rfl) noX (kkR ?_)
  show J SHL G room_1 (.inr Q) C (k + 5) (n + 30) 1067 [(7, VI bz), (6, VI kz), (0, VR 491), (1, VR 0), (2, VR 455), (3, VR 489), (4, VR 490), (5, VI i)] [VI (M2 455 0)] M2
  rw [g1]
  refine s_iload X 1 rfl dL_law_1067 ?_
  refine s_icmpeq_t (tgt := 1074) X dL_law_1069 (by omega) (fun _ => ?_) (fun q => absurd rfl q)
  refine s_iload X 1 rfl dL_law_1074 ?_
  refine s_ifne_t (tgt := 1091) X dL_law_1076 (by omega) (fun _ => ?_) (fun q => ?_)
  · refine s_goto (tgt := 3989) X dL_law_1091 (by omega) ?_
    refine s_loc [2, 3, 4, 5, 6, 7] rfl ?_
    exact s_le (by omega) (by omega) (hnx M2 g3)
  · have hk0 : kz = 0 := by omega
    obtain ⟨hok, hat⟩ := g2 hk0
    refine s_load0 X 5 rfl dL_law_1079 ?_
    refine s_const X (by unfold InR; omega) dL_law_1080 ?_
    refine s_lald X SHL_489 dL_law_1081 ?_
    rw [hat 489 0 (by omega), hat 489 1 (by omega), wrI_at]
    refine s_iload X 0 rfl dL_law_1082 ?_
    refine s_i2l X dL_law_1084 ?_
    refine s_lcmp X dL_law_1085 ?_
    refine s_ifeq_t (tgt := 1091) X dL_law_1086 (by omega) (fun _ => ?_) (fun q => absurd ((lcmpI_0 _ _).mpr rfl) q)
    refine s_goto (tgt := 3989) X dL_law_1091 (by omega) ?_
    refine s_loc [2, 3, 4, 5, 6, 7] rfl ?_
    exact s_le (by omega) (by omega) (hnx M2 g3)
set_option maxRecDepth 20000 in
set_option maxHeartbeats 4000000 in
theorem T_trips {G : Gl} {C : Ct} {b Ls : Nat} {xs : Nat → Int32} {Q : Ct → State → Prop} {Inv : Mem → Mem → Prop} {k n : Nat} {i : Int} {M : Mem} (LC : LawC G C b Ls xs) (hIC : InvC Inv) (hst : ST_trips Inv) (h0 : 0 ≤ i) (h6 : i + 6 ≤ Ls) (hk : k + 100 ≤ 603072) (hn : n + 600 ≤ 7223402) (hI : Inv M (offM 455 M)) (hnx : ∀ M2 : Mem, Inv M2 (offM 455 M2) → J SHL G room_1 (.inr Q) C (k + 100) (n + 600) 3989 (L0 i) [] M2) : J SHL G room_1 (.inr Q) C k n 1094 (L0 i) [] M := by
  obtain ⟨X, nc, hsc, hz, hL⟩ := LC
  have hL9 : (Ls : Int) ≤ 3072 := by omega
  refine s_ok (fun _ _ hM => ?_)
  refine s_load0 X 1 rfl dL_law_1094 ?_
  obtain ⟨rc, rm, e1, e2, hI2, h1⟩ := hst M (offM 455 M) hI hM (okM_off hM 455)
  refine s_callVH (As := []) X cw_L_226 SHL_0 rfl dL_law_1095 (con_Cr (L_C_trips G M rc e1)) rfl ⟨Nat.le_of_ble_eq_true rfl, Nat.le_of_ble_eq_true rfl⟩ ⟨by show k + 0 ≤ 603072; omega, by show n + 0 ≤ 7223402; omega⟩ (Nat.le_of_ble_eq_true rfl) noX (kkR ?_)
  refine s_load0 X 2 rfl dL_law_1098 ?_
  refine s_callVH (As := []) X cw_L_229 SHL_455 rfl dL_law_1099 (con_M (As := [VR 0]) nrI (L_M_trips (offG G 455) (offM 455 M) rm e2)) rfl ⟨Nat.le_of_ble_eq_true rfl, Nat.le_of_ble_eq_true rfl⟩ ⟨by show k + 0 + 0 ≤ 603072; omega, by show n + 0 + 0 ≤ 7223402; omega⟩ (Nat.le_of_ble_eq_true rfl) noX (kkR ?_)
  have g3 := inv_put hIC (M1 := M) hI2 (fun _ _ _ => rfl)
  show J SHL G room_1 (.inr Q) C (k + 0) (n + 0) 1102 [(0, VR 491), (1, VR 0), (2, VR 455), (3, VR 489), (4, VR 490), (5, VI i)] [VI rm.1, VI rc] (putM 455 34 M rm.2)
  rw [h1]
  refine s_icmpeq_t (tgt := 3989) X dL_law_1102 (by omega) (fun _ => ?_) (fun q => absurd rfl q)
  exact s_le (by omega) (by omega) (hnx _ g3)
set_option maxRecDepth 20000 in
set_option maxHeartbeats 4000000 in
theorem T_calls {G : Gl} {C : Ct} {b Ls : Nat} {xs : Nat → Int32} {Q : Ct → State → Prop} {Inv : Mem → Mem → Prop} {k n : Nat} {i : Int} {M : Mem} (LC : LawC G C b Ls xs) (hIC : InvC Inv) (hst : ST_calls Inv) (h0 : 0 ≤ i) (h6 : i + 6 ≤ Ls) (hk : k + 100 ≤ 603072) (hn : n + 600 ≤ 7223402) (hI : Inv M (offM 455 M)) (hnx : ∀ M2 : Mem, Inv M2 (offM 455 M2) → J SHL G room_1 (.inr Q) C (k + 100) (n + 600) 3989 (L0 i) [] M2) : J SHL G room_1 (.inr Q) C k n 1107 (L0 i) [] M := by
  obtain ⟨X, nc, hsc, hz, hL⟩ := LC
  have hL9 : (Ls : Int) ≤ 3072 := by omega
  refine s_ok (fun _ _ hM => ?_)
  refine s_load0 X 1 rfl dL_law_1107 ?_
  refine s_load0 X 0 rfl dL_law_1108 ?_
  refine s_iload X 5 rfl dL_law_1109 ?_
  refine s_const X (by unfold InR; omega) dL_law_1111 ?_
  refine s_iadd X (by unfold InR; omega) dL_law_1112 ?_
  refine s_sld X hsc hz (by omega) (by omega) dL_law_1113 ?_
  refine s_load0 X 3 rfl dL_law_1114 ?_
  obtain ⟨rc, rm0, e1, -, -, f1, f2⟩ := hst M (offM 455 M) ((xs (i + 1).toNat).toInt) hI hM (okM_off hM 455) (InR_of _)
  have hH := H_calls G ((xs (i + 1).toNat).toInt) M rc e1 (fun x hx => (f2 x hx).1)
  rw [hout_eq] at hH
  refine s_callSW (As := [VR 0, VI ((xs (i + 1).toNat).toInt), VR 489]) X nc cwS_L_230 dL_law_1115 hH rfl ⟨Nat.le_of_ble_eq_true rfl, Nat.le_of_ble_eq_true rfl⟩ ⟨by show k + 1 ≤ 603072; omega, by show n + 6 ≤ 7223402; omega⟩ (Nat.le_of_ble_eq_true rfl) noX (kkR ?_)
  obtain ⟨M1, hM1⟩ : ∃ z, z = hmem wrI rc M := ⟨_, rfl⟩
  rw [← hM1]
  obtain ⟨kz, hkz⟩ : ∃ z, z = hcode [2] rc := ⟨_, rfl⟩
  show J SHL G room_1 (.inr Q) C (k + 1) (n + 6) 1118 [(0, VR 491), (1, VR 0), (2, VR 455), (3, VR 489), (4, VR 490), (5, VI i)] [VI (hcode [2] rc)] M1
  refine s_istore X hkz rfl (by omega) dL_law_1118 ?_
  show J SHL G room_1 (.inr Q) C (k + 1) (n + 6) 1120 [(6, VI kz), (0, VR 491), (1, VR 0), (2, VR 455), (3, VR 489), (4, VR 490), (5, VI i)] [] M1
  refine s_ok (fun _ _ hMM => ?_)
  have hI1 : Inv M (offM 455 M1) := inv_mid hIC hI (by rw [hM1]; exact (hmem_lo wrI_lo rc M).2)
  refine s_load0 X 3 rfl dL_law_1120 ?_
  refine s_load0 X 1 rfl dL_law_1121 ?_
  refine s_iload X 6 rfl dL_law_1122 ?_
  refine s_const X (by unfold InR; omega) dL_law_1124 ?_
  refine s_iadd X (by unfold InR; omega) dL_law_1125 ?_
  refine s_sld X hsc hz (by omega) (by omega) dL_law_1126 ?_
  obtain ⟨rc2, rm, e1b, e2, hI2, h1, h2⟩ := hst M (offM 455 M1) ((xs (i + 1).toNat).toInt) hI1 hM (okM_off hMM 455) (InR_of _)
  cases e1.symm.trans e1b
  refine s_callVH (As := [VI ((xs (i + 1).toNat).toInt)]) X cw_L_232 SHL_455 rfl dL_law_1127 (con_M (As := [VR 0, VI ((xs (i + 1).toNat).toInt)]) nrI (L_M_calls (offG G 455) ((xs (i + 1).toNat).toInt) (offM 455 M1) rm e2)) rfl ⟨Nat.le_of_ble_eq_true rfl, Nat.le_of_ble_eq_true rfl⟩ ⟨by show k + 1 + 0 ≤ 603072; omega, by show n + 6 + 0 ≤ 7223402; omega⟩ (Nat.le_of_ble_eq_true rfl) noX (kkR ?_)
  obtain ⟨g1, g2, g3⟩ := ag_use hIC wrI_lo (M := M) hI2 h1 h2
  rw [← hM1] at g1 g2 g3
  obtain ⟨M2, hM2⟩ : ∃ z, z = putM 455 34 M1 rm.2 := ⟨_, rfl⟩
  rw [← hM2] at g1 g2 g3 ⊢
  rw [← hkz] at g1 g2
  obtain ⟨bz, hbz⟩ : ∃ z, z = rm.1 := ⟨_, rfl⟩
  rw [← hbz] at g2
  show J SHL G room_1 (.inr Q) C (k + 1) (n + 6) 1130 [(6, VI kz), (0, VR 491), (1, VR 0), (2, VR 455), (3, VR 489), (4, VR 490), (5, VI i)] [VI rm.1] M2
  refine s_istore X hbz rfl (by omega) dL_law_1130 ?_
  show J SHL G room_1 (.inr Q) C (k + 1) (n + 6) 1132 [(7, VI bz), (6, VI kz), (0, VR 491), (1, VR 0), (2, VR 455), (3, VR 489), (4, VR 490), (5, VI i)] [] M2
  refine s_load0 X 4 rfl dL_law_1132 ?_
  refine s_callVH (As := []) X cw_L_188 SHL_455 rfl dL_law_1133 (con_Mr (As := [VR 0]) nrI (L_M_thrown (offG G 455) (offM 455 M2) (offM 455 M2 0 0) rfl)) rfl ⟨Nat.le_of_ble_eq_true rfl, Nat.le_of_ble_eq_true rfl⟩ ⟨by show k + 1 + 0 ≤ 603072; omega, by show n + 6 + 0 ≤ 7223402; omega⟩ (Nat.le_of_ble_eq_true rfl) noX (kkR ?_)
  show J SHL G room_1 (.inr Q) C (k + 1) (n + 6) 1136 [(7, VI bz), (6, VI kz), (0, VR 491), (1, VR 0), (2, VR 455), (3, VR 489), (4, VR 490), (5, VI i)] [VI (M2 455 0)] M2
  rw [g1]
  refine s_iload X 1 rfl dL_law_1136 ?_
  refine s_icmpeq_t (tgt := 1143) X dL_law_1138 (by omega) (fun _ => ?_) (fun q => absurd rfl q)
  refine s_iload X 1 rfl dL_law_1143 ?_
  refine s_ifne_t (tgt := 1160) X dL_law_1145 (by omega) (fun _ => ?_) (fun q => ?_)
  · refine s_goto (tgt := 3989) X dL_law_1160 (by omega) ?_
    refine s_loc [2, 3, 4, 5, 6, 7] rfl ?_
    exact s_le (by omega) (by omega) (hnx M2 g3)
  · have hk0 : kz = 0 := by omega
    obtain ⟨hok, hat⟩ := g2 hk0
    refine s_load0 X 5 rfl dL_law_1148 ?_
    refine s_const X (by unfold InR; omega) dL_law_1149 ?_
    refine s_lald X SHL_489 dL_law_1150 ?_
    rw [hat 489 0 (by omega), hat 489 1 (by omega), wrI_at]
    refine s_iload X 0 rfl dL_law_1151 ?_
    refine s_i2l X dL_law_1153 ?_
    refine s_lcmp X dL_law_1154 ?_
    refine s_ifeq_t (tgt := 1160) X dL_law_1155 (by omega) (fun _ => ?_) (fun q => absurd ((lcmpI_0 _ _).mpr rfl) q)
    refine s_goto (tgt := 3989) X dL_law_1160 (by omega) ?_
    refine s_loc [2, 3, 4, 5, 6, 7] rfl ?_
    exact s_le (by omega) (by omega) (hnx M2 g3)
set_option maxRecDepth 20000 in
set_option maxHeartbeats 4000000 in
theorem T_stopAt {G : Gl} {C : Ct} {b Ls : Nat} {xs : Nat → Int32} {Q : Ct → State → Prop} {Inv : Mem → Mem → Prop} {k n : Nat} {i : Int} {M : Mem} (LC : LawC G C b Ls xs) (hIC : InvC Inv) (hst : ST_stopAt Inv) (h0 : 0 ≤ i) (h6 : i + 6 ≤ Ls) (hk : k + 100 ≤ 603072) (hn : n + 600 ≤ 7223402) (hI : Inv M (offM 455 M)) (hnx : ∀ M2 : Mem, Inv M2 (offM 455 M2) → J SHL G room_1 (.inr Q) C (k + 100) (n + 600) 3989 (L0 i) [] M2) : J SHL G room_1 (.inr Q) C k n 1163 (L0 i) [] M := by
  obtain ⟨X, nc, hsc, hz, hL⟩ := LC
  have hL9 : (Ls : Int) ≤ 3072 := by omega
  refine s_ok (fun _ _ hM => ?_)
  refine s_load0 X 1 rfl dL_law_1163 ?_
  refine s_load0 X 0 rfl dL_law_1164 ?_
  refine s_iload X 5 rfl dL_law_1165 ?_
  refine s_const X (by unfold InR; omega) dL_law_1167 ?_
  refine s_iadd X (by unfold InR; omega) dL_law_1168 ?_
  refine s_sld X hsc hz (by omega) (by omega) dL_law_1169 ?_
  refine s_load0 X 0 rfl dL_law_1170 ?_
  refine s_iload X 5 rfl dL_law_1171 ?_
  refine s_const X (by unfold InR; omega) dL_law_1173 ?_
  refine s_iadd X (by unfold InR; omega) dL_law_1174 ?_
  refine s_sld X hsc hz (by omega) (by omega) dL_law_1175 ?_
  refine s_load0 X 3 rfl dL_law_1176 ?_
  obtain ⟨rc, rm0, e1, -, -, f1, f2⟩ := hst M (offM 455 M) ((xs (i + 1).toNat).toInt) ((xs (i + 2).toNat).toInt) hI hM (okM_off hM 455) (InR_of _) (InR_of _)
  have hH := H_stopAt G ((xs (i + 1).toNat).toInt) ((xs (i + 2).toNat).toInt) M rc e1 (fun x hx => (f2 x hx).1)
  rw [hout_eq] at hH
  refine s_callSW (As := [VR 0, VI ((xs (i + 1).toNat).toInt), VI ((xs (i + 2).toNat).toInt), VR 489]) X nc cwS_L_233 dL_law_1177 hH rfl ⟨Nat.le_of_ble_eq_true rfl, Nat.le_of_ble_eq_true rfl⟩ ⟨by show k + 2 ≤ 603072; omega, by show n + 12 ≤ 7223402; omega⟩ (Nat.le_of_ble_eq_true rfl) noX (kkR ?_)
  obtain ⟨M1, hM1⟩ : ∃ z, z = hmem wrI rc M := ⟨_, rfl⟩
  rw [← hM1]
  obtain ⟨kz, hkz⟩ : ∃ z, z = hcode [2] rc := ⟨_, rfl⟩
  show J SHL G room_1 (.inr Q) C (k + 2) (n + 12) 1180 [(0, VR 491), (1, VR 0), (2, VR 455), (3, VR 489), (4, VR 490), (5, VI i)] [VI (hcode [2] rc)] M1
  refine s_istore X hkz rfl (by omega) dL_law_1180 ?_
  show J SHL G room_1 (.inr Q) C (k + 2) (n + 12) 1182 [(6, VI kz), (0, VR 491), (1, VR 0), (2, VR 455), (3, VR 489), (4, VR 490), (5, VI i)] [] M1
  refine s_ok (fun _ _ hMM => ?_)
  have hI1 : Inv M (offM 455 M1) := inv_mid hIC hI (by rw [hM1]; exact (hmem_lo wrI_lo rc M).2)
  refine s_load0 X 3 rfl dL_law_1182 ?_
  refine s_load0 X 1 rfl dL_law_1183 ?_
  refine s_iload X 6 rfl dL_law_1184 ?_
  refine s_const X (by unfold InR; omega) dL_law_1186 ?_
  refine s_iadd X (by unfold InR; omega) dL_law_1187 ?_
  refine s_sld X hsc hz (by omega) (by omega) dL_law_1188 ?_
  refine s_load0 X 1 rfl dL_law_1189 ?_
  refine s_iload X 6 rfl dL_law_1190 ?_
  refine s_const X (by unfold InR; omega) dL_law_1192 ?_
  refine s_iadd X (by unfold InR; omega) dL_law_1193 ?_
  refine s_sld X hsc hz (by omega) (by omega) dL_law_1194 ?_
  obtain ⟨rc2, rm, e1b, e2, hI2, h1, h2⟩ := hst M (offM 455 M1) ((xs (i + 1).toNat).toInt) ((xs (i + 2).toNat).toInt) hI1 hM (okM_off hMM 455) (InR_of _) (InR_of _)
  cases e1.symm.trans e1b
  refine s_callVH (As := [VI ((xs (i + 1).toNat).toInt), VI ((xs (i + 2).toNat).toInt)]) X cw_L_235 SHL_455 rfl dL_law_1195 (con_M (As := [VR 0, VI ((xs (i + 1).toNat).toInt), VI ((xs (i + 2).toNat).toInt)]) nrI (L_M_stopAt (offG G 455) ((xs (i + 1).toNat).toInt) ((xs (i + 2).toNat).toInt) (offM 455 M1) rm e2)) rfl ⟨Nat.le_of_ble_eq_true rfl, Nat.le_of_ble_eq_true rfl⟩ ⟨by show k + 2 + 0 ≤ 603072; omega, by show n + 12 + 0 ≤ 7223402; omega⟩ (Nat.le_of_ble_eq_true rfl) noX (kkR ?_)
  obtain ⟨g1, g2, g3⟩ := ag_use hIC wrI_lo (M := M) hI2 h1 h2
  rw [← hM1] at g1 g2 g3
  obtain ⟨M2, hM2⟩ : ∃ z, z = putM 455 34 M1 rm.2 := ⟨_, rfl⟩
  rw [← hM2] at g1 g2 g3 ⊢
  rw [← hkz] at g1 g2
  obtain ⟨bz, hbz⟩ : ∃ z, z = rm.1 := ⟨_, rfl⟩
  rw [← hbz] at g2
  show J SHL G room_1 (.inr Q) C (k + 2) (n + 12) 1198 [(6, VI kz), (0, VR 491), (1, VR 0), (2, VR 455), (3, VR 489), (4, VR 490), (5, VI i)] [VI rm.1] M2
  refine s_istore X hbz rfl (by omega) dL_law_1198 ?_
  show J SHL G room_1 (.inr Q) C (k + 2) (n + 12) 1200 [(7, VI bz), (6, VI kz), (0, VR 491), (1, VR 0), (2, VR 455), (3, VR 489), (4, VR 490), (5, VI i)] [] M2
  refine s_load0 X 4 rfl dL_law_1200 ?_
  refine s_callVH (As := []) X cw_L_188 SHL_455 rfl dL_law_1201 (con_Mr (As := [VR 0]) nrI (L_M_thrown (offG G 455) (offM 455 M2) (offM 455 M2 0 0) rfl)) rfl ⟨Nat.le_of_ble_eq_true rfl, Nat.le_of_ble_eq_true rfl⟩ ⟨by show k + 2 + 0 ≤ 603072; omega, by show n + 12 + 0 ≤ 7223402; omega⟩ (Nat.le_of_ble_eq_true rfl) noX (kkR ?_)
  show J SHL G room_1 (.inr Q) C (k + 2) (n + 12) 1204 [(7, VI bz), (6, VI kz), (0, VR 491), (1, VR 0), (2, VR 455), (3, VR 489), (4, VR 490), (5, VI i)] [VI (M2 455 0)] M2
  rw [g1]
  refine s_iload X 1 rfl dL_law_1204 ?_
  refine s_icmpeq_t (tgt := 1211) X dL_law_1206 (by omega) (fun _ => ?_) (fun q => absurd rfl q)
  refine s_iload X 1 rfl dL_law_1211 ?_
  refine s_ifne_t (tgt := 1228) X dL_law_1213 (by omega) (fun _ => ?_) (fun q => ?_)
  · refine s_goto (tgt := 3989) X dL_law_1228 (by omega) ?_
    refine s_loc [2, 3, 4, 5, 6, 7] rfl ?_
    exact s_le (by omega) (by omega) (hnx M2 g3)
  · have hk0 : kz = 0 := by omega
    obtain ⟨hok, hat⟩ := g2 hk0
    refine s_load0 X 5 rfl dL_law_1216 ?_
    refine s_const X (by unfold InR; omega) dL_law_1217 ?_
    refine s_lald X SHL_489 dL_law_1218 ?_
    rw [hat 489 0 (by omega), hat 489 1 (by omega), wrI_at]
    refine s_iload X 0 rfl dL_law_1219 ?_
    refine s_i2l X dL_law_1221 ?_
    refine s_lcmp X dL_law_1222 ?_
    refine s_ifeq_t (tgt := 1228) X dL_law_1223 (by omega) (fun _ => ?_) (fun q => absurd ((lcmpI_0 _ _).mpr rfl) q)
    refine s_goto (tgt := 3989) X dL_law_1228 (by omega) ?_
    refine s_loc [2, 3, 4, 5, 6, 7] rfl ?_
    exact s_le (by omega) (by omega) (hnx M2 g3)
set_option maxRecDepth 20000 in
set_option maxHeartbeats 4000000 in
theorem T_timeAt {G : Gl} {C : Ct} {b Ls : Nat} {xs : Nat → Int32} {Q : Ct → State → Prop} {Inv : Mem → Mem → Prop} {k n : Nat} {i : Int} {M : Mem} (LC : LawC G C b Ls xs) (hIC : InvC Inv) (hst : ST_timeAt Inv) (h0 : 0 ≤ i) (h6 : i + 6 ≤ Ls) (hk : k + 100 ≤ 603072) (hn : n + 600 ≤ 7223402) (hI : Inv M (offM 455 M)) (hnx : ∀ M2 : Mem, Inv M2 (offM 455 M2) → J SHL G room_1 (.inr Q) C (k + 100) (n + 600) 3989 (L0 i) [] M2) : J SHL G room_1 (.inr Q) C k n 1231 (L0 i) [] M := by
  obtain ⟨X, nc, hsc, hz, hL⟩ := LC
  have hL9 : (Ls : Int) ≤ 3072 := by omega
  refine s_ok (fun _ _ hM => ?_)
  refine s_load0 X 1 rfl dL_law_1231 ?_
  refine s_load0 X 0 rfl dL_law_1232 ?_
  refine s_iload X 5 rfl dL_law_1233 ?_
  refine s_const X (by unfold InR; omega) dL_law_1235 ?_
  refine s_iadd X (by unfold InR; omega) dL_law_1236 ?_
  refine s_sld X hsc hz (by omega) (by omega) dL_law_1237 ?_
  refine s_load0 X 0 rfl dL_law_1238 ?_
  refine s_iload X 5 rfl dL_law_1239 ?_
  refine s_const X (by unfold InR; omega) dL_law_1241 ?_
  refine s_iadd X (by unfold InR; omega) dL_law_1242 ?_
  refine s_sld X hsc hz (by omega) (by omega) dL_law_1243 ?_
  refine s_load0 X 0 rfl dL_law_1244 ?_
  refine s_iload X 5 rfl dL_law_1245 ?_
  refine s_const X (by unfold InR; omega) dL_law_1247 ?_
  refine s_iadd X (by unfold InR; omega) dL_law_1248 ?_
  refine s_sld X hsc hz (by omega) (by omega) dL_law_1249 ?_
  have kB : ∀ w9 : Int, w9 = (if (xs (i + 3).toNat).toInt = 0 then 0 else 1) → J SHL G room_1 (.inr Q) C (k + 0) (n + 0) 1258 [(0, VR 491), (1, VR 0), (2, VR 455), (3, VR 489), (4, VR 490), (5, VI i)] [VI w9, VI ((xs (i + 2).toNat).toInt), VI ((xs (i + 1).toNat).toInt), VR 0] M := by
    intro w9 e9
    subst e9
    refine s_load0 X 3 rfl dL_law_1258 ?_
    obtain ⟨rc, rm0, e1, -, -, f1, f2⟩ := hst M (offM 455 M) ((xs (i + 1).toNat).toInt) ((xs (i + 2).toNat).toInt) ((if (xs (i + 3).toNat).toInt = 0 then 0 else 1)) hI hM (okM_off hM 455) (InR_of _) (InR_of _) (by split <;> omega)
    have hH := H_timeAt G ((xs (i + 1).toNat).toInt) ((xs (i + 2).toNat).toInt) ((if (xs (i + 3).toNat).toInt = 0 then 0 else 1)) M rc e1 (fun x hx => (f2 x hx).1)
    rw [hout_eq] at hH
    refine s_callSW (As := [VR 0, VI ((xs (i + 1).toNat).toInt), VI ((xs (i + 2).toNat).toInt), VI ((if (xs (i + 3).toNat).toInt = 0 then 0 else 1)), VR 489]) X nc cwS_L_236 dL_law_1259 hH rfl ⟨Nat.le_of_ble_eq_true rfl, Nat.le_of_ble_eq_true rfl⟩ ⟨by show k + 2 ≤ 603072; omega, by show n + 12 ≤ 7223402; omega⟩ (Nat.le_of_ble_eq_true rfl) noX (kkR ?_)
    obtain ⟨M1, hM1⟩ : ∃ z, z = hmem wrI rc M := ⟨_, rfl⟩
    rw [← hM1]
    obtain ⟨kz, hkz⟩ : ∃ z, z = hcode [2] rc := ⟨_, rfl⟩
    show J SHL G room_1 (.inr Q) C (k + 2) (n + 12) 1262 [(0, VR 491), (1, VR 0), (2, VR 455), (3, VR 489), (4, VR 490), (5, VI i)] [VI (hcode [2] rc)] M1
    refine s_istore X hkz rfl (by omega) dL_law_1262 ?_
    show J SHL G room_1 (.inr Q) C (k + 2) (n + 12) 1264 [(6, VI kz), (0, VR 491), (1, VR 0), (2, VR 455), (3, VR 489), (4, VR 490), (5, VI i)] [] M1
    refine s_ok (fun _ _ hMM => ?_)
    have hI1 : Inv M (offM 455 M1) := inv_mid hIC hI (by rw [hM1]; exact (hmem_lo wrI_lo rc M).2)
    refine s_load0 X 3 rfl dL_law_1264 ?_
    refine s_load0 X 1 rfl dL_law_1265 ?_
    refine s_iload X 6 rfl dL_law_1266 ?_
    refine s_const X (by unfold InR; omega) dL_law_1268 ?_
    refine s_iadd X (by unfold InR; omega) dL_law_1269 ?_
    refine s_sld X hsc hz (by omega) (by omega) dL_law_1270 ?_
    refine s_load0 X 1 rfl dL_law_1271 ?_
    refine s_iload X 6 rfl dL_law_1272 ?_
    refine s_const X (by unfold InR; omega) dL_law_1274 ?_
    refine s_iadd X (by unfold InR; omega) dL_law_1275 ?_
    refine s_sld X hsc hz (by omega) (by omega) dL_law_1276 ?_
    refine s_load0 X 1 rfl dL_law_1277 ?_
    refine s_iload X 6 rfl dL_law_1278 ?_
    refine s_const X (by unfold InR; omega) dL_law_1280 ?_
    refine s_iadd X (by unfold InR; omega) dL_law_1281 ?_
    refine s_sld X hsc hz (by omega) (by omega) dL_law_1282 ?_
    have kB : ∀ w9 : Int, w9 = (if (xs (i + 3).toNat).toInt = 0 then 0 else 1) → J SHL G room_1 (.inr Q) C (k + 2) (n + 12) 1291 [(6, VI kz), (0, VR 491), (1, VR 0), (2, VR 455), (3, VR 489), (4, VR 490), (5, VI i)] [VI w9, VI ((xs (i + 2).toNat).toInt), VI ((xs (i + 1).toNat).toInt), VR 455] M1 := by
      intro w9 e9
      subst e9
      obtain ⟨rc2, rm, e1b, e2, hI2, h1, h2⟩ := hst M (offM 455 M1) ((xs (i + 1).toNat).toInt) ((xs (i + 2).toNat).toInt) ((if (xs (i + 3).toNat).toInt = 0 then 0 else 1)) hI1 hM (okM_off hMM 455) (InR_of _) (InR_of _) (by split <;> omega)
      cases e1.symm.trans e1b
      refine s_callVH (As := [VI ((xs (i + 1).toNat).toInt), VI ((xs (i + 2).toNat).toInt), VI ((if (xs (i + 3).toNat).toInt = 0 then 0 else 1))]) X cw_L_238 SHL_455 rfl dL_law_1291 (con_M (As := [VR 0, VI ((xs (i + 1).toNat).toInt), VI ((xs (i + 2).toNat).toInt), VI ((if (xs (i + 3).toNat).toInt = 0 then 0 else 1))]) nrI (L_M_timeAt (offG G 455) ((xs (i + 1).toNat).toInt) ((xs (i + 2).toNat).toInt) ((if (xs (i + 3).toNat).toInt = 0 then 0 else 1)) (offM 455 M1) rm e2)) rfl ⟨Nat.le_of_ble_eq_true rfl, Nat.le_of_ble_eq_true rfl⟩ ⟨by show k + 2 + 0 ≤ 603072; omega, by show n + 12 + 0 ≤ 7223402; omega⟩ (Nat.le_of_ble_eq_true rfl) noX (kkR ?_)
      obtain ⟨g1, g2, g3⟩ := ag_use hIC wrI_lo (M := M) hI2 h1 h2
      rw [← hM1] at g1 g2 g3
      obtain ⟨M2, hM2⟩ : ∃ z, z = putM 455 34 M1 rm.2 := ⟨_, rfl⟩
      rw [← hM2] at g1 g2 g3 ⊢
      rw [← hkz] at g1 g2
      obtain ⟨bz, hbz⟩ : ∃ z, z = rm.1 := ⟨_, rfl⟩
      rw [← hbz] at g2
      show J SHL G room_1 (.inr Q) C (k + 2) (n + 12) 1294 [(6, VI kz), (0, VR 491), (1, VR 0), (2, VR 455), (3, VR 489), (4, VR 490), (5, VI i)] [VI rm.1] M2
      refine s_istore X hbz rfl (by omega) dL_law_1294 ?_
      show J SHL G room_1 (.inr Q) C (k + 2) (n + 12) 1296 [(7, VI bz), (6, VI kz), (0, VR 491), (1, VR 0), (2, VR 455), (3, VR 489), (4, VR 490), (5, VI i)] [] M2
      refine s_load0 X 4 rfl dL_law_1296 ?_
      refine s_callVH (As := []) X cw_L_188 SHL_455 rfl dL_law_1297 (con_Mr (As := [VR 0]) nrI (L_M_thrown (offG G 455) (offM 455 M2) (offM 455 M2 0 0) rfl)) rfl ⟨Nat.le_of_ble_eq_true rfl, Nat.le_of_ble_eq_true rfl⟩ ⟨by show k + 2 + 0 ≤ 603072; omega, by show n + 12 + 0 ≤ 7223402; omega⟩ (Nat.le_of_ble_eq_true rfl) noX (kkR ?_)
      show J SHL G room_1 (.inr Q) C (k + 2) (n + 12) 1300 [(7, VI bz), (6, VI kz), (0, VR 491), (1, VR 0), (2, VR 455), (3, VR 489), (4, VR 490), (5, VI i)] [VI (M2 455 0)] M2
      rw [g1]
      refine s_iload X 1 rfl dL_law_1300 ?_
      refine s_icmpeq_t (tgt := 1307) X dL_law_1302 (by omega) (fun _ => ?_) (fun q => absurd rfl q)
      refine s_iload X 1 rfl dL_law_1307 ?_
      refine s_ifne_t (tgt := 1324) X dL_law_1309 (by omega) (fun _ => ?_) (fun q => ?_)
      · refine s_goto (tgt := 3989) X dL_law_1324 (by omega) ?_
        refine s_loc [2, 3, 4, 5, 6, 7] rfl ?_
        exact s_le (by omega) (by omega) (hnx M2 g3)
      · have hk0 : kz = 0 := by omega
        obtain ⟨hok, hat⟩ := g2 hk0
        refine s_load0 X 5 rfl dL_law_1312 ?_
        refine s_const X (by unfold InR; omega) dL_law_1313 ?_
        refine s_lald X SHL_489 dL_law_1314 ?_
        rw [hat 489 0 (by omega), hat 489 1 (by omega), wrI_at]
        refine s_iload X 0 rfl dL_law_1315 ?_
        refine s_i2l X dL_law_1317 ?_
        refine s_lcmp X dL_law_1318 ?_
        refine s_ifeq_t (tgt := 1324) X dL_law_1319 (by omega) (fun _ => ?_) (fun q => absurd ((lcmpI_0 _ _).mpr rfl) q)
        refine s_goto (tgt := 3989) X dL_law_1324 (by omega) ?_
        refine s_loc [2, 3, 4, 5, 6, 7] rfl ?_
        exact s_le (by omega) (by omega) (hnx M2 g3)
    refine s_ifeq_t (tgt := 1290) X dL_law_1283 (by omega) (fun c1 => ?_) (fun c1 => ?_)
    · refine s_const X (by unfold InR; omega) dL_law_1290 ?_
      exact kB 0 (if_pos c1).symm
    · refine s_const X (by unfold InR; omega) dL_law_1286 ?_
      refine s_goto (tgt := 1291) X dL_law_1287 (by omega) ?_
      exact kB 1 (if_neg c1).symm
  refine s_ifeq_t (tgt := 1257) X dL_law_1250 (by omega) (fun c1 => ?_) (fun c1 => ?_)
  · refine s_const X (by unfold InR; omega) dL_law_1257 ?_
    exact kB 0 (if_pos c1).symm
  · refine s_const X (by unfold InR; omega) dL_law_1253 ?_
    refine s_goto (tgt := 1258) X dL_law_1254 (by omega) ?_
    exact kB 1 (if_neg c1).symm
set_option maxRecDepth 20000 in
set_option maxHeartbeats 4000000 in
theorem T_shift {G : Gl} {C : Ct} {b Ls : Nat} {xs : Nat → Int32} {Q : Ct → State → Prop} {Inv : Mem → Mem → Prop} {k n : Nat} {i : Int} {M : Mem} (LC : LawC G C b Ls xs) (hIC : InvC Inv) (hst : ST_shift Inv) (h0 : 0 ≤ i) (h6 : i + 6 ≤ Ls) (hk : k + 100 ≤ 603072) (hn : n + 600 ≤ 7223402) (hI : Inv M (offM 455 M)) (hnx : ∀ M2 : Mem, Inv M2 (offM 455 M2) → J SHL G room_1 (.inr Q) C (k + 100) (n + 600) 3989 (L0 i) [] M2) : J SHL G room_1 (.inr Q) C k n 1327 (L0 i) [] M := by
  obtain ⟨X, nc, hsc, hz, hL⟩ := LC
  have hL9 : (Ls : Int) ≤ 3072 := by omega
  refine s_ok (fun _ _ hM => ?_)
  refine s_load0 X 1 rfl dL_law_1327 ?_
  refine s_load0 X 0 rfl dL_law_1328 ?_
  refine s_iload X 5 rfl dL_law_1329 ?_
  refine s_const X (by unfold InR; omega) dL_law_1331 ?_
  refine s_iadd X (by unfold InR; omega) dL_law_1332 ?_
  refine s_sld X hsc hz (by omega) (by omega) dL_law_1333 ?_
  refine s_load0 X 0 rfl dL_law_1334 ?_
  refine s_iload X 5 rfl dL_law_1335 ?_
  refine s_const X (by unfold InR; omega) dL_law_1337 ?_
  refine s_iadd X (by unfold InR; omega) dL_law_1338 ?_
  refine s_sld X hsc hz (by omega) (by omega) dL_law_1339 ?_
  refine s_load0 X 3 rfl dL_law_1340 ?_
  obtain ⟨rc, rm0, e1, -, -, f1, f2⟩ := hst M (offM 455 M) ((xs (i + 1).toNat).toInt) ((xs (i + 2).toNat).toInt) hI hM (okM_off hM 455) (InR_of _) (InR_of _)
  have hH := H_shift G ((xs (i + 1).toNat).toInt) ((xs (i + 2).toNat).toInt) M rc e1 (fun x hx => (f2 x hx).1)
  rw [hout_eq] at hH
  refine s_callSW (As := [VR 0, VI ((xs (i + 1).toNat).toInt), VI ((xs (i + 2).toNat).toInt), VR 489]) X nc cwS_L_239 dL_law_1341 hH rfl ⟨Nat.le_of_ble_eq_true rfl, Nat.le_of_ble_eq_true rfl⟩ ⟨by show k + 4 ≤ 603072; omega, by show n + 24 ≤ 7223402; omega⟩ (Nat.le_of_ble_eq_true rfl) noX (kkR ?_)
  obtain ⟨M1, hM1⟩ : ∃ z, z = hmem wrI rc M := ⟨_, rfl⟩
  rw [← hM1]
  obtain ⟨kz, hkz⟩ : ∃ z, z = hcode [2, 0] rc := ⟨_, rfl⟩
  show J SHL G room_1 (.inr Q) C (k + 4) (n + 24) 1344 [(0, VR 491), (1, VR 0), (2, VR 455), (3, VR 489), (4, VR 490), (5, VI i)] [VI (hcode [2, 0] rc)] M1
  refine s_istore X hkz rfl (by omega) dL_law_1344 ?_
  show J SHL G room_1 (.inr Q) C (k + 4) (n + 24) 1346 [(6, VI kz), (0, VR 491), (1, VR 0), (2, VR 455), (3, VR 489), (4, VR 490), (5, VI i)] [] M1
  refine s_ok (fun _ _ hMM => ?_)
  have hI1 : Inv M (offM 455 M1) := inv_mid hIC hI (by rw [hM1]; exact (hmem_lo wrI_lo rc M).2)
  refine s_load0 X 3 rfl dL_law_1346 ?_
  refine s_load0 X 1 rfl dL_law_1347 ?_
  refine s_iload X 6 rfl dL_law_1348 ?_
  refine s_const X (by unfold InR; omega) dL_law_1350 ?_
  refine s_iadd X (by unfold InR; omega) dL_law_1351 ?_
  refine s_sld X hsc hz (by omega) (by omega) dL_law_1352 ?_
  refine s_load0 X 1 rfl dL_law_1353 ?_
  refine s_iload X 6 rfl dL_law_1354 ?_
  refine s_const X (by unfold InR; omega) dL_law_1356 ?_
  refine s_iadd X (by unfold InR; omega) dL_law_1357 ?_
  refine s_sld X hsc hz (by omega) (by omega) dL_law_1358 ?_
  obtain ⟨rc2, rm, e1b, e2, hI2, h1, h2⟩ := hst M (offM 455 M1) ((xs (i + 1).toNat).toInt) ((xs (i + 2).toNat).toInt) hI1 hM (okM_off hMM 455) (InR_of _) (InR_of _)
  cases e1.symm.trans e1b
  refine s_callVH (As := [VI ((xs (i + 1).toNat).toInt), VI ((xs (i + 2).toNat).toInt)]) X cw_L_241 SHL_455 rfl dL_law_1359 (con_M (As := [VR 0, VI ((xs (i + 1).toNat).toInt), VI ((xs (i + 2).toNat).toInt)]) nrI (L_M_shift (offG G 455) ((xs (i + 1).toNat).toInt) ((xs (i + 2).toNat).toInt) (offM 455 M1) rm e2)) rfl ⟨Nat.le_of_ble_eq_true rfl, Nat.le_of_ble_eq_true rfl⟩ ⟨by show k + 4 + 0 ≤ 603072; omega, by show n + 24 + 0 ≤ 7223402; omega⟩ (Nat.le_of_ble_eq_true rfl) noX (kkR ?_)
  obtain ⟨g1, g2, g3⟩ := ag_use hIC wrI_lo (M := M) hI2 h1 h2
  rw [← hM1] at g1 g2 g3
  obtain ⟨M2, hM2⟩ : ∃ z, z = putM 455 34 M1 rm.2 := ⟨_, rfl⟩
  rw [← hM2] at g1 g2 g3 ⊢
  rw [← hkz] at g1 g2
  obtain ⟨bz, hbz⟩ : ∃ z, z = rm.1 := ⟨_, rfl⟩
  rw [← hbz] at g2
  show J SHL G room_1 (.inr Q) C (k + 4) (n + 24) 1362 [(6, VI kz), (0, VR 491), (1, VR 0), (2, VR 455), (3, VR 489), (4, VR 490), (5, VI i)] [VI rm.1] M2
  refine s_istore X hbz rfl (by omega) dL_law_1362 ?_
  show J SHL G room_1 (.inr Q) C (k + 4) (n + 24) 1364 [(7, VI bz), (6, VI kz), (0, VR 491), (1, VR 0), (2, VR 455), (3, VR 489), (4, VR 490), (5, VI i)] [] M2
  refine s_load0 X 4 rfl dL_law_1364 ?_
  refine s_callVH (As := []) X cw_L_188 SHL_455 rfl dL_law_1365 (con_Mr (As := [VR 0]) nrI (L_M_thrown (offG G 455) (offM 455 M2) (offM 455 M2 0 0) rfl)) rfl ⟨Nat.le_of_ble_eq_true rfl, Nat.le_of_ble_eq_true rfl⟩ ⟨by show k + 4 + 0 ≤ 603072; omega, by show n + 24 + 0 ≤ 7223402; omega⟩ (Nat.le_of_ble_eq_true rfl) noX (kkR ?_)
  show J SHL G room_1 (.inr Q) C (k + 4) (n + 24) 1368 [(7, VI bz), (6, VI kz), (0, VR 491), (1, VR 0), (2, VR 455), (3, VR 489), (4, VR 490), (5, VI i)] [VI (M2 455 0)] M2
  rw [g1]
  refine s_iload X 1 rfl dL_law_1368 ?_
  refine s_icmpeq_t (tgt := 1375) X dL_law_1370 (by omega) (fun _ => ?_) (fun q => absurd rfl q)
  refine s_iload X 1 rfl dL_law_1375 ?_
  refine s_ifne_t (tgt := 1392) X dL_law_1377 (by omega) (fun _ => ?_) (fun q => ?_)
  · refine s_goto (tgt := 3989) X dL_law_1392 (by omega) ?_
    refine s_loc [2, 3, 4, 5, 6, 7] rfl ?_
    exact s_le (by omega) (by omega) (hnx M2 g3)
  · have hk0 : kz = 0 := by omega
    obtain ⟨hok, hat⟩ := g2 hk0
    refine s_load0 X 5 rfl dL_law_1380 ?_
    refine s_const X (by unfold InR; omega) dL_law_1381 ?_
    refine s_lald X SHL_489 dL_law_1382 ?_
    rw [hat 489 0 (by omega), hat 489 1 (by omega), wrI_at]
    refine s_iload X 0 rfl dL_law_1383 ?_
    refine s_i2l X dL_law_1385 ?_
    refine s_lcmp X dL_law_1386 ?_
    refine s_ifeq_t (tgt := 1392) X dL_law_1387 (by omega) (fun _ => ?_) (fun q => absurd ((lcmpI_0 _ _).mpr rfl) q)
    refine s_goto (tgt := 3989) X dL_law_1392 (by omega) ?_
    refine s_loc [2, 3, 4, 5, 6, 7] rfl ?_
    exact s_le (by omega) (by omega) (hnx M2 g3)
set_option maxRecDepth 20000 in
set_option maxHeartbeats 4000000 in
theorem T_type {G : Gl} {C : Ct} {b Ls : Nat} {xs : Nat → Int32} {Q : Ct → State → Prop} {Inv : Mem → Mem → Prop} {k n : Nat} {i : Int} {M : Mem} (LC : LawC G C b Ls xs) (hIC : InvC Inv) (hst : ST_type Inv) (h0 : 0 ≤ i) (h6 : i + 6 ≤ Ls) (hk : k + 100 ≤ 603072) (hn : n + 600 ≤ 7223402) (hI : Inv M (offM 455 M)) (hnx : ∀ M2 : Mem, Inv M2 (offM 455 M2) → J SHL G room_1 (.inr Q) C (k + 100) (n + 600) 3989 (L0 i) [] M2) : J SHL G room_1 (.inr Q) C k n 1395 (L0 i) [] M := by
  obtain ⟨X, nc, hsc, hz, hL⟩ := LC
  have hL9 : (Ls : Int) ≤ 3072 := by omega
  refine s_ok (fun _ _ hM => ?_)
  refine s_load0 X 1 rfl dL_law_1395 ?_
  refine s_load0 X 0 rfl dL_law_1396 ?_
  refine s_iload X 5 rfl dL_law_1397 ?_
  refine s_const X (by unfold InR; omega) dL_law_1399 ?_
  refine s_iadd X (by unfold InR; omega) dL_law_1400 ?_
  refine s_sld X hsc hz (by omega) (by omega) dL_law_1401 ?_
  refine s_i2c X dL_law_1402 ?_
  refine s_load0 X 3 rfl dL_law_1403 ?_
  obtain ⟨rc, rm0, e1, -, -, f1, f2⟩ := hst M (offM 455 M) ((xs (i + 1).toNat).toInt % 65536) hI hM (okM_off hM 455) ⟨by omega, by omega⟩
  have hH := H_type G ((xs (i + 1).toNat).toInt % 65536) M rc e1 (fun x hx => (f2 x hx).1)
  rw [hout_eq] at hH
  refine s_callSW (As := [VR 0, VI ((xs (i + 1).toNat).toInt % 65536), VR 489]) X nc cwS_L_242 dL_law_1404 hH rfl ⟨Nat.le_of_ble_eq_true rfl, Nat.le_of_ble_eq_true rfl⟩ ⟨by show k + 1 ≤ 603072; omega, by show n + 6 ≤ 7223402; omega⟩ (Nat.le_of_ble_eq_true rfl) noX (kkR ?_)
  obtain ⟨M1, hM1⟩ : ∃ z, z = hmem wrI rc M := ⟨_, rfl⟩
  rw [← hM1]
  obtain ⟨kz, hkz⟩ : ∃ z, z = hcode [1] rc := ⟨_, rfl⟩
  show J SHL G room_1 (.inr Q) C (k + 1) (n + 6) 1407 [(0, VR 491), (1, VR 0), (2, VR 455), (3, VR 489), (4, VR 490), (5, VI i)] [VI (hcode [1] rc)] M1
  refine s_istore X hkz rfl (by omega) dL_law_1407 ?_
  show J SHL G room_1 (.inr Q) C (k + 1) (n + 6) 1409 [(6, VI kz), (0, VR 491), (1, VR 0), (2, VR 455), (3, VR 489), (4, VR 490), (5, VI i)] [] M1
  refine s_ok (fun _ _ hMM => ?_)
  have hI1 : Inv M (offM 455 M1) := inv_mid hIC hI (by rw [hM1]; exact (hmem_lo wrI_lo rc M).2)
  refine s_load0 X 3 rfl dL_law_1409 ?_
  refine s_load0 X 1 rfl dL_law_1410 ?_
  refine s_iload X 6 rfl dL_law_1411 ?_
  refine s_const X (by unfold InR; omega) dL_law_1413 ?_
  refine s_iadd X (by unfold InR; omega) dL_law_1414 ?_
  refine s_sld X hsc hz (by omega) (by omega) dL_law_1415 ?_
  refine s_i2c X dL_law_1416 ?_
  obtain ⟨rc2, rm, e1b, e2, hI2, h1, h2⟩ := hst M (offM 455 M1) ((xs (i + 1).toNat).toInt % 65536) hI1 hM (okM_off hMM 455) ⟨by omega, by omega⟩
  cases e1.symm.trans e1b
  refine s_callVH (As := [VI ((xs (i + 1).toNat).toInt % 65536)]) X cw_L_245 SHL_455 rfl dL_law_1417 (con_M (As := [VR 0, VI ((xs (i + 1).toNat).toInt % 65536)]) nrI (L_M_type (offG G 455) ((xs (i + 1).toNat).toInt % 65536) (offM 455 M1) rm e2)) rfl ⟨Nat.le_of_ble_eq_true rfl, Nat.le_of_ble_eq_true rfl⟩ ⟨by show k + 1 + 0 ≤ 603072; omega, by show n + 6 + 0 ≤ 7223402; omega⟩ (Nat.le_of_ble_eq_true rfl) noX (kkR ?_)
  obtain ⟨g1, g2, g3⟩ := ag_use hIC wrI_lo (M := M) hI2 h1 h2
  rw [← hM1] at g1 g2 g3
  obtain ⟨M2, hM2⟩ : ∃ z, z = putM 455 34 M1 rm.2 := ⟨_, rfl⟩
  rw [← hM2] at g1 g2 g3 ⊢
  rw [← hkz] at g1 g2
  obtain ⟨bz, hbz⟩ : ∃ z, z = rm.1 := ⟨_, rfl⟩
  rw [← hbz] at g2
  show J SHL G room_1 (.inr Q) C (k + 1) (n + 6) 1420 [(6, VI kz), (0, VR 491), (1, VR 0), (2, VR 455), (3, VR 489), (4, VR 490), (5, VI i)] [VI rm.1] M2
  refine s_istore X hbz rfl (by omega) dL_law_1420 ?_
  show J SHL G room_1 (.inr Q) C (k + 1) (n + 6) 1422 [(7, VI bz), (6, VI kz), (0, VR 491), (1, VR 0), (2, VR 455), (3, VR 489), (4, VR 490), (5, VI i)] [] M2
  refine s_load0 X 4 rfl dL_law_1422 ?_
  refine s_callVH (As := []) X cw_L_188 SHL_455 rfl dL_law_1423 (con_Mr (As := [VR 0]) nrI (L_M_thrown (offG G 455) (offM 455 M2) (offM 455 M2 0 0) rfl)) rfl ⟨Nat.le_of_ble_eq_true rfl, Nat.le_of_ble_eq_true rfl⟩ ⟨by show k + 1 + 0 ≤ 603072; omega, by show n + 6 + 0 ≤ 7223402; omega⟩ (Nat.le_of_ble_eq_true rfl) noX (kkR ?_)
  show J SHL G room_1 (.inr Q) C (k + 1) (n + 6) 1426 [(7, VI bz), (6, VI kz), (0, VR 491), (1, VR 0), (2, VR 455), (3, VR 489), (4, VR 490), (5, VI i)] [VI (M2 455 0)] M2
  rw [g1]
  refine s_iload X 1 rfl dL_law_1426 ?_
  refine s_icmpeq_t (tgt := 1433) X dL_law_1428 (by omega) (fun _ => ?_) (fun q => absurd rfl q)
  refine s_iload X 1 rfl dL_law_1433 ?_
  refine s_ifne_t (tgt := 1450) X dL_law_1435 (by omega) (fun _ => ?_) (fun q => ?_)
  · refine s_goto (tgt := 3989) X dL_law_1450 (by omega) ?_
    refine s_loc [2, 3, 4, 5, 6, 7] rfl ?_
    exact s_le (by omega) (by omega) (hnx M2 g3)
  · have hk0 : kz = 0 := by omega
    obtain ⟨hok, hat⟩ := g2 hk0
    refine s_load0 X 5 rfl dL_law_1438 ?_
    refine s_const X (by unfold InR; omega) dL_law_1439 ?_
    refine s_lald X SHL_489 dL_law_1440 ?_
    rw [hat 489 0 (by omega), hat 489 1 (by omega), wrI_at]
    refine s_iload X 0 rfl dL_law_1441 ?_
    refine s_i2l X dL_law_1443 ?_
    refine s_lcmp X dL_law_1444 ?_
    refine s_ifeq_t (tgt := 1450) X dL_law_1445 (by omega) (fun _ => ?_) (fun q => absurd ((lcmpI_0 _ _).mpr rfl) q)
    refine s_goto (tgt := 3989) X dL_law_1450 (by omega) ?_
    refine s_loc [2, 3, 4, 5, 6, 7] rfl ?_
    exact s_le (by omega) (by omega) (hnx M2 g3)
set_option maxRecDepth 20000 in
set_option maxHeartbeats 4000000 in
theorem T_typeNumber {G : Gl} {C : Ct} {b Ls : Nat} {xs : Nat → Int32} {Q : Ct → State → Prop} {Inv : Mem → Mem → Prop} {k n : Nat} {i : Int} {M : Mem} (LC : LawC G C b Ls xs) (hIC : InvC Inv) (hst : ST_typeNumber Inv) (h0 : 0 ≤ i) (h6 : i + 6 ≤ Ls) (hk : k + 100 ≤ 603072) (hn : n + 600 ≤ 7223402) (hI : Inv M (offM 455 M)) (hnx : ∀ M2 : Mem, Inv M2 (offM 455 M2) → J SHL G room_1 (.inr Q) C (k + 100) (n + 600) 3989 (L0 i) [] M2) : J SHL G room_1 (.inr Q) C k n 1453 (L0 i) [] M := by
  obtain ⟨X, nc, hsc, hz, hL⟩ := LC
  have hL9 : (Ls : Int) ≤ 3072 := by omega
  refine s_ok (fun _ _ hM => ?_)
  refine s_load0 X 1 rfl dL_law_1453 ?_
  refine s_load0 X 0 rfl dL_law_1454 ?_
  refine s_iload X 5 rfl dL_law_1455 ?_
  refine s_const X (by unfold InR; omega) dL_law_1457 ?_
  refine s_iadd X (by unfold InR; omega) dL_law_1458 ?_
  refine s_sld X hsc hz (by omega) (by omega) dL_law_1459 ?_
  refine s_load0 X 3 rfl dL_law_1460 ?_
  obtain ⟨rc, rm0, e1, -, -, f1, f2⟩ := hst M (offM 455 M) ((xs (i + 1).toNat).toInt) hI hM (okM_off hM 455) (InR_of _)
  have hH := H_typeNumber G ((xs (i + 1).toNat).toInt) M rc e1 (fun x hx => (f2 x hx).1)
  rw [hout_eq] at hH
  refine s_callSW (As := [VR 0, VI ((xs (i + 1).toNat).toInt), VR 489]) X nc cwS_L_246 dL_law_1461 hH rfl ⟨Nat.le_of_ble_eq_true rfl, Nat.le_of_ble_eq_true rfl⟩ ⟨by show k + 2 ≤ 603072; omega, by show n + 12 ≤ 7223402; omega⟩ (Nat.le_of_ble_eq_true rfl) noX (kkR ?_)
  obtain ⟨M1, hM1⟩ : ∃ z, z = hmem wrI rc M := ⟨_, rfl⟩
  rw [← hM1]
  obtain ⟨kz, hkz⟩ : ∃ z, z = hcode [0, 1] rc := ⟨_, rfl⟩
  show J SHL G room_1 (.inr Q) C (k + 2) (n + 12) 1464 [(0, VR 491), (1, VR 0), (2, VR 455), (3, VR 489), (4, VR 490), (5, VI i)] [VI (hcode [0, 1] rc)] M1
  refine s_istore X hkz rfl (by omega) dL_law_1464 ?_
  show J SHL G room_1 (.inr Q) C (k + 2) (n + 12) 1466 [(6, VI kz), (0, VR 491), (1, VR 0), (2, VR 455), (3, VR 489), (4, VR 490), (5, VI i)] [] M1
  refine s_ok (fun _ _ hMM => ?_)
  have hI1 : Inv M (offM 455 M1) := inv_mid hIC hI (by rw [hM1]; exact (hmem_lo wrI_lo rc M).2)
  refine s_load0 X 3 rfl dL_law_1466 ?_
  refine s_load0 X 1 rfl dL_law_1467 ?_
  refine s_iload X 6 rfl dL_law_1468 ?_
  refine s_const X (by unfold InR; omega) dL_law_1470 ?_
  refine s_iadd X (by unfold InR; omega) dL_law_1471 ?_
  refine s_sld X hsc hz (by omega) (by omega) dL_law_1472 ?_
  obtain ⟨rc2, rm, e1b, e2, hI2, h1, h2⟩ := hst M (offM 455 M1) ((xs (i + 1).toNat).toInt) hI1 hM (okM_off hMM 455) (InR_of _)
  cases e1.symm.trans e1b
  refine s_callVH (As := [VI ((xs (i + 1).toNat).toInt)]) X cw_L_248 SHL_455 rfl dL_law_1473 (con_M (As := [VR 0, VI ((xs (i + 1).toNat).toInt)]) nrI (L_M_typeNumber (offG G 455) ((xs (i + 1).toNat).toInt) (offM 455 M1) rm e2)) rfl ⟨Nat.le_of_ble_eq_true rfl, Nat.le_of_ble_eq_true rfl⟩ ⟨by show k + 2 + 0 ≤ 603072; omega, by show n + 12 + 0 ≤ 7223402; omega⟩ (Nat.le_of_ble_eq_true rfl) noX (kkR ?_)
  obtain ⟨g1, g2, g3⟩ := ag_use hIC wrI_lo (M := M) hI2 h1 h2
  rw [← hM1] at g1 g2 g3
  obtain ⟨M2, hM2⟩ : ∃ z, z = putM 455 34 M1 rm.2 := ⟨_, rfl⟩
  rw [← hM2] at g1 g2 g3 ⊢
  rw [← hkz] at g1 g2
  obtain ⟨bz, hbz⟩ : ∃ z, z = rm.1 := ⟨_, rfl⟩
  rw [← hbz] at g2
  show J SHL G room_1 (.inr Q) C (k + 2) (n + 12) 1476 [(6, VI kz), (0, VR 491), (1, VR 0), (2, VR 455), (3, VR 489), (4, VR 490), (5, VI i)] [VI rm.1] M2
  refine s_istore X hbz rfl (by omega) dL_law_1476 ?_
  show J SHL G room_1 (.inr Q) C (k + 2) (n + 12) 1478 [(7, VI bz), (6, VI kz), (0, VR 491), (1, VR 0), (2, VR 455), (3, VR 489), (4, VR 490), (5, VI i)] [] M2
  refine s_load0 X 4 rfl dL_law_1478 ?_
  refine s_callVH (As := []) X cw_L_188 SHL_455 rfl dL_law_1479 (con_Mr (As := [VR 0]) nrI (L_M_thrown (offG G 455) (offM 455 M2) (offM 455 M2 0 0) rfl)) rfl ⟨Nat.le_of_ble_eq_true rfl, Nat.le_of_ble_eq_true rfl⟩ ⟨by show k + 2 + 0 ≤ 603072; omega, by show n + 12 + 0 ≤ 7223402; omega⟩ (Nat.le_of_ble_eq_true rfl) noX (kkR ?_)
  show J SHL G room_1 (.inr Q) C (k + 2) (n + 12) 1482 [(7, VI bz), (6, VI kz), (0, VR 491), (1, VR 0), (2, VR 455), (3, VR 489), (4, VR 490), (5, VI i)] [VI (M2 455 0)] M2
  rw [g1]
  refine s_iload X 1 rfl dL_law_1482 ?_
  refine s_icmpeq_t (tgt := 1489) X dL_law_1484 (by omega) (fun _ => ?_) (fun q => absurd rfl q)
  refine s_iload X 1 rfl dL_law_1489 ?_
  refine s_ifne_t (tgt := 1506) X dL_law_1491 (by omega) (fun _ => ?_) (fun q => ?_)
  · refine s_goto (tgt := 3989) X dL_law_1506 (by omega) ?_
    refine s_loc [2, 3, 4, 5, 6, 7] rfl ?_
    exact s_le (by omega) (by omega) (hnx M2 g3)
  · have hk0 : kz = 0 := by omega
    obtain ⟨hok, hat⟩ := g2 hk0
    refine s_load0 X 5 rfl dL_law_1494 ?_
    refine s_const X (by unfold InR; omega) dL_law_1495 ?_
    refine s_lald X SHL_489 dL_law_1496 ?_
    rw [hat 489 0 (by omega), hat 489 1 (by omega), wrI_at]
    refine s_iload X 0 rfl dL_law_1497 ?_
    refine s_i2l X dL_law_1499 ?_
    refine s_lcmp X dL_law_1500 ?_
    refine s_ifeq_t (tgt := 1506) X dL_law_1501 (by omega) (fun _ => ?_) (fun q => absurd ((lcmpI_0 _ _).mpr rfl) q)
    refine s_goto (tgt := 3989) X dL_law_1506 (by omega) ?_
    refine s_loc [2, 3, 4, 5, 6, 7] rfl ?_
    exact s_le (by omega) (by omega) (hnx M2 g3)
set_option maxRecDepth 20000 in
set_option maxHeartbeats 4000000 in
theorem T_erase {G : Gl} {C : Ct} {b Ls : Nat} {xs : Nat → Int32} {Q : Ct → State → Prop} {Inv : Mem → Mem → Prop} {k n : Nat} {i : Int} {M : Mem} (LC : LawC G C b Ls xs) (hIC : InvC Inv) (hst : ST_erase Inv) (h0 : 0 ≤ i) (h6 : i + 6 ≤ Ls) (hk : k + 100 ≤ 603072) (hn : n + 600 ≤ 7223402) (hI : Inv M (offM 455 M)) (hnx : ∀ M2 : Mem, Inv M2 (offM 455 M2) → J SHL G room_1 (.inr Q) C (k + 100) (n + 600) 3989 (L0 i) [] M2) : J SHL G room_1 (.inr Q) C k n 1509 (L0 i) [] M := by
  obtain ⟨X, nc, hsc, hz, hL⟩ := LC
  have hL9 : (Ls : Int) ≤ 3072 := by omega
  refine s_ok (fun _ _ hM => ?_)
  refine s_load0 X 1 rfl dL_law_1509 ?_
  obtain ⟨rc, rm0, e1, -, -, -⟩ := hst M (offM 455 M) hI hM (okM_off hM 455)
  refine s_callVH (As := []) X cw_L_249 SHL_0 rfl dL_law_1510 (con_C (L_C_erase G M rc e1)) rfl ⟨Nat.le_of_ble_eq_true rfl, Nat.le_of_ble_eq_true rfl⟩ ⟨by show k + 0 ≤ 603072; omega, by show n + 0 ≤ 7223402; omega⟩ (Nat.le_of_ble_eq_true rfl) noX (kkR ?_)
  obtain ⟨M1, hM1⟩ : ∃ z, z = putM 0 455 M rc.2 := ⟨_, rfl⟩
  show J SHL G room_1 (.inr Q) C (k + 0) (n + 0) 1513 [(0, VR 491), (1, VR 0), (2, VR 455), (3, VR 489), (4, VR 490), (5, VI i)] [VI rc.1] (putM 0 455 M rc.2)
  rw [← hM1]
  refine s_ok (fun _ _ hMM => ?_)
  have hI1 : Inv M (offM 455 M1) := inv_mid hIC hI (fun c c1 c2 i => by rw [hM1]; unfold putM; rw [if_neg (by omega)])
  obtain ⟨rc2, rm, e1b, e2, hI2, h1⟩ := hst M (offM 455 M1) hI1 hM (okM_off hMM 455)
  cases e1.symm.trans e1b
  refine s_load0 X 2 rfl dL_law_1513 ?_
  refine s_callVH (As := []) X cw_L_252 SHL_455 rfl dL_law_1514 (con_M (As := [VR 0]) nrI (L_M_erase (offG G 455) (offM 455 M1) rm e2)) rfl ⟨Nat.le_of_ble_eq_true rfl, Nat.le_of_ble_eq_true rfl⟩ ⟨by show k + 0 + 0 ≤ 603072; omega, by show n + 0 + 0 ≤ 7223402; omega⟩ (Nat.le_of_ble_eq_true rfl) noX (kkR ?_)
  have g3 := inv_put hIC (M1 := M1) hI2 (fun c hl i => by rw [hM1]; unfold putM; rw [if_pos ⟨by omega, by omega⟩, Nat.sub_zero])
  show J SHL G room_1 (.inr Q) C (k + 0) (n + 0) 1517 [(0, VR 491), (1, VR 0), (2, VR 455), (3, VR 489), (4, VR 490), (5, VI i)] [VI rm.1, VI rc.1] (putM 455 34 M1 rm.2)
  rw [h1]
  refine s_icmpeq_t (tgt := 3989) X dL_law_1517 (by omega) (fun _ => ?_) (fun q => absurd rfl q)
  exact s_le (by omega) (by omega) (hnx _ g3)
set_option maxRecDepth 20000 in
set_option maxHeartbeats 4000000 in
theorem T_readRow {G : Gl} {C : Ct} {b Ls : Nat} {xs : Nat → Int32} {Q : Ct → State → Prop} {Inv : Mem → Mem → Prop} {k n : Nat} {i : Int} {M : Mem} (LC : LawC G C b Ls xs) (hIC : InvC Inv) (hst : ST_readRow Inv) (h0 : 0 ≤ i) (h6 : i + 6 ≤ Ls) (hk : k + 100 ≤ 603072) (hn : n + 600 ≤ 7223402) (hI : Inv M (offM 455 M)) (hnx : ∀ M2 : Mem, Inv M2 (offM 455 M2) → J SHL G room_1 (.inr Q) C (k + 100) (n + 600) 3989 (L0 i) [] M2) : J SHL G room_1 (.inr Q) C k n 1522 (L0 i) [] M := by
  obtain ⟨X, nc, hsc, hz, hL⟩ := LC
  have hL9 : (Ls : Int) ≤ 3072 := by omega
  refine s_ok (fun _ _ hM => ?_)
  refine s_load0 X 1 rfl dL_law_1522 ?_
  refine s_load0 X 3 rfl dL_law_1523 ?_
  obtain ⟨rc, rm0, e1, -, -, f1, f2⟩ := hst M (offM 455 M) hI hM (okM_off hM 455) 
  have hH := H_readRow G M rc e1 (fun x hx => (f2 x hx).1)
  rw [hout_eq] at hH
  refine s_callSW (As := [VR 0, VR 489]) X nc cwS_L_253 dL_law_1524 hH rfl ⟨Nat.le_of_ble_eq_true rfl, Nat.le_of_ble_eq_true rfl⟩ ⟨by show k + 3 ≤ 603072; omega, by show n + 18 ≤ 7223402; omega⟩ (Nat.le_of_ble_eq_true rfl) noX (kkR ?_)
  obtain ⟨M1, hM1⟩ : ∃ z, z = hmem wrI rc M := ⟨_, rfl⟩
  rw [← hM1]
  obtain ⟨kz, hkz⟩ : ∃ z, z = hcode [0, 4, 1] rc := ⟨_, rfl⟩
  show J SHL G room_1 (.inr Q) C (k + 3) (n + 18) 1527 [(0, VR 491), (1, VR 0), (2, VR 455), (3, VR 489), (4, VR 490), (5, VI i)] [VI (hcode [0, 4, 1] rc)] M1
  refine s_istore X hkz rfl (by omega) dL_law_1527 ?_
  show J SHL G room_1 (.inr Q) C (k + 3) (n + 18) 1529 [(6, VI kz), (0, VR 491), (1, VR 0), (2, VR 455), (3, VR 489), (4, VR 490), (5, VI i)] [] M1
  refine s_ok (fun _ _ hMM => ?_)
  have hI1 : Inv M (offM 455 M1) := inv_mid hIC hI (by rw [hM1]; exact (hmem_lo wrI_lo rc M).2)
  refine s_load0 X 3 rfl dL_law_1529 ?_
  obtain ⟨rc2, rm, e1b, e2, hI2, h1, h2⟩ := hst M (offM 455 M1) hI1 hM (okM_off hMM 455) 
  cases e1.symm.trans e1b
  refine s_callVH (As := []) X cw_L_255 SHL_455 rfl dL_law_1530 (con_M (As := [VR 0]) nrI (L_M_readRow (offG G 455) (offM 455 M1) rm e2)) rfl ⟨Nat.le_of_ble_eq_true rfl, Nat.le_of_ble_eq_true rfl⟩ ⟨by show k + 3 + 0 ≤ 603072; omega, by show n + 18 + 0 ≤ 7223402; omega⟩ (Nat.le_of_ble_eq_true rfl) noX (kkR ?_)
  obtain ⟨g1, g2, g3⟩ := ag_use hIC wrI_lo (M := M) hI2 h1 h2
  rw [← hM1] at g1 g2 g3
  obtain ⟨M2, hM2⟩ : ∃ z, z = putM 455 34 M1 rm.2 := ⟨_, rfl⟩
  rw [← hM2] at g1 g2 g3 ⊢
  rw [← hkz] at g1 g2
  obtain ⟨bz, hbz⟩ : ∃ z, z = rm.1 := ⟨_, rfl⟩
  rw [← hbz] at g2
  show J SHL G room_1 (.inr Q) C (k + 3) (n + 18) 1533 [(6, VI kz), (0, VR 491), (1, VR 0), (2, VR 455), (3, VR 489), (4, VR 490), (5, VI i)] [VI rm.1] M2
  refine s_istore X hbz rfl (by omega) dL_law_1533 ?_
  show J SHL G room_1 (.inr Q) C (k + 3) (n + 18) 1535 [(7, VI bz), (6, VI kz), (0, VR 491), (1, VR 0), (2, VR 455), (3, VR 489), (4, VR 490), (5, VI i)] [] M2
  refine s_load0 X 4 rfl dL_law_1535 ?_
  refine s_callVH (As := []) X cw_L_188 SHL_455 rfl dL_law_1536 (con_Mr (As := [VR 0]) nrI (L_M_thrown (offG G 455) (offM 455 M2) (offM 455 M2 0 0) rfl)) rfl ⟨Nat.le_of_ble_eq_true rfl, Nat.le_of_ble_eq_true rfl⟩ ⟨by show k + 3 + 0 ≤ 603072; omega, by show n + 18 + 0 ≤ 7223402; omega⟩ (Nat.le_of_ble_eq_true rfl) noX (kkR ?_)
  show J SHL G room_1 (.inr Q) C (k + 3) (n + 18) 1539 [(7, VI bz), (6, VI kz), (0, VR 491), (1, VR 0), (2, VR 455), (3, VR 489), (4, VR 490), (5, VI i)] [VI (M2 455 0)] M2
  rw [g1]
  refine s_iload X 1 rfl dL_law_1539 ?_
  refine s_icmpeq_t (tgt := 1546) X dL_law_1541 (by omega) (fun _ => ?_) (fun q => absurd rfl q)
  refine s_iload X 1 rfl dL_law_1546 ?_
  refine s_ifne_t (tgt := 1563) X dL_law_1548 (by omega) (fun _ => ?_) (fun q => ?_)
  · refine s_goto (tgt := 3989) X dL_law_1563 (by omega) ?_
    refine s_loc [2, 3, 4, 5, 6, 7] rfl ?_
    exact s_le (by omega) (by omega) (hnx M2 g3)
  · have hk0 : kz = 0 := by omega
    obtain ⟨hok, hat⟩ := g2 hk0
    refine s_load0 X 5 rfl dL_law_1551 ?_
    refine s_const X (by unfold InR; omega) dL_law_1552 ?_
    refine s_lald X SHL_489 dL_law_1553 ?_
    rw [hat 489 0 (by omega), hat 489 1 (by omega), wrI_at]
    refine s_iload X 0 rfl dL_law_1554 ?_
    refine s_i2l X dL_law_1556 ?_
    refine s_lcmp X dL_law_1557 ?_
    refine s_ifeq_t (tgt := 1563) X dL_law_1558 (by omega) (fun _ => ?_) (fun q => absurd ((lcmpI_0 _ _).mpr rfl) q)
    refine s_goto (tgt := 3989) X dL_law_1563 (by omega) ?_
    refine s_loc [2, 3, 4, 5, 6, 7] rfl ?_
    exact s_le (by omega) (by omega) (hnx M2 g3)
set_option maxRecDepth 20000 in
set_option maxHeartbeats 4000000 in
theorem T_faultAt {G : Gl} {C : Ct} {b Ls : Nat} {xs : Nat → Int32} {Q : Ct → State → Prop} {Inv : Mem → Mem → Prop} {k n : Nat} {i : Int} {M : Mem} (LC : LawC G C b Ls xs) (hIC : InvC Inv) (hst : ST_faultAt Inv) (h0 : 0 ≤ i) (h6 : i + 6 ≤ Ls) (hk : k + 100 ≤ 603072) (hn : n + 600 ≤ 7223402) (hI : Inv M (offM 455 M)) (hnx : ∀ M2 : Mem, Inv M2 (offM 455 M2) → J SHL G room_1 (.inr Q) C (k + 100) (n + 600) 3989 (L0 i) [] M2) : J SHL G room_1 (.inr Q) C k n 1566 (L0 i) [] M := by
  obtain ⟨X, nc, hsc, hz, hL⟩ := LC
  have hL9 : (Ls : Int) ≤ 3072 := by omega
  refine s_ok (fun _ _ hM => ?_)
  refine s_load0 X 1 rfl dL_law_1566 ?_
  refine s_load0 X 3 rfl dL_law_1567 ?_
  obtain ⟨rc, rm0, e1, -, -, f1, f2⟩ := hst M (offM 455 M) hI hM (okM_off hM 455) 
  have hH := H_faultAt G M rc e1 (fun x hx => (f2 x hx).1)
  rw [hout_eq] at hH
  refine s_callSW (As := [VR 0, VR 489]) X nc cwS_L_256 dL_law_1568 hH rfl ⟨Nat.le_of_ble_eq_true rfl, Nat.le_of_ble_eq_true rfl⟩ ⟨by show k + 1 ≤ 603072; omega, by show n + 6 ≤ 7223402; omega⟩ (Nat.le_of_ble_eq_true rfl) noX (kkR ?_)
  obtain ⟨M1, hM1⟩ : ∃ z, z = hmem wrI rc M := ⟨_, rfl⟩
  rw [← hM1]
  obtain ⟨kz, hkz⟩ : ∃ z, z = hcode [5] rc := ⟨_, rfl⟩
  show J SHL G room_1 (.inr Q) C (k + 1) (n + 6) 1571 [(0, VR 491), (1, VR 0), (2, VR 455), (3, VR 489), (4, VR 490), (5, VI i)] [VI (hcode [5] rc)] M1
  refine s_istore X hkz rfl (by omega) dL_law_1571 ?_
  show J SHL G room_1 (.inr Q) C (k + 1) (n + 6) 1573 [(6, VI kz), (0, VR 491), (1, VR 0), (2, VR 455), (3, VR 489), (4, VR 490), (5, VI i)] [] M1
  refine s_ok (fun _ _ hMM => ?_)
  have hI1 : Inv M (offM 455 M1) := inv_mid hIC hI (by rw [hM1]; exact (hmem_lo wrI_lo rc M).2)
  refine s_load0 X 3 rfl dL_law_1573 ?_
  obtain ⟨rc2, rm, e1b, e2, hI2, h1, h2⟩ := hst M (offM 455 M1) hI1 hM (okM_off hMM 455) 
  cases e1.symm.trans e1b
  refine s_callVH (As := []) X cw_L_258 SHL_455 rfl dL_law_1574 (con_M (As := [VR 0]) nrI (L_M_faultAt (offG G 455) (offM 455 M1) rm e2)) rfl ⟨Nat.le_of_ble_eq_true rfl, Nat.le_of_ble_eq_true rfl⟩ ⟨by show k + 1 + 0 ≤ 603072; omega, by show n + 6 + 0 ≤ 7223402; omega⟩ (Nat.le_of_ble_eq_true rfl) noX (kkR ?_)
  obtain ⟨g1, g2, g3⟩ := ag_use hIC wrI_lo (M := M) hI2 h1 h2
  rw [← hM1] at g1 g2 g3
  obtain ⟨M2, hM2⟩ : ∃ z, z = putM 455 34 M1 rm.2 := ⟨_, rfl⟩
  rw [← hM2] at g1 g2 g3 ⊢
  rw [← hkz] at g1 g2
  obtain ⟨bz, hbz⟩ : ∃ z, z = rm.1 := ⟨_, rfl⟩
  rw [← hbz] at g2
  show J SHL G room_1 (.inr Q) C (k + 1) (n + 6) 1577 [(6, VI kz), (0, VR 491), (1, VR 0), (2, VR 455), (3, VR 489), (4, VR 490), (5, VI i)] [VI rm.1] M2
  refine s_istore X hbz rfl (by omega) dL_law_1577 ?_
  show J SHL G room_1 (.inr Q) C (k + 1) (n + 6) 1579 [(7, VI bz), (6, VI kz), (0, VR 491), (1, VR 0), (2, VR 455), (3, VR 489), (4, VR 490), (5, VI i)] [] M2
  refine s_load0 X 4 rfl dL_law_1579 ?_
  refine s_callVH (As := []) X cw_L_188 SHL_455 rfl dL_law_1580 (con_Mr (As := [VR 0]) nrI (L_M_thrown (offG G 455) (offM 455 M2) (offM 455 M2 0 0) rfl)) rfl ⟨Nat.le_of_ble_eq_true rfl, Nat.le_of_ble_eq_true rfl⟩ ⟨by show k + 1 + 0 ≤ 603072; omega, by show n + 6 + 0 ≤ 7223402; omega⟩ (Nat.le_of_ble_eq_true rfl) noX (kkR ?_)
  show J SHL G room_1 (.inr Q) C (k + 1) (n + 6) 1583 [(7, VI bz), (6, VI kz), (0, VR 491), (1, VR 0), (2, VR 455), (3, VR 489), (4, VR 490), (5, VI i)] [VI (M2 455 0)] M2
  rw [g1]
  refine s_iload X 1 rfl dL_law_1583 ?_
  refine s_icmpeq_t (tgt := 1590) X dL_law_1585 (by omega) (fun _ => ?_) (fun q => absurd rfl q)
  refine s_iload X 1 rfl dL_law_1590 ?_
  refine s_ifne_t (tgt := 1607) X dL_law_1592 (by omega) (fun _ => ?_) (fun q => ?_)
  · refine s_goto (tgt := 3989) X dL_law_1607 (by omega) ?_
    refine s_loc [2, 3, 4, 5, 6, 7] rfl ?_
    exact s_le (by omega) (by omega) (hnx M2 g3)
  · have hk0 : kz = 0 := by omega
    obtain ⟨hok, hat⟩ := g2 hk0
    refine s_load0 X 5 rfl dL_law_1595 ?_
    refine s_const X (by unfold InR; omega) dL_law_1596 ?_
    refine s_lald X SHL_489 dL_law_1597 ?_
    rw [hat 489 0 (by omega), hat 489 1 (by omega), wrI_at]
    refine s_iload X 0 rfl dL_law_1598 ?_
    refine s_i2l X dL_law_1600 ?_
    refine s_lcmp X dL_law_1601 ?_
    refine s_ifeq_t (tgt := 1607) X dL_law_1602 (by omega) (fun _ => ?_) (fun q => absurd ((lcmpI_0 _ _).mpr rfl) q)
    refine s_goto (tgt := 3989) X dL_law_1607 (by omega) ?_
    refine s_loc [2, 3, 4, 5, 6, 7] rfl ?_
    exact s_le (by omega) (by omega) (hnx M2 g3)
set_option maxRecDepth 20000 in
set_option maxHeartbeats 4000000 in
theorem T_late {G : Gl} {C : Ct} {b Ls : Nat} {xs : Nat → Int32} {Q : Ct → State → Prop} {Inv : Mem → Mem → Prop} {k n : Nat} {i : Int} {M : Mem} (LC : LawC G C b Ls xs) (hIC : InvC Inv) (hst : ST_late Inv) (h0 : 0 ≤ i) (h6 : i + 6 ≤ Ls) (hk : k + 100 ≤ 603072) (hn : n + 600 ≤ 7223402) (hI : Inv M (offM 455 M)) (hnx : ∀ M2 : Mem, Inv M2 (offM 455 M2) → J SHL G room_1 (.inr Q) C (k + 100) (n + 600) 3989 (L0 i) [] M2) : J SHL G room_1 (.inr Q) C k n 1610 (L0 i) [] M := by
  obtain ⟨X, nc, hsc, hz, hL⟩ := LC
  have hL9 : (Ls : Int) ≤ 3072 := by omega
  refine s_ok (fun _ _ hM => ?_)
  refine s_load0 X 1 rfl dL_law_1610 ?_
  refine s_load0 X 0 rfl dL_law_1611 ?_
  refine s_iload X 5 rfl dL_law_1612 ?_
  refine s_const X (by unfold InR; omega) dL_law_1614 ?_
  refine s_iadd X (by unfold InR; omega) dL_law_1615 ?_
  refine s_sld X hsc hz (by omega) (by omega) dL_law_1616 ?_
  refine s_load0 X 0 rfl dL_law_1617 ?_
  refine s_iload X 5 rfl dL_law_1618 ?_
  refine s_const X (by unfold InR; omega) dL_law_1620 ?_
  refine s_iadd X (by unfold InR; omega) dL_law_1621 ?_
  refine s_sld X hsc hz (by omega) (by omega) dL_law_1622 ?_
  refine s_load0 X 0 rfl dL_law_1623 ?_
  refine s_iload X 5 rfl dL_law_1624 ?_
  refine s_const X (by unfold InR; omega) dL_law_1626 ?_
  refine s_iadd X (by unfold InR; omega) dL_law_1627 ?_
  refine s_sld X hsc hz (by omega) (by omega) dL_law_1628 ?_
  refine s_load0 X 0 rfl dL_law_1629 ?_
  refine s_iload X 5 rfl dL_law_1630 ?_
  refine s_const X (by unfold InR; omega) dL_law_1632 ?_
  refine s_iadd X (by unfold InR; omega) dL_law_1633 ?_
  refine s_sld X hsc hz (by omega) (by omega) dL_law_1634 ?_
  refine s_load0 X 3 rfl dL_law_1635 ?_
  obtain ⟨rc, rm0, e1, -, -, f1, f2⟩ := hst M (offM 455 M) ((xs (i + 1).toNat).toInt) ((xs (i + 2).toNat).toInt) ((xs (i + 3).toNat).toInt) ((xs (i + 4).toNat).toInt) hI hM (okM_off hM 455) (InR_of _) (InR_of _) (InR_of _) (InR_of _)
  have hH := H_late G ((xs (i + 1).toNat).toInt) ((xs (i + 2).toNat).toInt) ((xs (i + 3).toNat).toInt) ((xs (i + 4).toNat).toInt) M rc e1 (fun x hx => (f2 x hx).1)
  rw [hout_eq] at hH
  refine s_callSW (As := [VR 0, VI ((xs (i + 1).toNat).toInt), VI ((xs (i + 2).toNat).toInt), VI ((xs (i + 3).toNat).toInt), VI ((xs (i + 4).toNat).toInt), VR 489]) X nc cwS_L_259 dL_law_1636 hH rfl ⟨Nat.le_of_ble_eq_true rfl, Nat.le_of_ble_eq_true rfl⟩ ⟨by show k + 5 ≤ 603072; omega, by show n + 30 ≤ 7223402; omega⟩ (Nat.le_of_ble_eq_true rfl) noX (kkR ?_)
  obtain ⟨M1, hM1⟩ : ∃ z, z = hmem wrI rc M := ⟨_, rfl⟩
  rw [← hM1]
  obtain ⟨kz, hkz⟩ : ∃ z, z = hcode [2, 0, 1] rc := ⟨_, rfl⟩
  show J SHL G room_1 (.inr Q) C (k + 5) (n + 30) 1639 [(0, VR 491), (1, VR 0), (2, VR 455), (3, VR 489), (4, VR 490), (5, VI i)] [VI (hcode [2, 0, 1] rc)] M1
  refine s_istore X hkz rfl (by omega) dL_law_1639 ?_
  show J SHL G room_1 (.inr Q) C (k + 5) (n + 30) 1641 [(6, VI kz), (0, VR 491), (1, VR 0), (2, VR 455), (3, VR 489), (4, VR 490), (5, VI i)] [] M1
  refine s_ok (fun _ _ hMM => ?_)
  have hI1 : Inv M (offM 455 M1) := inv_mid hIC hI (by rw [hM1]; exact (hmem_lo wrI_lo rc M).2)
  refine s_load0 X 3 rfl dL_law_1641 ?_
  refine s_load0 X 1 rfl dL_law_1642 ?_
  refine s_iload X 6 rfl dL_law_1643 ?_
  refine s_const X (by unfold InR; omega) dL_law_1645 ?_
  refine s_iadd X (by unfold InR; omega) dL_law_1646 ?_
  refine s_sld X hsc hz (by omega) (by omega) dL_law_1647 ?_
  refine s_load0 X 1 rfl dL_law_1648 ?_
  refine s_iload X 6 rfl dL_law_1649 ?_
  refine s_const X (by unfold InR; omega) dL_law_1651 ?_
  refine s_iadd X (by unfold InR; omega) dL_law_1652 ?_
  refine s_sld X hsc hz (by omega) (by omega) dL_law_1653 ?_
  refine s_load0 X 1 rfl dL_law_1654 ?_
  refine s_iload X 6 rfl dL_law_1655 ?_
  refine s_const X (by unfold InR; omega) dL_law_1657 ?_
  refine s_iadd X (by unfold InR; omega) dL_law_1658 ?_
  refine s_sld X hsc hz (by omega) (by omega) dL_law_1659 ?_
  refine s_load0 X 1 rfl dL_law_1660 ?_
  refine s_iload X 6 rfl dL_law_1661 ?_
  refine s_const X (by unfold InR; omega) dL_law_1663 ?_
  refine s_iadd X (by unfold InR; omega) dL_law_1664 ?_
  refine s_sld X hsc hz (by omega) (by omega) dL_law_1665 ?_
  obtain ⟨rc2, rm, e1b, e2, hI2, h1, h2⟩ := hst M (offM 455 M1) ((xs (i + 1).toNat).toInt) ((xs (i + 2).toNat).toInt) ((xs (i + 3).toNat).toInt) ((xs (i + 4).toNat).toInt) hI1 hM (okM_off hMM 455) (InR_of _) (InR_of _) (InR_of _) (InR_of _)
  cases e1.symm.trans e1b
  refine s_callVH (As := [VI ((xs (i + 1).toNat).toInt), VI ((xs (i + 2).toNat).toInt), VI ((xs (i + 3).toNat).toInt), VI ((xs (i + 4).toNat).toInt)]) X cw_L_261 SHL_455 rfl dL_law_1666 (con_M (As := [VR 0, VI ((xs (i + 1).toNat).toInt), VI ((xs (i + 2).toNat).toInt), VI ((xs (i + 3).toNat).toInt), VI ((xs (i + 4).toNat).toInt)]) nrI (L_M_late (offG G 455) ((xs (i + 1).toNat).toInt) ((xs (i + 2).toNat).toInt) ((xs (i + 3).toNat).toInt) ((xs (i + 4).toNat).toInt) (offM 455 M1) rm e2)) rfl ⟨Nat.le_of_ble_eq_true rfl, Nat.le_of_ble_eq_true rfl⟩ ⟨by show k + 5 + 0 ≤ 603072; omega, by show n + 30 + 0 ≤ 7223402; omega⟩ (Nat.le_of_ble_eq_true rfl) noX (kkR ?_)
  obtain ⟨g1, g2, g3⟩ := ag_use hIC wrI_lo (M := M) hI2 h1 h2
  rw [← hM1] at g1 g2 g3
  obtain ⟨M2, hM2⟩ : ∃ z, z = putM 455 34 M1 rm.2 := ⟨_, rfl⟩
  rw [← hM2] at g1 g2 g3 ⊢
  rw [← hkz] at g1 g2
  obtain ⟨bz, hbz⟩ : ∃ z, z = rm.1 := ⟨_, rfl⟩
  rw [← hbz] at g2
  show J SHL G room_1 (.inr Q) C (k + 5) (n + 30) 1669 [(6, VI kz), (0, VR 491), (1, VR 0), (2, VR 455), (3, VR 489), (4, VR 490), (5, VI i)] [VI rm.1] M2
  refine s_istore X hbz rfl (by omega) dL_law_1669 ?_
  show J SHL G room_1 (.inr Q) C (k + 5) (n + 30) 1671 [(7, VI bz), (6, VI kz), (0, VR 491), (1, VR 0), (2, VR 455), (3, VR 489), (4, VR 490), (5, VI i)] [] M2
  refine s_load0 X 4 rfl dL_law_1671 ?_
  refine s_callVH (As := []) X cw_L_188 SHL_455 rfl dL_law_1672 (con_Mr (As := [VR 0]) nrI (L_M_thrown (offG G 455) (offM 455 M2) (offM 455 M2 0 0) rfl)) rfl ⟨Nat.le_of_ble_eq_true rfl, Nat.le_of_ble_eq_true rfl⟩ ⟨by show k + 5 + 0 ≤ 603072; omega, by show n + 30 + 0 ≤ 7223402; omega⟩ (Nat.le_of_ble_eq_true rfl) noX (kkR ?_)
  show J SHL G room_1 (.inr Q) C (k + 5) (n + 30) 1675 [(7, VI bz), (6, VI kz), (0, VR 491), (1, VR 0), (2, VR 455), (3, VR 489), (4, VR 490), (5, VI i)] [VI (M2 455 0)] M2
  rw [g1]
  refine s_iload X 1 rfl dL_law_1675 ?_
  refine s_icmpeq_t (tgt := 1682) X dL_law_1677 (by omega) (fun _ => ?_) (fun q => absurd rfl q)
  refine s_iload X 1 rfl dL_law_1682 ?_
  refine s_ifne_t (tgt := 1699) X dL_law_1684 (by omega) (fun _ => ?_) (fun q => ?_)
  · refine s_goto (tgt := 3989) X dL_law_1699 (by omega) ?_
    refine s_loc [2, 3, 4, 5, 6, 7] rfl ?_
    exact s_le (by omega) (by omega) (hnx M2 g3)
  · have hk0 : kz = 0 := by omega
    obtain ⟨hok, hat⟩ := g2 hk0
    refine s_load0 X 5 rfl dL_law_1687 ?_
    refine s_const X (by unfold InR; omega) dL_law_1688 ?_
    refine s_lald X SHL_489 dL_law_1689 ?_
    rw [hat 489 0 (by omega), hat 489 1 (by omega), wrI_at]
    refine s_iload X 0 rfl dL_law_1690 ?_
    refine s_i2l X dL_law_1692 ?_
    refine s_lcmp X dL_law_1693 ?_
    refine s_ifeq_t (tgt := 1699) X dL_law_1694 (by omega) (fun _ => ?_) (fun q => absurd ((lcmpI_0 _ _).mpr rfl) q)
    refine s_goto (tgt := 3989) X dL_law_1699 (by omega) ?_
    refine s_loc [2, 3, 4, 5, 6, 7] rfl ?_
    exact s_le (by omega) (by omega) (hnx M2 g3)
set_option maxRecDepth 20000 in
set_option maxHeartbeats 4000000 in
theorem T_lateness {G : Gl} {C : Ct} {b Ls : Nat} {xs : Nat → Int32} {Q : Ct → State → Prop} {Inv : Mem → Mem → Prop} {k n : Nat} {i : Int} {M : Mem} (LC : LawC G C b Ls xs) (hIC : InvC Inv) (hst : ST_lateness Inv) (h0 : 0 ≤ i) (h6 : i + 6 ≤ Ls) (hk : k + 100 ≤ 603072) (hn : n + 600 ≤ 7223402) (hI : Inv M (offM 455 M)) (hnx : ∀ M2 : Mem, Inv M2 (offM 455 M2) → J SHL G room_1 (.inr Q) C (k + 100) (n + 600) 3989 (L0 i) [] M2) : J SHL G room_1 (.inr Q) C k n 1702 (L0 i) [] M := by
  obtain ⟨X, nc, hsc, hz, hL⟩ := LC
  have hL9 : (Ls : Int) ≤ 3072 := by omega
  refine s_ok (fun _ _ hM => ?_)
  refine s_load0 X 1 rfl dL_law_1702 ?_
  refine s_load0 X 0 rfl dL_law_1703 ?_
  refine s_iload X 5 rfl dL_law_1704 ?_
  refine s_const X (by unfold InR; omega) dL_law_1706 ?_
  refine s_iadd X (by unfold InR; omega) dL_law_1707 ?_
  refine s_sld X hsc hz (by omega) (by omega) dL_law_1708 ?_
  refine s_load0 X 0 rfl dL_law_1709 ?_
  refine s_iload X 5 rfl dL_law_1710 ?_
  refine s_const X (by unfold InR; omega) dL_law_1712 ?_
  refine s_iadd X (by unfold InR; omega) dL_law_1713 ?_
  refine s_sld X hsc hz (by omega) (by omega) dL_law_1714 ?_
  refine s_load0 X 0 rfl dL_law_1715 ?_
  refine s_iload X 5 rfl dL_law_1716 ?_
  refine s_const X (by unfold InR; omega) dL_law_1718 ?_
  refine s_iadd X (by unfold InR; omega) dL_law_1719 ?_
  refine s_sld X hsc hz (by omega) (by omega) dL_law_1720 ?_
  refine s_load0 X 3 rfl dL_law_1721 ?_
  obtain ⟨rc, rm0, e1, -, -, f1, f2⟩ := hst M (offM 455 M) ((xs (i + 1).toNat).toInt) ((xs (i + 2).toNat).toInt) ((xs (i + 3).toNat).toInt) hI hM (okM_off hM 455) (InR_of _) (InR_of _) (InR_of _)
  have hH := H_lateness G ((xs (i + 1).toNat).toInt) ((xs (i + 2).toNat).toInt) ((xs (i + 3).toNat).toInt) M rc e1 (fun x hx => (f2 x hx).1)
  rw [hout_eq] at hH
  refine s_callSW (As := [VR 0, VI ((xs (i + 1).toNat).toInt), VI ((xs (i + 2).toNat).toInt), VI ((xs (i + 3).toNat).toInt), VR 489]) X nc cwS_L_262 dL_law_1722 hH rfl ⟨Nat.le_of_ble_eq_true rfl, Nat.le_of_ble_eq_true rfl⟩ ⟨by show k + 3 ≤ 603072; omega, by show n + 18 ≤ 7223402; omega⟩ (Nat.le_of_ble_eq_true rfl) noX (kkR ?_)
  obtain ⟨M1, hM1⟩ : ∃ z, z = hmem wrI rc M := ⟨_, rfl⟩
  rw [← hM1]
  obtain ⟨kz, hkz⟩ : ∃ z, z = hcode [2, 0] rc := ⟨_, rfl⟩
  show J SHL G room_1 (.inr Q) C (k + 3) (n + 18) 1725 [(0, VR 491), (1, VR 0), (2, VR 455), (3, VR 489), (4, VR 490), (5, VI i)] [VI (hcode [2, 0] rc)] M1
  refine s_istore X hkz rfl (by omega) dL_law_1725 ?_
  show J SHL G room_1 (.inr Q) C (k + 3) (n + 18) 1727 [(6, VI kz), (0, VR 491), (1, VR 0), (2, VR 455), (3, VR 489), (4, VR 490), (5, VI i)] [] M1
  refine s_ok (fun _ _ hMM => ?_)
  have hI1 : Inv M (offM 455 M1) := inv_mid hIC hI (by rw [hM1]; exact (hmem_lo wrI_lo rc M).2)
  refine s_load0 X 3 rfl dL_law_1727 ?_
  refine s_load0 X 1 rfl dL_law_1728 ?_
  refine s_iload X 6 rfl dL_law_1729 ?_
  refine s_const X (by unfold InR; omega) dL_law_1731 ?_
  refine s_iadd X (by unfold InR; omega) dL_law_1732 ?_
  refine s_sld X hsc hz (by omega) (by omega) dL_law_1733 ?_
  refine s_load0 X 1 rfl dL_law_1734 ?_
  refine s_iload X 6 rfl dL_law_1735 ?_
  refine s_const X (by unfold InR; omega) dL_law_1737 ?_
  refine s_iadd X (by unfold InR; omega) dL_law_1738 ?_
  refine s_sld X hsc hz (by omega) (by omega) dL_law_1739 ?_
  refine s_load0 X 1 rfl dL_law_1740 ?_
  refine s_iload X 6 rfl dL_law_1741 ?_
  refine s_const X (by unfold InR; omega) dL_law_1743 ?_
  refine s_iadd X (by unfold InR; omega) dL_law_1744 ?_
  refine s_sld X hsc hz (by omega) (by omega) dL_law_1745 ?_
  obtain ⟨rc2, rm, e1b, e2, hI2, h1, h2⟩ := hst M (offM 455 M1) ((xs (i + 1).toNat).toInt) ((xs (i + 2).toNat).toInt) ((xs (i + 3).toNat).toInt) hI1 hM (okM_off hMM 455) (InR_of _) (InR_of _) (InR_of _)
  cases e1.symm.trans e1b
  refine s_callVH (As := [VI ((xs (i + 1).toNat).toInt), VI ((xs (i + 2).toNat).toInt), VI ((xs (i + 3).toNat).toInt)]) X cw_L_264 SHL_455 rfl dL_law_1746 (con_M (As := [VR 0, VI ((xs (i + 1).toNat).toInt), VI ((xs (i + 2).toNat).toInt), VI ((xs (i + 3).toNat).toInt)]) nrI (L_M_lateness (offG G 455) ((xs (i + 1).toNat).toInt) ((xs (i + 2).toNat).toInt) ((xs (i + 3).toNat).toInt) (offM 455 M1) rm e2)) rfl ⟨Nat.le_of_ble_eq_true rfl, Nat.le_of_ble_eq_true rfl⟩ ⟨by show k + 3 + 0 ≤ 603072; omega, by show n + 18 + 0 ≤ 7223402; omega⟩ (Nat.le_of_ble_eq_true rfl) noX (kkR ?_)
  obtain ⟨g1, g2, g3⟩ := ag_use hIC wrI_lo (M := M) hI2 h1 h2
  rw [← hM1] at g1 g2 g3
  obtain ⟨M2, hM2⟩ : ∃ z, z = putM 455 34 M1 rm.2 := ⟨_, rfl⟩
  rw [← hM2] at g1 g2 g3 ⊢
  rw [← hkz] at g1 g2
  obtain ⟨bz, hbz⟩ : ∃ z, z = rm.1 := ⟨_, rfl⟩
  rw [← hbz] at g2
  show J SHL G room_1 (.inr Q) C (k + 3) (n + 18) 1749 [(6, VI kz), (0, VR 491), (1, VR 0), (2, VR 455), (3, VR 489), (4, VR 490), (5, VI i)] [VI rm.1] M2
  refine s_istore X hbz rfl (by omega) dL_law_1749 ?_
  show J SHL G room_1 (.inr Q) C (k + 3) (n + 18) 1751 [(7, VI bz), (6, VI kz), (0, VR 491), (1, VR 0), (2, VR 455), (3, VR 489), (4, VR 490), (5, VI i)] [] M2
  refine s_load0 X 4 rfl dL_law_1751 ?_
  refine s_callVH (As := []) X cw_L_188 SHL_455 rfl dL_law_1752 (con_Mr (As := [VR 0]) nrI (L_M_thrown (offG G 455) (offM 455 M2) (offM 455 M2 0 0) rfl)) rfl ⟨Nat.le_of_ble_eq_true rfl, Nat.le_of_ble_eq_true rfl⟩ ⟨by show k + 3 + 0 ≤ 603072; omega, by show n + 18 + 0 ≤ 7223402; omega⟩ (Nat.le_of_ble_eq_true rfl) noX (kkR ?_)
  show J SHL G room_1 (.inr Q) C (k + 3) (n + 18) 1755 [(7, VI bz), (6, VI kz), (0, VR 491), (1, VR 0), (2, VR 455), (3, VR 489), (4, VR 490), (5, VI i)] [VI (M2 455 0)] M2
  rw [g1]
  refine s_iload X 1 rfl dL_law_1755 ?_
  refine s_icmpeq_t (tgt := 1762) X dL_law_1757 (by omega) (fun _ => ?_) (fun q => absurd rfl q)
  refine s_iload X 1 rfl dL_law_1762 ?_
  refine s_ifne_t (tgt := 1779) X dL_law_1764 (by omega) (fun _ => ?_) (fun q => ?_)
  · refine s_goto (tgt := 3989) X dL_law_1779 (by omega) ?_
    refine s_loc [2, 3, 4, 5, 6, 7] rfl ?_
    exact s_le (by omega) (by omega) (hnx M2 g3)
  · have hk0 : kz = 0 := by omega
    obtain ⟨hok, hat⟩ := g2 hk0
    refine s_load0 X 5 rfl dL_law_1767 ?_
    refine s_const X (by unfold InR; omega) dL_law_1768 ?_
    refine s_lald X SHL_489 dL_law_1769 ?_
    rw [hat 489 0 (by omega), hat 489 1 (by omega), wrI_at]
    refine s_iload X 0 rfl dL_law_1770 ?_
    refine s_i2l X dL_law_1772 ?_
    refine s_lcmp X dL_law_1773 ?_
    refine s_ifeq_t (tgt := 1779) X dL_law_1774 (by omega) (fun _ => ?_) (fun q => absurd ((lcmpI_0 _ _).mpr rfl) q)
    refine s_goto (tgt := 3989) X dL_law_1779 (by omega) ?_
    refine s_loc [2, 3, 4, 5, 6, 7] rfl ?_
    exact s_le (by omega) (by omega) (hnx M2 g3)
set_option maxRecDepth 20000 in
set_option maxHeartbeats 4000000 in
theorem T_onTime {G : Gl} {C : Ct} {b Ls : Nat} {xs : Nat → Int32} {Q : Ct → State → Prop} {Inv : Mem → Mem → Prop} {k n : Nat} {i : Int} {M : Mem} (LC : LawC G C b Ls xs) (hIC : InvC Inv) (hst : ST_onTime Inv) (h0 : 0 ≤ i) (h6 : i + 6 ≤ Ls) (hk : k + 100 ≤ 603072) (hn : n + 600 ≤ 7223402) (hI : Inv M (offM 455 M)) (hnx : ∀ M2 : Mem, Inv M2 (offM 455 M2) → J SHL G room_1 (.inr Q) C (k + 100) (n + 600) 3989 (L0 i) [] M2) : J SHL G room_1 (.inr Q) C k n 1782 (L0 i) [] M := by
  obtain ⟨X, nc, hsc, hz, hL⟩ := LC
  have hL9 : (Ls : Int) ≤ 3072 := by omega
  refine s_ok (fun _ _ hM => ?_)
  refine s_load0 X 1 rfl dL_law_1782 ?_
  obtain ⟨rc, rm0, e1, -, -, -⟩ := hst M (offM 455 M) hI hM (okM_off hM 455)
  refine s_callVH (As := []) X cw_L_265 SHL_0 rfl dL_law_1783 (con_C (L_C_onTime G M rc e1)) rfl ⟨Nat.le_of_ble_eq_true rfl, Nat.le_of_ble_eq_true rfl⟩ ⟨by show k + 0 ≤ 603072; omega, by show n + 0 ≤ 7223402; omega⟩ (Nat.le_of_ble_eq_true rfl) noX (kkR ?_)
  obtain ⟨M1, hM1⟩ : ∃ z, z = putM 0 455 M rc.2 := ⟨_, rfl⟩
  show J SHL G room_1 (.inr Q) C (k + 0) (n + 0) 1786 [(0, VR 491), (1, VR 0), (2, VR 455), (3, VR 489), (4, VR 490), (5, VI i)] [VI rc.1] (putM 0 455 M rc.2)
  rw [← hM1]
  refine s_ok (fun _ _ hMM => ?_)
  have hI1 : Inv M (offM 455 M1) := inv_mid hIC hI (fun c c1 c2 i => by rw [hM1]; unfold putM; rw [if_neg (by omega)])
  obtain ⟨rc2, rm, e1b, e2, hI2, h1⟩ := hst M (offM 455 M1) hI1 hM (okM_off hMM 455)
  cases e1.symm.trans e1b
  refine s_load0 X 2 rfl dL_law_1786 ?_
  refine s_callVH (As := []) X cw_L_268 SHL_455 rfl dL_law_1787 (con_M (As := [VR 0]) nrI (L_M_onTime (offG G 455) (offM 455 M1) rm e2)) rfl ⟨Nat.le_of_ble_eq_true rfl, Nat.le_of_ble_eq_true rfl⟩ ⟨by show k + 0 + 0 ≤ 603072; omega, by show n + 0 + 0 ≤ 7223402; omega⟩ (Nat.le_of_ble_eq_true rfl) noX (kkR ?_)
  have g3 := inv_put hIC (M1 := M1) hI2 (fun c hl i => by rw [hM1]; unfold putM; rw [if_pos ⟨by omega, by omega⟩, Nat.sub_zero])
  show J SHL G room_1 (.inr Q) C (k + 0) (n + 0) 1790 [(0, VR 491), (1, VR 0), (2, VR 455), (3, VR 489), (4, VR 490), (5, VI i)] [VI rm.1, VI rc.1] (putM 455 34 M1 rm.2)
  rw [h1]
  refine s_icmpeq_t (tgt := 3989) X dL_law_1790 (by omega) (fun _ => ?_) (fun q => absurd rfl q)
  exact s_le (by omega) (by omega) (hnx _ g3)
set_option maxRecDepth 20000 in
set_option maxHeartbeats 4000000 in
theorem T_earliest {G : Gl} {C : Ct} {b Ls : Nat} {xs : Nat → Int32} {Q : Ct → State → Prop} {Inv : Mem → Mem → Prop} {k n : Nat} {i : Int} {M : Mem} (LC : LawC G C b Ls xs) (hIC : InvC Inv) (hst : ST_earliest Inv) (h0 : 0 ≤ i) (h6 : i + 6 ≤ Ls) (hk : k + 100 ≤ 603072) (hn : n + 600 ≤ 7223402) (hI : Inv M (offM 455 M)) (hnx : ∀ M2 : Mem, Inv M2 (offM 455 M2) → J SHL G room_1 (.inr Q) C (k + 100) (n + 600) 3989 (L0 i) [] M2) : J SHL G room_1 (.inr Q) C k n 1795 (L0 i) [] M := by
  obtain ⟨X, nc, hsc, hz, hL⟩ := LC
  have hL9 : (Ls : Int) ≤ 3072 := by omega
  refine s_ok (fun _ _ hM => ?_)
  refine s_load0 X 1 rfl dL_law_1795 ?_
  refine s_load0 X 0 rfl dL_law_1796 ?_
  refine s_iload X 5 rfl dL_law_1797 ?_
  refine s_const X (by unfold InR; omega) dL_law_1799 ?_
  refine s_iadd X (by unfold InR; omega) dL_law_1800 ?_
  refine s_sld X hsc hz (by omega) (by omega) dL_law_1801 ?_
  refine s_load0 X 0 rfl dL_law_1802 ?_
  refine s_iload X 5 rfl dL_law_1803 ?_
  refine s_const X (by unfold InR; omega) dL_law_1805 ?_
  refine s_iadd X (by unfold InR; omega) dL_law_1806 ?_
  refine s_sld X hsc hz (by omega) (by omega) dL_law_1807 ?_
  refine s_load0 X 0 rfl dL_law_1808 ?_
  refine s_iload X 5 rfl dL_law_1809 ?_
  refine s_const X (by unfold InR; omega) dL_law_1811 ?_
  refine s_iadd X (by unfold InR; omega) dL_law_1812 ?_
  refine s_sld X hsc hz (by omega) (by omega) dL_law_1813 ?_
  refine s_load0 X 0 rfl dL_law_1814 ?_
  refine s_iload X 5 rfl dL_law_1815 ?_
  refine s_const X (by unfold InR; omega) dL_law_1817 ?_
  refine s_iadd X (by unfold InR; omega) dL_law_1818 ?_
  refine s_sld X hsc hz (by omega) (by omega) dL_law_1819 ?_
  refine s_load0 X 3 rfl dL_law_1820 ?_
  obtain ⟨rc, rm0, e1, -, -, f1, f2⟩ := hst M (offM 455 M) ((xs (i + 1).toNat).toInt) ((xs (i + 2).toNat).toInt) ((xs (i + 3).toNat).toInt) ((xs (i + 4).toNat).toInt) hI hM (okM_off hM 455) (InR_of _) (InR_of _) (InR_of _) (InR_of _)
  have hH := H_earliest G ((xs (i + 1).toNat).toInt) ((xs (i + 2).toNat).toInt) ((xs (i + 3).toNat).toInt) ((xs (i + 4).toNat).toInt) M rc e1 (fun x hx => (f2 x hx).1)
  rw [hout_eq] at hH
  refine s_callSW (As := [VR 0, VI ((xs (i + 1).toNat).toInt), VI ((xs (i + 2).toNat).toInt), VI ((xs (i + 3).toNat).toInt), VI ((xs (i + 4).toNat).toInt), VR 489]) X nc cwS_L_269 dL_law_1821 hH rfl ⟨Nat.le_of_ble_eq_true rfl, Nat.le_of_ble_eq_true rfl⟩ ⟨by show k + 5 ≤ 603072; omega, by show n + 30 ≤ 7223402; omega⟩ (Nat.le_of_ble_eq_true rfl) noX (kkR ?_)
  obtain ⟨M1, hM1⟩ : ∃ z, z = hmem wrI rc M := ⟨_, rfl⟩
  rw [← hM1]
  obtain ⟨kz, hkz⟩ : ∃ z, z = hcode [2, 0, 5] rc := ⟨_, rfl⟩
  show J SHL G room_1 (.inr Q) C (k + 5) (n + 30) 1824 [(0, VR 491), (1, VR 0), (2, VR 455), (3, VR 489), (4, VR 490), (5, VI i)] [VI (hcode [2, 0, 5] rc)] M1
  refine s_istore X hkz rfl (by omega) dL_law_1824 ?_
  show J SHL G room_1 (.inr Q) C (k + 5) (n + 30) 1826 [(6, VI kz), (0, VR 491), (1, VR 0), (2, VR 455), (3, VR 489), (4, VR 490), (5, VI i)] [] M1
  refine s_ok (fun _ _ hMM => ?_)
  have hI1 : Inv M (offM 455 M1) := inv_mid hIC hI (by rw [hM1]; exact (hmem_lo wrI_lo rc M).2)
  refine s_load0 X 3 rfl dL_law_1826 ?_
  refine s_load0 X 1 rfl dL_law_1827 ?_
  refine s_iload X 6 rfl dL_law_1828 ?_
  refine s_const X (by unfold InR; omega) dL_law_1830 ?_
  refine s_iadd X (by unfold InR; omega) dL_law_1831 ?_
  refine s_sld X hsc hz (by omega) (by omega) dL_law_1832 ?_
  refine s_load0 X 1 rfl dL_law_1833 ?_
  refine s_iload X 6 rfl dL_law_1834 ?_
  refine s_const X (by unfold InR; omega) dL_law_1836 ?_
  refine s_iadd X (by unfold InR; omega) dL_law_1837 ?_
  refine s_sld X hsc hz (by omega) (by omega) dL_law_1838 ?_
  refine s_load0 X 1 rfl dL_law_1839 ?_
  refine s_iload X 6 rfl dL_law_1840 ?_
  refine s_const X (by unfold InR; omega) dL_law_1842 ?_
  refine s_iadd X (by unfold InR; omega) dL_law_1843 ?_
  refine s_sld X hsc hz (by omega) (by omega) dL_law_1844 ?_
  refine s_load0 X 1 rfl dL_law_1845 ?_
  refine s_iload X 6 rfl dL_law_1846 ?_
  refine s_const X (by unfold InR; omega) dL_law_1848 ?_
  refine s_iadd X (by unfold InR; omega) dL_law_1849 ?_
  refine s_sld X hsc hz (by omega) (by omega) dL_law_1850 ?_
  obtain ⟨rc2, rm, e1b, e2, hI2, h1, h2⟩ := hst M (offM 455 M1) ((xs (i + 1).toNat).toInt) ((xs (i + 2).toNat).toInt) ((xs (i + 3).toNat).toInt) ((xs (i + 4).toNat).toInt) hI1 hM (okM_off hMM 455) (InR_of _) (InR_of _) (InR_of _) (InR_of _)
  cases e1.symm.trans e1b
  refine s_callVH (As := [VI ((xs (i + 1).toNat).toInt), VI ((xs (i + 2).toNat).toInt), VI ((xs (i + 3).toNat).toInt), VI ((xs (i + 4).toNat).toInt)]) X cw_L_271 SHL_455 rfl dL_law_1851 (con_M (As := [VR 0, VI ((xs (i + 1).toNat).toInt), VI ((xs (i + 2).toNat).toInt), VI ((xs (i + 3).toNat).toInt), VI ((xs (i + 4).toNat).toInt)]) nrI (L_M_earliest (offG G 455) ((xs (i + 1).toNat).toInt) ((xs (i + 2).toNat).toInt) ((xs (i + 3).toNat).toInt) ((xs (i + 4).toNat).toInt) (offM 455 M1) rm e2)) rfl ⟨Nat.le_of_ble_eq_true rfl, Nat.le_of_ble_eq_true rfl⟩ ⟨by show k + 5 + 0 ≤ 603072; omega, by show n + 30 + 0 ≤ 7223402; omega⟩ (Nat.le_of_ble_eq_true rfl) noX (kkR ?_)
  obtain ⟨g1, g2, g3⟩ := ag_use hIC wrI_lo (M := M) hI2 h1 h2
  rw [← hM1] at g1 g2 g3
  obtain ⟨M2, hM2⟩ : ∃ z, z = putM 455 34 M1 rm.2 := ⟨_, rfl⟩
  rw [← hM2] at g1 g2 g3 ⊢
  rw [← hkz] at g1 g2
  obtain ⟨bz, hbz⟩ : ∃ z, z = rm.1 := ⟨_, rfl⟩
  rw [← hbz] at g2
  show J SHL G room_1 (.inr Q) C (k + 5) (n + 30) 1854 [(6, VI kz), (0, VR 491), (1, VR 0), (2, VR 455), (3, VR 489), (4, VR 490), (5, VI i)] [VI rm.1] M2
  refine s_istore X hbz rfl (by omega) dL_law_1854 ?_
  show J SHL G room_1 (.inr Q) C (k + 5) (n + 30) 1856 [(7, VI bz), (6, VI kz), (0, VR 491), (1, VR 0), (2, VR 455), (3, VR 489), (4, VR 490), (5, VI i)] [] M2
  refine s_load0 X 4 rfl dL_law_1856 ?_
  refine s_callVH (As := []) X cw_L_188 SHL_455 rfl dL_law_1857 (con_Mr (As := [VR 0]) nrI (L_M_thrown (offG G 455) (offM 455 M2) (offM 455 M2 0 0) rfl)) rfl ⟨Nat.le_of_ble_eq_true rfl, Nat.le_of_ble_eq_true rfl⟩ ⟨by show k + 5 + 0 ≤ 603072; omega, by show n + 30 + 0 ≤ 7223402; omega⟩ (Nat.le_of_ble_eq_true rfl) noX (kkR ?_)
  show J SHL G room_1 (.inr Q) C (k + 5) (n + 30) 1860 [(7, VI bz), (6, VI kz), (0, VR 491), (1, VR 0), (2, VR 455), (3, VR 489), (4, VR 490), (5, VI i)] [VI (M2 455 0)] M2
  rw [g1]
  refine s_iload X 1 rfl dL_law_1860 ?_
  refine s_icmpeq_t (tgt := 1867) X dL_law_1862 (by omega) (fun _ => ?_) (fun q => absurd rfl q)
  refine s_iload X 1 rfl dL_law_1867 ?_
  refine s_ifne_t (tgt := 1884) X dL_law_1869 (by omega) (fun _ => ?_) (fun q => ?_)
  · refine s_goto (tgt := 3989) X dL_law_1884 (by omega) ?_
    refine s_loc [2, 3, 4, 5, 6, 7] rfl ?_
    exact s_le (by omega) (by omega) (hnx M2 g3)
  · have hk0 : kz = 0 := by omega
    obtain ⟨hok, hat⟩ := g2 hk0
    refine s_load0 X 5 rfl dL_law_1872 ?_
    refine s_const X (by unfold InR; omega) dL_law_1873 ?_
    refine s_lald X SHL_489 dL_law_1874 ?_
    rw [hat 489 0 (by omega), hat 489 1 (by omega), wrI_at]
    refine s_iload X 0 rfl dL_law_1875 ?_
    refine s_i2l X dL_law_1877 ?_
    refine s_lcmp X dL_law_1878 ?_
    refine s_ifeq_t (tgt := 1884) X dL_law_1879 (by omega) (fun _ => ?_) (fun q => absurd ((lcmpI_0 _ _).mpr rfl) q)
    refine s_goto (tgt := 3989) X dL_law_1884 (by omega) ?_
    refine s_loc [2, 3, 4, 5, 6, 7] rfl ?_
    exact s_le (by omega) (by omega) (hnx M2 g3)
set_option maxRecDepth 20000 in
set_option maxHeartbeats 4000000 in
theorem T_earliestByQueue {G : Gl} {C : Ct} {b Ls : Nat} {xs : Nat → Int32} {Q : Ct → State → Prop} {Inv : Mem → Mem → Prop} {k n : Nat} {i : Int} {M : Mem} (LC : LawC G C b Ls xs) (hIC : InvC Inv) (hst : ST_earliestByQueue Inv) (h0 : 0 ≤ i) (h6 : i + 6 ≤ Ls) (hk : k + 100 ≤ 603072) (hn : n + 600 ≤ 7223402) (hI : Inv M (offM 455 M)) (hnx : ∀ M2 : Mem, Inv M2 (offM 455 M2) → J SHL G room_1 (.inr Q) C (k + 100) (n + 600) 3989 (L0 i) [] M2) : J SHL G room_1 (.inr Q) C k n 1887 (L0 i) [] M := by
  obtain ⟨X, nc, hsc, hz, hL⟩ := LC
  have hL9 : (Ls : Int) ≤ 3072 := by omega
  refine s_ok (fun _ _ hM => ?_)
  refine s_load0 X 1 rfl dL_law_1887 ?_
  refine s_load0 X 0 rfl dL_law_1888 ?_
  refine s_iload X 5 rfl dL_law_1889 ?_
  refine s_const X (by unfold InR; omega) dL_law_1891 ?_
  refine s_iadd X (by unfold InR; omega) dL_law_1892 ?_
  refine s_sld X hsc hz (by omega) (by omega) dL_law_1893 ?_
  refine s_load0 X 0 rfl dL_law_1894 ?_
  refine s_iload X 5 rfl dL_law_1895 ?_
  refine s_const X (by unfold InR; omega) dL_law_1897 ?_
  refine s_iadd X (by unfold InR; omega) dL_law_1898 ?_
  refine s_sld X hsc hz (by omega) (by omega) dL_law_1899 ?_
  refine s_load0 X 0 rfl dL_law_1900 ?_
  refine s_iload X 5 rfl dL_law_1901 ?_
  refine s_const X (by unfold InR; omega) dL_law_1903 ?_
  refine s_iadd X (by unfold InR; omega) dL_law_1904 ?_
  refine s_sld X hsc hz (by omega) (by omega) dL_law_1905 ?_
  refine s_load0 X 0 rfl dL_law_1906 ?_
  refine s_iload X 5 rfl dL_law_1907 ?_
  refine s_const X (by unfold InR; omega) dL_law_1909 ?_
  refine s_iadd X (by unfold InR; omega) dL_law_1910 ?_
  refine s_sld X hsc hz (by omega) (by omega) dL_law_1911 ?_
  refine s_load0 X 3 rfl dL_law_1912 ?_
  obtain ⟨rc, rm0, e1, -, -, f1, f2⟩ := hst M (offM 455 M) ((xs (i + 1).toNat).toInt) ((xs (i + 2).toNat).toInt) ((xs (i + 3).toNat).toInt) ((xs (i + 4).toNat).toInt) hI hM (okM_off hM 455) (InR_of _) (InR_of _) (InR_of _) (InR_of _)
  have hH := H_earliestByQueue G ((xs (i + 1).toNat).toInt) ((xs (i + 2).toNat).toInt) ((xs (i + 3).toNat).toInt) ((xs (i + 4).toNat).toInt) M rc e1 (fun x hx => (f2 x hx).1)
  rw [hout_eq] at hH
  refine s_callSW (As := [VR 0, VI ((xs (i + 1).toNat).toInt), VI ((xs (i + 2).toNat).toInt), VI ((xs (i + 3).toNat).toInt), VI ((xs (i + 4).toNat).toInt), VR 489]) X nc cwS_L_272 dL_law_1913 hH rfl ⟨Nat.le_of_ble_eq_true rfl, Nat.le_of_ble_eq_true rfl⟩ ⟨by show k + 5 ≤ 603072; omega, by show n + 30 ≤ 7223402; omega⟩ (Nat.le_of_ble_eq_true rfl) noX (kkR ?_)
  obtain ⟨M1, hM1⟩ : ∃ z, z = hmem wrI rc M := ⟨_, rfl⟩
  rw [← hM1]
  obtain ⟨kz, hkz⟩ : ∃ z, z = hcode [2, 0, 5] rc := ⟨_, rfl⟩
  show J SHL G room_1 (.inr Q) C (k + 5) (n + 30) 1916 [(0, VR 491), (1, VR 0), (2, VR 455), (3, VR 489), (4, VR 490), (5, VI i)] [VI (hcode [2, 0, 5] rc)] M1
  refine s_istore X hkz rfl (by omega) dL_law_1916 ?_
  show J SHL G room_1 (.inr Q) C (k + 5) (n + 30) 1918 [(6, VI kz), (0, VR 491), (1, VR 0), (2, VR 455), (3, VR 489), (4, VR 490), (5, VI i)] [] M1
  refine s_ok (fun _ _ hMM => ?_)
  have hI1 : Inv M (offM 455 M1) := inv_mid hIC hI (by rw [hM1]; exact (hmem_lo wrI_lo rc M).2)
  refine s_load0 X 3 rfl dL_law_1918 ?_
  refine s_load0 X 1 rfl dL_law_1919 ?_
  refine s_iload X 6 rfl dL_law_1920 ?_
  refine s_const X (by unfold InR; omega) dL_law_1922 ?_
  refine s_iadd X (by unfold InR; omega) dL_law_1923 ?_
  refine s_sld X hsc hz (by omega) (by omega) dL_law_1924 ?_
  refine s_load0 X 1 rfl dL_law_1925 ?_
  refine s_iload X 6 rfl dL_law_1926 ?_
  refine s_const X (by unfold InR; omega) dL_law_1928 ?_
  refine s_iadd X (by unfold InR; omega) dL_law_1929 ?_
  refine s_sld X hsc hz (by omega) (by omega) dL_law_1930 ?_
  refine s_load0 X 1 rfl dL_law_1931 ?_
  refine s_iload X 6 rfl dL_law_1932 ?_
  refine s_const X (by unfold InR; omega) dL_law_1934 ?_
  refine s_iadd X (by unfold InR; omega) dL_law_1935 ?_
  refine s_sld X hsc hz (by omega) (by omega) dL_law_1936 ?_
  refine s_load0 X 1 rfl dL_law_1937 ?_
  refine s_iload X 6 rfl dL_law_1938 ?_
  refine s_const X (by unfold InR; omega) dL_law_1940 ?_
  refine s_iadd X (by unfold InR; omega) dL_law_1941 ?_
  refine s_sld X hsc hz (by omega) (by omega) dL_law_1942 ?_
  obtain ⟨rc2, rm, e1b, e2, hI2, h1, h2⟩ := hst M (offM 455 M1) ((xs (i + 1).toNat).toInt) ((xs (i + 2).toNat).toInt) ((xs (i + 3).toNat).toInt) ((xs (i + 4).toNat).toInt) hI1 hM (okM_off hMM 455) (InR_of _) (InR_of _) (InR_of _) (InR_of _)
  cases e1.symm.trans e1b
  refine s_callVH (As := [VI ((xs (i + 1).toNat).toInt), VI ((xs (i + 2).toNat).toInt), VI ((xs (i + 3).toNat).toInt), VI ((xs (i + 4).toNat).toInt)]) X cw_L_274 SHL_455 rfl dL_law_1943 (con_M (As := [VR 0, VI ((xs (i + 1).toNat).toInt), VI ((xs (i + 2).toNat).toInt), VI ((xs (i + 3).toNat).toInt), VI ((xs (i + 4).toNat).toInt)]) nrI (L_M_earliestByQueue (offG G 455) ((xs (i + 1).toNat).toInt) ((xs (i + 2).toNat).toInt) ((xs (i + 3).toNat).toInt) ((xs (i + 4).toNat).toInt) (offM 455 M1) rm e2)) rfl ⟨Nat.le_of_ble_eq_true rfl, Nat.le_of_ble_eq_true rfl⟩ ⟨by show k + 5 + 0 ≤ 603072; omega, by show n + 30 + 0 ≤ 7223402; omega⟩ (Nat.le_of_ble_eq_true rfl) noX (kkR ?_)
  obtain ⟨g1, g2, g3⟩ := ag_use hIC wrI_lo (M := M) hI2 h1 h2
  rw [← hM1] at g1 g2 g3
  obtain ⟨M2, hM2⟩ : ∃ z, z = putM 455 34 M1 rm.2 := ⟨_, rfl⟩
  rw [← hM2] at g1 g2 g3 ⊢
  rw [← hkz] at g1 g2
  obtain ⟨bz, hbz⟩ : ∃ z, z = rm.1 := ⟨_, rfl⟩
  rw [← hbz] at g2
  show J SHL G room_1 (.inr Q) C (k + 5) (n + 30) 1946 [(6, VI kz), (0, VR 491), (1, VR 0), (2, VR 455), (3, VR 489), (4, VR 490), (5, VI i)] [VI rm.1] M2
  refine s_istore X hbz rfl (by omega) dL_law_1946 ?_
  show J SHL G room_1 (.inr Q) C (k + 5) (n + 30) 1948 [(7, VI bz), (6, VI kz), (0, VR 491), (1, VR 0), (2, VR 455), (3, VR 489), (4, VR 490), (5, VI i)] [] M2
  refine s_load0 X 4 rfl dL_law_1948 ?_
  refine s_callVH (As := []) X cw_L_188 SHL_455 rfl dL_law_1949 (con_Mr (As := [VR 0]) nrI (L_M_thrown (offG G 455) (offM 455 M2) (offM 455 M2 0 0) rfl)) rfl ⟨Nat.le_of_ble_eq_true rfl, Nat.le_of_ble_eq_true rfl⟩ ⟨by show k + 5 + 0 ≤ 603072; omega, by show n + 30 + 0 ≤ 7223402; omega⟩ (Nat.le_of_ble_eq_true rfl) noX (kkR ?_)
  show J SHL G room_1 (.inr Q) C (k + 5) (n + 30) 1952 [(7, VI bz), (6, VI kz), (0, VR 491), (1, VR 0), (2, VR 455), (3, VR 489), (4, VR 490), (5, VI i)] [VI (M2 455 0)] M2
  rw [g1]
  refine s_iload X 1 rfl dL_law_1952 ?_
  refine s_icmpeq_t (tgt := 1959) X dL_law_1954 (by omega) (fun _ => ?_) (fun q => absurd rfl q)
  refine s_iload X 1 rfl dL_law_1959 ?_
  refine s_ifne_t (tgt := 1976) X dL_law_1961 (by omega) (fun _ => ?_) (fun q => ?_)
  · refine s_goto (tgt := 3989) X dL_law_1976 (by omega) ?_
    refine s_loc [2, 3, 4, 5, 6, 7] rfl ?_
    exact s_le (by omega) (by omega) (hnx M2 g3)
  · have hk0 : kz = 0 := by omega
    obtain ⟨hok, hat⟩ := g2 hk0
    refine s_load0 X 5 rfl dL_law_1964 ?_
    refine s_const X (by unfold InR; omega) dL_law_1965 ?_
    refine s_lald X SHL_489 dL_law_1966 ?_
    rw [hat 489 0 (by omega), hat 489 1 (by omega), wrI_at]
    refine s_iload X 0 rfl dL_law_1967 ?_
    refine s_i2l X dL_law_1969 ?_
    refine s_lcmp X dL_law_1970 ?_
    refine s_ifeq_t (tgt := 1976) X dL_law_1971 (by omega) (fun _ => ?_) (fun q => absurd ((lcmpI_0 _ _).mpr rfl) q)
    refine s_goto (tgt := 3989) X dL_law_1976 (by omega) ?_
    refine s_loc [2, 3, 4, 5, 6, 7] rfl ?_
    exact s_le (by omega) (by omega) (hnx M2 g3)
set_option maxRecDepth 20000 in
set_option maxHeartbeats 4000000 in
theorem T_earliestByRounds {G : Gl} {C : Ct} {b Ls : Nat} {xs : Nat → Int32} {Q : Ct → State → Prop} {Inv : Mem → Mem → Prop} {k n : Nat} {i : Int} {M : Mem} (LC : LawC G C b Ls xs) (hIC : InvC Inv) (hst : ST_earliestByRounds Inv) (h0 : 0 ≤ i) (h6 : i + 6 ≤ Ls) (hk : k + 100 ≤ 603072) (hn : n + 600 ≤ 7223402) (hI : Inv M (offM 455 M)) (hnx : ∀ M2 : Mem, Inv M2 (offM 455 M2) → J SHL G room_1 (.inr Q) C (k + 100) (n + 600) 3989 (L0 i) [] M2) : J SHL G room_1 (.inr Q) C k n 1979 (L0 i) [] M := by
  obtain ⟨X, nc, hsc, hz, hL⟩ := LC
  have hL9 : (Ls : Int) ≤ 3072 := by omega
  refine s_ok (fun _ _ hM => ?_)
  refine s_load0 X 1 rfl dL_law_1979 ?_
  refine s_load0 X 0 rfl dL_law_1980 ?_
  refine s_iload X 5 rfl dL_law_1981 ?_
  refine s_const X (by unfold InR; omega) dL_law_1983 ?_
  refine s_iadd X (by unfold InR; omega) dL_law_1984 ?_
  refine s_sld X hsc hz (by omega) (by omega) dL_law_1985 ?_
  refine s_load0 X 0 rfl dL_law_1986 ?_
  refine s_iload X 5 rfl dL_law_1987 ?_
  refine s_const X (by unfold InR; omega) dL_law_1989 ?_
  refine s_iadd X (by unfold InR; omega) dL_law_1990 ?_
  refine s_sld X hsc hz (by omega) (by omega) dL_law_1991 ?_
  refine s_load0 X 0 rfl dL_law_1992 ?_
  refine s_iload X 5 rfl dL_law_1993 ?_
  refine s_const X (by unfold InR; omega) dL_law_1995 ?_
  refine s_iadd X (by unfold InR; omega) dL_law_1996 ?_
  refine s_sld X hsc hz (by omega) (by omega) dL_law_1997 ?_
  refine s_load0 X 0 rfl dL_law_1998 ?_
  refine s_iload X 5 rfl dL_law_1999 ?_
  refine s_const X (by unfold InR; omega) dL_law_2001 ?_
  refine s_iadd X (by unfold InR; omega) dL_law_2002 ?_
  refine s_sld X hsc hz (by omega) (by omega) dL_law_2003 ?_
  refine s_load0 X 3 rfl dL_law_2004 ?_
  obtain ⟨rc, rm0, e1, -, -, f1, f2⟩ := hst M (offM 455 M) ((xs (i + 1).toNat).toInt) ((xs (i + 2).toNat).toInt) ((xs (i + 3).toNat).toInt) ((xs (i + 4).toNat).toInt) hI hM (okM_off hM 455) (InR_of _) (InR_of _) (InR_of _) (InR_of _)
  have hH := H_earliestByRounds G ((xs (i + 1).toNat).toInt) ((xs (i + 2).toNat).toInt) ((xs (i + 3).toNat).toInt) ((xs (i + 4).toNat).toInt) M rc e1 (fun x hx => (f2 x hx).1)
  rw [hout_eq] at hH
  refine s_callSW (As := [VR 0, VI ((xs (i + 1).toNat).toInt), VI ((xs (i + 2).toNat).toInt), VI ((xs (i + 3).toNat).toInt), VI ((xs (i + 4).toNat).toInt), VR 489]) X nc cwS_L_275 dL_law_2005 hH rfl ⟨Nat.le_of_ble_eq_true rfl, Nat.le_of_ble_eq_true rfl⟩ ⟨by show k + 5 ≤ 603072; omega, by show n + 30 ≤ 7223402; omega⟩ (Nat.le_of_ble_eq_true rfl) noX (kkR ?_)
  obtain ⟨M1, hM1⟩ : ∃ z, z = hmem wrI rc M := ⟨_, rfl⟩
  rw [← hM1]
  obtain ⟨kz, hkz⟩ : ∃ z, z = hcode [2, 0, 5] rc := ⟨_, rfl⟩
  show J SHL G room_1 (.inr Q) C (k + 5) (n + 30) 2008 [(0, VR 491), (1, VR 0), (2, VR 455), (3, VR 489), (4, VR 490), (5, VI i)] [VI (hcode [2, 0, 5] rc)] M1
  refine s_istore X hkz rfl (by omega) dL_law_2008 ?_
  show J SHL G room_1 (.inr Q) C (k + 5) (n + 30) 2010 [(6, VI kz), (0, VR 491), (1, VR 0), (2, VR 455), (3, VR 489), (4, VR 490), (5, VI i)] [] M1
  refine s_ok (fun _ _ hMM => ?_)
  have hI1 : Inv M (offM 455 M1) := inv_mid hIC hI (by rw [hM1]; exact (hmem_lo wrI_lo rc M).2)
  refine s_load0 X 3 rfl dL_law_2010 ?_
  refine s_load0 X 1 rfl dL_law_2011 ?_
  refine s_iload X 6 rfl dL_law_2012 ?_
  refine s_const X (by unfold InR; omega) dL_law_2014 ?_
  refine s_iadd X (by unfold InR; omega) dL_law_2015 ?_
  refine s_sld X hsc hz (by omega) (by omega) dL_law_2016 ?_
  refine s_load0 X 1 rfl dL_law_2017 ?_
  refine s_iload X 6 rfl dL_law_2018 ?_
  refine s_const X (by unfold InR; omega) dL_law_2020 ?_
  refine s_iadd X (by unfold InR; omega) dL_law_2021 ?_
  refine s_sld X hsc hz (by omega) (by omega) dL_law_2022 ?_
  refine s_load0 X 1 rfl dL_law_2023 ?_
  refine s_iload X 6 rfl dL_law_2024 ?_
  refine s_const X (by unfold InR; omega) dL_law_2026 ?_
  refine s_iadd X (by unfold InR; omega) dL_law_2027 ?_
  refine s_sld X hsc hz (by omega) (by omega) dL_law_2028 ?_
  refine s_load0 X 1 rfl dL_law_2029 ?_
  refine s_iload X 6 rfl dL_law_2030 ?_
  refine s_const X (by unfold InR; omega) dL_law_2032 ?_
  refine s_iadd X (by unfold InR; omega) dL_law_2033 ?_
  refine s_sld X hsc hz (by omega) (by omega) dL_law_2034 ?_
  obtain ⟨rc2, rm, e1b, e2, hI2, h1, h2⟩ := hst M (offM 455 M1) ((xs (i + 1).toNat).toInt) ((xs (i + 2).toNat).toInt) ((xs (i + 3).toNat).toInt) ((xs (i + 4).toNat).toInt) hI1 hM (okM_off hMM 455) (InR_of _) (InR_of _) (InR_of _) (InR_of _)
  cases e1.symm.trans e1b
  refine s_callVH (As := [VI ((xs (i + 1).toNat).toInt), VI ((xs (i + 2).toNat).toInt), VI ((xs (i + 3).toNat).toInt), VI ((xs (i + 4).toNat).toInt)]) X cw_L_277 SHL_455 rfl dL_law_2035 (con_M (As := [VR 0, VI ((xs (i + 1).toNat).toInt), VI ((xs (i + 2).toNat).toInt), VI ((xs (i + 3).toNat).toInt), VI ((xs (i + 4).toNat).toInt)]) nrI (L_M_earliestByRounds (offG G 455) ((xs (i + 1).toNat).toInt) ((xs (i + 2).toNat).toInt) ((xs (i + 3).toNat).toInt) ((xs (i + 4).toNat).toInt) (offM 455 M1) rm e2)) rfl ⟨Nat.le_of_ble_eq_true rfl, Nat.le_of_ble_eq_true rfl⟩ ⟨by show k + 5 + 0 ≤ 603072; omega, by show n + 30 + 0 ≤ 7223402; omega⟩ (Nat.le_of_ble_eq_true rfl) noX (kkR ?_)
  obtain ⟨g1, g2, g3⟩ := ag_use hIC wrI_lo (M := M) hI2 h1 h2
  rw [← hM1] at g1 g2 g3
  obtain ⟨M2, hM2⟩ : ∃ z, z = putM 455 34 M1 rm.2 := ⟨_, rfl⟩
  rw [← hM2] at g1 g2 g3 ⊢
  rw [← hkz] at g1 g2
  obtain ⟨bz, hbz⟩ : ∃ z, z = rm.1 := ⟨_, rfl⟩
  rw [← hbz] at g2
  show J SHL G room_1 (.inr Q) C (k + 5) (n + 30) 2038 [(6, VI kz), (0, VR 491), (1, VR 0), (2, VR 455), (3, VR 489), (4, VR 490), (5, VI i)] [VI rm.1] M2
  refine s_istore X hbz rfl (by omega) dL_law_2038 ?_
  show J SHL G room_1 (.inr Q) C (k + 5) (n + 30) 2040 [(7, VI bz), (6, VI kz), (0, VR 491), (1, VR 0), (2, VR 455), (3, VR 489), (4, VR 490), (5, VI i)] [] M2
  refine s_load0 X 4 rfl dL_law_2040 ?_
  refine s_callVH (As := []) X cw_L_188 SHL_455 rfl dL_law_2041 (con_Mr (As := [VR 0]) nrI (L_M_thrown (offG G 455) (offM 455 M2) (offM 455 M2 0 0) rfl)) rfl ⟨Nat.le_of_ble_eq_true rfl, Nat.le_of_ble_eq_true rfl⟩ ⟨by show k + 5 + 0 ≤ 603072; omega, by show n + 30 + 0 ≤ 7223402; omega⟩ (Nat.le_of_ble_eq_true rfl) noX (kkR ?_)
  show J SHL G room_1 (.inr Q) C (k + 5) (n + 30) 2044 [(7, VI bz), (6, VI kz), (0, VR 491), (1, VR 0), (2, VR 455), (3, VR 489), (4, VR 490), (5, VI i)] [VI (M2 455 0)] M2
  rw [g1]
  refine s_iload X 1 rfl dL_law_2044 ?_
  refine s_icmpeq_t (tgt := 2051) X dL_law_2046 (by omega) (fun _ => ?_) (fun q => absurd rfl q)
  refine s_iload X 1 rfl dL_law_2051 ?_
  refine s_ifne_t (tgt := 2068) X dL_law_2053 (by omega) (fun _ => ?_) (fun q => ?_)
  · refine s_goto (tgt := 3989) X dL_law_2068 (by omega) ?_
    refine s_loc [2, 3, 4, 5, 6, 7] rfl ?_
    exact s_le (by omega) (by omega) (hnx M2 g3)
  · have hk0 : kz = 0 := by omega
    obtain ⟨hok, hat⟩ := g2 hk0
    refine s_load0 X 5 rfl dL_law_2056 ?_
    refine s_const X (by unfold InR; omega) dL_law_2057 ?_
    refine s_lald X SHL_489 dL_law_2058 ?_
    rw [hat 489 0 (by omega), hat 489 1 (by omega), wrI_at]
    refine s_iload X 0 rfl dL_law_2059 ?_
    refine s_i2l X dL_law_2061 ?_
    refine s_lcmp X dL_law_2062 ?_
    refine s_ifeq_t (tgt := 2068) X dL_law_2063 (by omega) (fun _ => ?_) (fun q => absurd ((lcmpI_0 _ _).mpr rfl) q)
    refine s_goto (tgt := 3989) X dL_law_2068 (by omega) ?_
    refine s_loc [2, 3, 4, 5, 6, 7] rfl ?_
    exact s_le (by omega) (by omega) (hnx M2 g3)
set_option maxRecDepth 20000 in
set_option maxHeartbeats 4000000 in
theorem T_wall {G : Gl} {C : Ct} {b Ls : Nat} {xs : Nat → Int32} {Q : Ct → State → Prop} {Inv : Mem → Mem → Prop} {k n : Nat} {i : Int} {M : Mem} (LC : LawC G C b Ls xs) (hIC : InvC Inv) (hst : ST_wall Inv) (h0 : 0 ≤ i) (h6 : i + 6 ≤ Ls) (hk : k + 100 ≤ 603072) (hn : n + 600 ≤ 7223402) (hI : Inv M (offM 455 M)) (hnx : ∀ M2 : Mem, Inv M2 (offM 455 M2) → J SHL G room_1 (.inr Q) C (k + 100) (n + 600) 3989 (L0 i) [] M2) : J SHL G room_1 (.inr Q) C k n 2071 (L0 i) [] M := by
  obtain ⟨X, nc, hsc, hz, hL⟩ := LC
  have hL9 : (Ls : Int) ≤ 3072 := by omega
  refine s_ok (fun _ _ hM => ?_)
  refine s_load0 X 1 rfl dL_law_2071 ?_
  refine s_load0 X 0 rfl dL_law_2072 ?_
  refine s_iload X 5 rfl dL_law_2073 ?_
  refine s_const X (by unfold InR; omega) dL_law_2075 ?_
  refine s_iadd X (by unfold InR; omega) dL_law_2076 ?_
  refine s_sld X hsc hz (by omega) (by omega) dL_law_2077 ?_
  refine s_load0 X 0 rfl dL_law_2078 ?_
  refine s_iload X 5 rfl dL_law_2079 ?_
  refine s_const X (by unfold InR; omega) dL_law_2081 ?_
  refine s_iadd X (by unfold InR; omega) dL_law_2082 ?_
  refine s_sld X hsc hz (by omega) (by omega) dL_law_2083 ?_
  refine s_load0 X 0 rfl dL_law_2084 ?_
  refine s_iload X 5 rfl dL_law_2085 ?_
  refine s_const X (by unfold InR; omega) dL_law_2087 ?_
  refine s_iadd X (by unfold InR; omega) dL_law_2088 ?_
  refine s_sld X hsc hz (by omega) (by omega) dL_law_2089 ?_
  refine s_load0 X 0 rfl dL_law_2090 ?_
  refine s_iload X 5 rfl dL_law_2091 ?_
  refine s_const X (by unfold InR; omega) dL_law_2093 ?_
  refine s_iadd X (by unfold InR; omega) dL_law_2094 ?_
  refine s_sld X hsc hz (by omega) (by omega) dL_law_2095 ?_
  refine s_load0 X 3 rfl dL_law_2096 ?_
  obtain ⟨rc, rm0, e1, -, -, f1, f2⟩ := hst M (offM 455 M) ((xs (i + 1).toNat).toInt) ((xs (i + 2).toNat).toInt) ((xs (i + 3).toNat).toInt) ((xs (i + 4).toNat).toInt) hI hM (okM_off hM 455) (InR_of _) (InR_of _) (InR_of _) (InR_of _)
  have hH := H_wall G ((xs (i + 1).toNat).toInt) ((xs (i + 2).toNat).toInt) ((xs (i + 3).toNat).toInt) ((xs (i + 4).toNat).toInt) M rc e1 (fun x hx => (f2 x hx).1)
  rw [hout_eq] at hH
  refine s_callSW (As := [VR 0, VI ((xs (i + 1).toNat).toInt), VI ((xs (i + 2).toNat).toInt), VI ((xs (i + 3).toNat).toInt), VI ((xs (i + 4).toNat).toInt), VR 489]) X nc cwS_L_278 dL_law_2097 hH rfl ⟨Nat.le_of_ble_eq_true rfl, Nat.le_of_ble_eq_true rfl⟩ ⟨by show k + 4 ≤ 603072; omega, by show n + 24 ≤ 7223402; omega⟩ (Nat.le_of_ble_eq_true rfl) noX (kkR ?_)
  obtain ⟨M1, hM1⟩ : ∃ z, z = hmem wrI rc M := ⟨_, rfl⟩
  rw [← hM1]
  obtain ⟨kz, hkz⟩ : ∃ z, z = hcode [2, 0] rc := ⟨_, rfl⟩
  show J SHL G room_1 (.inr Q) C (k + 4) (n + 24) 2100 [(0, VR 491), (1, VR 0), (2, VR 455), (3, VR 489), (4, VR 490), (5, VI i)] [VI (hcode [2, 0] rc)] M1
  refine s_istore X hkz rfl (by omega) dL_law_2100 ?_
  show J SHL G room_1 (.inr Q) C (k + 4) (n + 24) 2102 [(6, VI kz), (0, VR 491), (1, VR 0), (2, VR 455), (3, VR 489), (4, VR 490), (5, VI i)] [] M1
  refine s_ok (fun _ _ hMM => ?_)
  have hI1 : Inv M (offM 455 M1) := inv_mid hIC hI (by rw [hM1]; exact (hmem_lo wrI_lo rc M).2)
  refine s_load0 X 3 rfl dL_law_2102 ?_
  refine s_load0 X 1 rfl dL_law_2103 ?_
  refine s_iload X 6 rfl dL_law_2104 ?_
  refine s_const X (by unfold InR; omega) dL_law_2106 ?_
  refine s_iadd X (by unfold InR; omega) dL_law_2107 ?_
  refine s_sld X hsc hz (by omega) (by omega) dL_law_2108 ?_
  refine s_load0 X 1 rfl dL_law_2109 ?_
  refine s_iload X 6 rfl dL_law_2110 ?_
  refine s_const X (by unfold InR; omega) dL_law_2112 ?_
  refine s_iadd X (by unfold InR; omega) dL_law_2113 ?_
  refine s_sld X hsc hz (by omega) (by omega) dL_law_2114 ?_
  refine s_load0 X 1 rfl dL_law_2115 ?_
  refine s_iload X 6 rfl dL_law_2116 ?_
  refine s_const X (by unfold InR; omega) dL_law_2118 ?_
  refine s_iadd X (by unfold InR; omega) dL_law_2119 ?_
  refine s_sld X hsc hz (by omega) (by omega) dL_law_2120 ?_
  refine s_load0 X 1 rfl dL_law_2121 ?_
  refine s_iload X 6 rfl dL_law_2122 ?_
  refine s_const X (by unfold InR; omega) dL_law_2124 ?_
  refine s_iadd X (by unfold InR; omega) dL_law_2125 ?_
  refine s_sld X hsc hz (by omega) (by omega) dL_law_2126 ?_
  obtain ⟨rc2, rm, e1b, e2, hI2, h1, h2⟩ := hst M (offM 455 M1) ((xs (i + 1).toNat).toInt) ((xs (i + 2).toNat).toInt) ((xs (i + 3).toNat).toInt) ((xs (i + 4).toNat).toInt) hI1 hM (okM_off hMM 455) (InR_of _) (InR_of _) (InR_of _) (InR_of _)
  cases e1.symm.trans e1b
  refine s_callVH (As := [VI ((xs (i + 1).toNat).toInt), VI ((xs (i + 2).toNat).toInt), VI ((xs (i + 3).toNat).toInt), VI ((xs (i + 4).toNat).toInt)]) X cw_L_280 SHL_455 rfl dL_law_2127 (con_M (As := [VR 0, VI ((xs (i + 1).toNat).toInt), VI ((xs (i + 2).toNat).toInt), VI ((xs (i + 3).toNat).toInt), VI ((xs (i + 4).toNat).toInt)]) nrI (L_M_wall (offG G 455) ((xs (i + 1).toNat).toInt) ((xs (i + 2).toNat).toInt) ((xs (i + 3).toNat).toInt) ((xs (i + 4).toNat).toInt) (offM 455 M1) rm e2)) rfl ⟨Nat.le_of_ble_eq_true rfl, Nat.le_of_ble_eq_true rfl⟩ ⟨by show k + 4 + 0 ≤ 603072; omega, by show n + 24 + 0 ≤ 7223402; omega⟩ (Nat.le_of_ble_eq_true rfl) noX (kkR ?_)
  obtain ⟨g1, g2, g3⟩ := ag_use hIC wrI_lo (M := M) hI2 h1 h2
  rw [← hM1] at g1 g2 g3
  obtain ⟨M2, hM2⟩ : ∃ z, z = putM 455 34 M1 rm.2 := ⟨_, rfl⟩
  rw [← hM2] at g1 g2 g3 ⊢
  rw [← hkz] at g1 g2
  obtain ⟨bz, hbz⟩ : ∃ z, z = rm.1 := ⟨_, rfl⟩
  rw [← hbz] at g2
  show J SHL G room_1 (.inr Q) C (k + 4) (n + 24) 2130 [(6, VI kz), (0, VR 491), (1, VR 0), (2, VR 455), (3, VR 489), (4, VR 490), (5, VI i)] [VI rm.1] M2
  refine s_istore X hbz rfl (by omega) dL_law_2130 ?_
  show J SHL G room_1 (.inr Q) C (k + 4) (n + 24) 2132 [(7, VI bz), (6, VI kz), (0, VR 491), (1, VR 0), (2, VR 455), (3, VR 489), (4, VR 490), (5, VI i)] [] M2
  refine s_load0 X 4 rfl dL_law_2132 ?_
  refine s_callVH (As := []) X cw_L_188 SHL_455 rfl dL_law_2133 (con_Mr (As := [VR 0]) nrI (L_M_thrown (offG G 455) (offM 455 M2) (offM 455 M2 0 0) rfl)) rfl ⟨Nat.le_of_ble_eq_true rfl, Nat.le_of_ble_eq_true rfl⟩ ⟨by show k + 4 + 0 ≤ 603072; omega, by show n + 24 + 0 ≤ 7223402; omega⟩ (Nat.le_of_ble_eq_true rfl) noX (kkR ?_)
  show J SHL G room_1 (.inr Q) C (k + 4) (n + 24) 2136 [(7, VI bz), (6, VI kz), (0, VR 491), (1, VR 0), (2, VR 455), (3, VR 489), (4, VR 490), (5, VI i)] [VI (M2 455 0)] M2
  rw [g1]
  refine s_iload X 1 rfl dL_law_2136 ?_
  refine s_icmpeq_t (tgt := 2143) X dL_law_2138 (by omega) (fun _ => ?_) (fun q => absurd rfl q)
  refine s_iload X 1 rfl dL_law_2143 ?_
  refine s_ifne_t (tgt := 2160) X dL_law_2145 (by omega) (fun _ => ?_) (fun q => ?_)
  · refine s_goto (tgt := 3989) X dL_law_2160 (by omega) ?_
    refine s_loc [2, 3, 4, 5, 6, 7] rfl ?_
    exact s_le (by omega) (by omega) (hnx M2 g3)
  · have hk0 : kz = 0 := by omega
    obtain ⟨hok, hat⟩ := g2 hk0
    refine s_load0 X 5 rfl dL_law_2148 ?_
    refine s_const X (by unfold InR; omega) dL_law_2149 ?_
    refine s_lald X SHL_489 dL_law_2150 ?_
    rw [hat 489 0 (by omega), hat 489 1 (by omega), wrI_at]
    refine s_iload X 0 rfl dL_law_2151 ?_
    refine s_i2l X dL_law_2153 ?_
    refine s_lcmp X dL_law_2154 ?_
    refine s_ifeq_t (tgt := 2160) X dL_law_2155 (by omega) (fun _ => ?_) (fun q => absurd ((lcmpI_0 _ _).mpr rfl) q)
    refine s_goto (tgt := 3989) X dL_law_2160 (by omega) ?_
    refine s_loc [2, 3, 4, 5, 6, 7] rfl ?_
    exact s_le (by omega) (by omega) (hnx M2 g3)
set_option maxRecDepth 20000 in
set_option maxHeartbeats 4000000 in
theorem T_last {G : Gl} {C : Ct} {b Ls : Nat} {xs : Nat → Int32} {Q : Ct → State → Prop} {Inv : Mem → Mem → Prop} {k n : Nat} {i : Int} {M : Mem} (LC : LawC G C b Ls xs) (hIC : InvC Inv) (hst : ST_last Inv) (h0 : 0 ≤ i) (h6 : i + 6 ≤ Ls) (hk : k + 100 ≤ 603072) (hn : n + 600 ≤ 7223402) (hI : Inv M (offM 455 M)) (hnx : ∀ M2 : Mem, Inv M2 (offM 455 M2) → J SHL G room_1 (.inr Q) C (k + 100) (n + 600) 3989 (L0 i) [] M2) : J SHL G room_1 (.inr Q) C k n 2163 (L0 i) [] M := by
  obtain ⟨X, nc, hsc, hz, hL⟩ := LC
  have hL9 : (Ls : Int) ≤ 3072 := by omega
  refine s_ok (fun _ _ hM => ?_)
  refine s_load0 X 1 rfl dL_law_2163 ?_
  refine s_load0 X 0 rfl dL_law_2164 ?_
  refine s_iload X 5 rfl dL_law_2165 ?_
  refine s_const X (by unfold InR; omega) dL_law_2167 ?_
  refine s_iadd X (by unfold InR; omega) dL_law_2168 ?_
  refine s_sld X hsc hz (by omega) (by omega) dL_law_2169 ?_
  refine s_load0 X 0 rfl dL_law_2170 ?_
  refine s_iload X 5 rfl dL_law_2171 ?_
  refine s_const X (by unfold InR; omega) dL_law_2173 ?_
  refine s_iadd X (by unfold InR; omega) dL_law_2174 ?_
  refine s_sld X hsc hz (by omega) (by omega) dL_law_2175 ?_
  refine s_load0 X 0 rfl dL_law_2176 ?_
  refine s_iload X 5 rfl dL_law_2177 ?_
  refine s_const X (by unfold InR; omega) dL_law_2179 ?_
  refine s_iadd X (by unfold InR; omega) dL_law_2180 ?_
  refine s_sld X hsc hz (by omega) (by omega) dL_law_2181 ?_
  refine s_load0 X 0 rfl dL_law_2182 ?_
  refine s_iload X 5 rfl dL_law_2183 ?_
  refine s_const X (by unfold InR; omega) dL_law_2185 ?_
  refine s_iadd X (by unfold InR; omega) dL_law_2186 ?_
  refine s_sld X hsc hz (by omega) (by omega) dL_law_2187 ?_
  refine s_load0 X 3 rfl dL_law_2188 ?_
  obtain ⟨rc, rm0, e1, -, -, f1, f2⟩ := hst M (offM 455 M) ((xs (i + 1).toNat).toInt) ((xs (i + 2).toNat).toInt) ((xs (i + 3).toNat).toInt) ((xs (i + 4).toNat).toInt) hI hM (okM_off hM 455) (InR_of _) (InR_of _) (InR_of _) (InR_of _)
  have hH := H_last G ((xs (i + 1).toNat).toInt) ((xs (i + 2).toNat).toInt) ((xs (i + 3).toNat).toInt) ((xs (i + 4).toNat).toInt) M rc e1 (fun x hx => (f2 x hx).1)
  rw [hout_eq] at hH
  refine s_callSW (As := [VR 0, VI ((xs (i + 1).toNat).toInt), VI ((xs (i + 2).toNat).toInt), VI ((xs (i + 3).toNat).toInt), VI ((xs (i + 4).toNat).toInt), VR 489]) X nc cwS_L_281 dL_law_2189 hH rfl ⟨Nat.le_of_ble_eq_true rfl, Nat.le_of_ble_eq_true rfl⟩ ⟨by show k + 5 ≤ 603072; omega, by show n + 30 ≤ 7223402; omega⟩ (Nat.le_of_ble_eq_true rfl) noX (kkR ?_)
  obtain ⟨M1, hM1⟩ : ∃ z, z = hmem wrI rc M := ⟨_, rfl⟩
  rw [← hM1]
  obtain ⟨kz, hkz⟩ : ∃ z, z = hcode [2, 0, 5] rc := ⟨_, rfl⟩
  show J SHL G room_1 (.inr Q) C (k + 5) (n + 30) 2192 [(0, VR 491), (1, VR 0), (2, VR 455), (3, VR 489), (4, VR 490), (5, VI i)] [VI (hcode [2, 0, 5] rc)] M1
  refine s_istore X hkz rfl (by omega) dL_law_2192 ?_
  show J SHL G room_1 (.inr Q) C (k + 5) (n + 30) 2194 [(6, VI kz), (0, VR 491), (1, VR 0), (2, VR 455), (3, VR 489), (4, VR 490), (5, VI i)] [] M1
  refine s_ok (fun _ _ hMM => ?_)
  have hI1 : Inv M (offM 455 M1) := inv_mid hIC hI (by rw [hM1]; exact (hmem_lo wrI_lo rc M).2)
  refine s_load0 X 3 rfl dL_law_2194 ?_
  refine s_load0 X 1 rfl dL_law_2195 ?_
  refine s_iload X 6 rfl dL_law_2196 ?_
  refine s_const X (by unfold InR; omega) dL_law_2198 ?_
  refine s_iadd X (by unfold InR; omega) dL_law_2199 ?_
  refine s_sld X hsc hz (by omega) (by omega) dL_law_2200 ?_
  refine s_load0 X 1 rfl dL_law_2201 ?_
  refine s_iload X 6 rfl dL_law_2202 ?_
  refine s_const X (by unfold InR; omega) dL_law_2204 ?_
  refine s_iadd X (by unfold InR; omega) dL_law_2205 ?_
  refine s_sld X hsc hz (by omega) (by omega) dL_law_2206 ?_
  refine s_load0 X 1 rfl dL_law_2207 ?_
  refine s_iload X 6 rfl dL_law_2208 ?_
  refine s_const X (by unfold InR; omega) dL_law_2210 ?_
  refine s_iadd X (by unfold InR; omega) dL_law_2211 ?_
  refine s_sld X hsc hz (by omega) (by omega) dL_law_2212 ?_
  refine s_load0 X 1 rfl dL_law_2213 ?_
  refine s_iload X 6 rfl dL_law_2214 ?_
  refine s_const X (by unfold InR; omega) dL_law_2216 ?_
  refine s_iadd X (by unfold InR; omega) dL_law_2217 ?_
  refine s_sld X hsc hz (by omega) (by omega) dL_law_2218 ?_
  obtain ⟨rc2, rm, e1b, e2, hI2, h1, h2⟩ := hst M (offM 455 M1) ((xs (i + 1).toNat).toInt) ((xs (i + 2).toNat).toInt) ((xs (i + 3).toNat).toInt) ((xs (i + 4).toNat).toInt) hI1 hM (okM_off hMM 455) (InR_of _) (InR_of _) (InR_of _) (InR_of _)
  cases e1.symm.trans e1b
  refine s_callVH (As := [VI ((xs (i + 1).toNat).toInt), VI ((xs (i + 2).toNat).toInt), VI ((xs (i + 3).toNat).toInt), VI ((xs (i + 4).toNat).toInt)]) X cw_L_283 SHL_455 rfl dL_law_2219 (con_M (As := [VR 0, VI ((xs (i + 1).toNat).toInt), VI ((xs (i + 2).toNat).toInt), VI ((xs (i + 3).toNat).toInt), VI ((xs (i + 4).toNat).toInt)]) nrI (L_M_last (offG G 455) ((xs (i + 1).toNat).toInt) ((xs (i + 2).toNat).toInt) ((xs (i + 3).toNat).toInt) ((xs (i + 4).toNat).toInt) (offM 455 M1) rm e2)) rfl ⟨Nat.le_of_ble_eq_true rfl, Nat.le_of_ble_eq_true rfl⟩ ⟨by show k + 5 + 0 ≤ 603072; omega, by show n + 30 + 0 ≤ 7223402; omega⟩ (Nat.le_of_ble_eq_true rfl) noX (kkR ?_)
  obtain ⟨g1, g2, g3⟩ := ag_use hIC wrI_lo (M := M) hI2 h1 h2
  rw [← hM1] at g1 g2 g3
  obtain ⟨M2, hM2⟩ : ∃ z, z = putM 455 34 M1 rm.2 := ⟨_, rfl⟩
  rw [← hM2] at g1 g2 g3 ⊢
  rw [← hkz] at g1 g2
  obtain ⟨bz, hbz⟩ : ∃ z, z = rm.1 := ⟨_, rfl⟩
  rw [← hbz] at g2
  show J SHL G room_1 (.inr Q) C (k + 5) (n + 30) 2222 [(6, VI kz), (0, VR 491), (1, VR 0), (2, VR 455), (3, VR 489), (4, VR 490), (5, VI i)] [VI rm.1] M2
  refine s_istore X hbz rfl (by omega) dL_law_2222 ?_
  show J SHL G room_1 (.inr Q) C (k + 5) (n + 30) 2224 [(7, VI bz), (6, VI kz), (0, VR 491), (1, VR 0), (2, VR 455), (3, VR 489), (4, VR 490), (5, VI i)] [] M2
  refine s_load0 X 4 rfl dL_law_2224 ?_
  refine s_callVH (As := []) X cw_L_188 SHL_455 rfl dL_law_2225 (con_Mr (As := [VR 0]) nrI (L_M_thrown (offG G 455) (offM 455 M2) (offM 455 M2 0 0) rfl)) rfl ⟨Nat.le_of_ble_eq_true rfl, Nat.le_of_ble_eq_true rfl⟩ ⟨by show k + 5 + 0 ≤ 603072; omega, by show n + 30 + 0 ≤ 7223402; omega⟩ (Nat.le_of_ble_eq_true rfl) noX (kkR ?_)
  show J SHL G room_1 (.inr Q) C (k + 5) (n + 30) 2228 [(7, VI bz), (6, VI kz), (0, VR 491), (1, VR 0), (2, VR 455), (3, VR 489), (4, VR 490), (5, VI i)] [VI (M2 455 0)] M2
  rw [g1]
  refine s_iload X 1 rfl dL_law_2228 ?_
  refine s_icmpeq_t (tgt := 2235) X dL_law_2230 (by omega) (fun _ => ?_) (fun q => absurd rfl q)
  refine s_iload X 1 rfl dL_law_2235 ?_
  refine s_ifne_t (tgt := 2252) X dL_law_2237 (by omega) (fun _ => ?_) (fun q => ?_)
  · refine s_goto (tgt := 3989) X dL_law_2252 (by omega) ?_
    refine s_loc [2, 3, 4, 5, 6, 7] rfl ?_
    exact s_le (by omega) (by omega) (hnx M2 g3)
  · have hk0 : kz = 0 := by omega
    obtain ⟨hok, hat⟩ := g2 hk0
    refine s_load0 X 5 rfl dL_law_2240 ?_
    refine s_const X (by unfold InR; omega) dL_law_2241 ?_
    refine s_lald X SHL_489 dL_law_2242 ?_
    rw [hat 489 0 (by omega), hat 489 1 (by omega), wrI_at]
    refine s_iload X 0 rfl dL_law_2243 ?_
    refine s_i2l X dL_law_2245 ?_
    refine s_lcmp X dL_law_2246 ?_
    refine s_ifeq_t (tgt := 2252) X dL_law_2247 (by omega) (fun _ => ?_) (fun q => absurd ((lcmpI_0 _ _).mpr rfl) q)
    refine s_goto (tgt := 3989) X dL_law_2252 (by omega) ?_
    refine s_loc [2, 3, 4, 5, 6, 7] rfl ?_
    exact s_le (by omega) (by omega) (hnx M2 g3)
set_option maxRecDepth 20000 in
set_option maxHeartbeats 4000000 in
theorem T_chain {G : Gl} {C : Ct} {b Ls : Nat} {xs : Nat → Int32} {Q : Ct → State → Prop} {Inv : Mem → Mem → Prop} {k n : Nat} {i : Int} {M : Mem} (LC : LawC G C b Ls xs) (hIC : InvC Inv) (hst : ST_chain Inv) (h0 : 0 ≤ i) (h6 : i + 6 ≤ Ls) (hk : k + 100 ≤ 603072) (hn : n + 600 ≤ 7223402) (hI : Inv M (offM 455 M)) (hnx : ∀ M2 : Mem, Inv M2 (offM 455 M2) → J SHL G room_1 (.inr Q) C (k + 100) (n + 600) 3989 (L0 i) [] M2) : J SHL G room_1 (.inr Q) C k n 2255 (L0 i) [] M := by
  obtain ⟨X, nc, hsc, hz, hL⟩ := LC
  have hL9 : (Ls : Int) ≤ 3072 := by omega
  refine s_ok (fun _ _ hM => ?_)
  refine s_load0 X 1 rfl dL_law_2255 ?_
  refine s_load0 X 0 rfl dL_law_2256 ?_
  refine s_iload X 5 rfl dL_law_2257 ?_
  refine s_const X (by unfold InR; omega) dL_law_2259 ?_
  refine s_iadd X (by unfold InR; omega) dL_law_2260 ?_
  refine s_sld X hsc hz (by omega) (by omega) dL_law_2261 ?_
  refine s_load0 X 0 rfl dL_law_2262 ?_
  refine s_iload X 5 rfl dL_law_2263 ?_
  refine s_const X (by unfold InR; omega) dL_law_2265 ?_
  refine s_iadd X (by unfold InR; omega) dL_law_2266 ?_
  refine s_sld X hsc hz (by omega) (by omega) dL_law_2267 ?_
  refine s_load0 X 0 rfl dL_law_2268 ?_
  refine s_iload X 5 rfl dL_law_2269 ?_
  refine s_const X (by unfold InR; omega) dL_law_2271 ?_
  refine s_iadd X (by unfold InR; omega) dL_law_2272 ?_
  refine s_sld X hsc hz (by omega) (by omega) dL_law_2273 ?_
  refine s_load0 X 0 rfl dL_law_2274 ?_
  refine s_iload X 5 rfl dL_law_2275 ?_
  refine s_const X (by unfold InR; omega) dL_law_2277 ?_
  refine s_iadd X (by unfold InR; omega) dL_law_2278 ?_
  refine s_sld X hsc hz (by omega) (by omega) dL_law_2279 ?_
  refine s_load0 X 3 rfl dL_law_2280 ?_
  obtain ⟨rc, rm0, e1, -, -, f1, f2⟩ := hst M (offM 455 M) ((xs (i + 1).toNat).toInt) ((xs (i + 2).toNat).toInt) ((xs (i + 3).toNat).toInt) ((xs (i + 4).toNat).toInt) hI hM (okM_off hM 455) (InR_of _) (InR_of _) (InR_of _) (InR_of _)
  have hH := H_chain G ((xs (i + 1).toNat).toInt) ((xs (i + 2).toNat).toInt) ((xs (i + 3).toNat).toInt) ((xs (i + 4).toNat).toInt) M rc e1 (fun x hx => (f2 x hx).1)
  rw [hout_eq] at hH
  refine s_callSW (As := [VR 0, VI ((xs (i + 1).toNat).toInt), VI ((xs (i + 2).toNat).toInt), VI ((xs (i + 3).toNat).toInt), VI ((xs (i + 4).toNat).toInt), VR 489]) X nc cwS_L_284 dL_law_2281 hH rfl ⟨Nat.le_of_ble_eq_true rfl, Nat.le_of_ble_eq_true rfl⟩ ⟨by show k + 5 ≤ 603072; omega, by show n + 30 ≤ 7223402; omega⟩ (Nat.le_of_ble_eq_true rfl) noX (kkR ?_)
  obtain ⟨M1, hM1⟩ : ∃ z, z = hmem wrI rc M := ⟨_, rfl⟩
  rw [← hM1]
  obtain ⟨kz, hkz⟩ : ∃ z, z = hcode [2, 0, 5] rc := ⟨_, rfl⟩
  show J SHL G room_1 (.inr Q) C (k + 5) (n + 30) 2284 [(0, VR 491), (1, VR 0), (2, VR 455), (3, VR 489), (4, VR 490), (5, VI i)] [VI (hcode [2, 0, 5] rc)] M1
  refine s_istore X hkz rfl (by omega) dL_law_2284 ?_
  show J SHL G room_1 (.inr Q) C (k + 5) (n + 30) 2286 [(6, VI kz), (0, VR 491), (1, VR 0), (2, VR 455), (3, VR 489), (4, VR 490), (5, VI i)] [] M1
  refine s_ok (fun _ _ hMM => ?_)
  have hI1 : Inv M (offM 455 M1) := inv_mid hIC hI (by rw [hM1]; exact (hmem_lo wrI_lo rc M).2)
  refine s_load0 X 3 rfl dL_law_2286 ?_
  refine s_load0 X 1 rfl dL_law_2287 ?_
  refine s_iload X 6 rfl dL_law_2288 ?_
  refine s_const X (by unfold InR; omega) dL_law_2290 ?_
  refine s_iadd X (by unfold InR; omega) dL_law_2291 ?_
  refine s_sld X hsc hz (by omega) (by omega) dL_law_2292 ?_
  refine s_load0 X 1 rfl dL_law_2293 ?_
  refine s_iload X 6 rfl dL_law_2294 ?_
  refine s_const X (by unfold InR; omega) dL_law_2296 ?_
  refine s_iadd X (by unfold InR; omega) dL_law_2297 ?_
  refine s_sld X hsc hz (by omega) (by omega) dL_law_2298 ?_
  refine s_load0 X 1 rfl dL_law_2299 ?_
  refine s_iload X 6 rfl dL_law_2300 ?_
  refine s_const X (by unfold InR; omega) dL_law_2302 ?_
  refine s_iadd X (by unfold InR; omega) dL_law_2303 ?_
  refine s_sld X hsc hz (by omega) (by omega) dL_law_2304 ?_
  refine s_load0 X 1 rfl dL_law_2305 ?_
  refine s_iload X 6 rfl dL_law_2306 ?_
  refine s_const X (by unfold InR; omega) dL_law_2308 ?_
  refine s_iadd X (by unfold InR; omega) dL_law_2309 ?_
  refine s_sld X hsc hz (by omega) (by omega) dL_law_2310 ?_
  obtain ⟨rc2, rm, e1b, e2, hI2, h1, h2⟩ := hst M (offM 455 M1) ((xs (i + 1).toNat).toInt) ((xs (i + 2).toNat).toInt) ((xs (i + 3).toNat).toInt) ((xs (i + 4).toNat).toInt) hI1 hM (okM_off hMM 455) (InR_of _) (InR_of _) (InR_of _) (InR_of _)
  cases e1.symm.trans e1b
  refine s_callVH (As := [VI ((xs (i + 1).toNat).toInt), VI ((xs (i + 2).toNat).toInt), VI ((xs (i + 3).toNat).toInt), VI ((xs (i + 4).toNat).toInt)]) X cw_L_286 SHL_455 rfl dL_law_2311 (con_M (As := [VR 0, VI ((xs (i + 1).toNat).toInt), VI ((xs (i + 2).toNat).toInt), VI ((xs (i + 3).toNat).toInt), VI ((xs (i + 4).toNat).toInt)]) nrI (L_M_chain (offG G 455) ((xs (i + 1).toNat).toInt) ((xs (i + 2).toNat).toInt) ((xs (i + 3).toNat).toInt) ((xs (i + 4).toNat).toInt) (offM 455 M1) rm e2)) rfl ⟨Nat.le_of_ble_eq_true rfl, Nat.le_of_ble_eq_true rfl⟩ ⟨by show k + 5 + 0 ≤ 603072; omega, by show n + 30 + 0 ≤ 7223402; omega⟩ (Nat.le_of_ble_eq_true rfl) noX (kkR ?_)
  obtain ⟨g1, g2, g3⟩ := ag_use hIC wrI_lo (M := M) hI2 h1 h2
  rw [← hM1] at g1 g2 g3
  obtain ⟨M2, hM2⟩ : ∃ z, z = putM 455 34 M1 rm.2 := ⟨_, rfl⟩
  rw [← hM2] at g1 g2 g3 ⊢
  rw [← hkz] at g1 g2
  obtain ⟨bz, hbz⟩ : ∃ z, z = rm.1 := ⟨_, rfl⟩
  rw [← hbz] at g2
  show J SHL G room_1 (.inr Q) C (k + 5) (n + 30) 2314 [(6, VI kz), (0, VR 491), (1, VR 0), (2, VR 455), (3, VR 489), (4, VR 490), (5, VI i)] [VI rm.1] M2
  refine s_istore X hbz rfl (by omega) dL_law_2314 ?_
  show J SHL G room_1 (.inr Q) C (k + 5) (n + 30) 2316 [(7, VI bz), (6, VI kz), (0, VR 491), (1, VR 0), (2, VR 455), (3, VR 489), (4, VR 490), (5, VI i)] [] M2
  refine s_load0 X 4 rfl dL_law_2316 ?_
  refine s_callVH (As := []) X cw_L_188 SHL_455 rfl dL_law_2317 (con_Mr (As := [VR 0]) nrI (L_M_thrown (offG G 455) (offM 455 M2) (offM 455 M2 0 0) rfl)) rfl ⟨Nat.le_of_ble_eq_true rfl, Nat.le_of_ble_eq_true rfl⟩ ⟨by show k + 5 + 0 ≤ 603072; omega, by show n + 30 + 0 ≤ 7223402; omega⟩ (Nat.le_of_ble_eq_true rfl) noX (kkR ?_)
  show J SHL G room_1 (.inr Q) C (k + 5) (n + 30) 2320 [(7, VI bz), (6, VI kz), (0, VR 491), (1, VR 0), (2, VR 455), (3, VR 489), (4, VR 490), (5, VI i)] [VI (M2 455 0)] M2
  rw [g1]
  refine s_iload X 1 rfl dL_law_2320 ?_
  refine s_icmpeq_t (tgt := 2327) X dL_law_2322 (by omega) (fun _ => ?_) (fun q => absurd rfl q)
  refine s_iload X 1 rfl dL_law_2327 ?_
  refine s_ifne_t (tgt := 2344) X dL_law_2329 (by omega) (fun _ => ?_) (fun q => ?_)
  · refine s_goto (tgt := 3989) X dL_law_2344 (by omega) ?_
    refine s_loc [2, 3, 4, 5, 6, 7] rfl ?_
    exact s_le (by omega) (by omega) (hnx M2 g3)
  · have hk0 : kz = 0 := by omega
    obtain ⟨hok, hat⟩ := g2 hk0
    refine s_load0 X 5 rfl dL_law_2332 ?_
    refine s_const X (by unfold InR; omega) dL_law_2333 ?_
    refine s_lald X SHL_489 dL_law_2334 ?_
    rw [hat 489 0 (by omega), hat 489 1 (by omega), wrI_at]
    refine s_iload X 0 rfl dL_law_2335 ?_
    refine s_i2l X dL_law_2337 ?_
    refine s_lcmp X dL_law_2338 ?_
    refine s_ifeq_t (tgt := 2344) X dL_law_2339 (by omega) (fun _ => ?_) (fun q => absurd ((lcmpI_0 _ _).mpr rfl) q)
    refine s_goto (tgt := 3989) X dL_law_2344 (by omega) ?_
    refine s_loc [2, 3, 4, 5, 6, 7] rfl ?_
    exact s_le (by omega) (by omega) (hnx M2 g3)
set_option maxRecDepth 20000 in
set_option maxHeartbeats 4000000 in
theorem T_ride {G : Gl} {C : Ct} {b Ls : Nat} {xs : Nat → Int32} {Q : Ct → State → Prop} {Inv : Mem → Mem → Prop} {k n : Nat} {i : Int} {M : Mem} (LC : LawC G C b Ls xs) (hIC : InvC Inv) (hst : ST_ride Inv) (h0 : 0 ≤ i) (h6 : i + 6 ≤ Ls) (hk : k + 100 ≤ 603072) (hn : n + 600 ≤ 7223402) (hI : Inv M (offM 455 M)) (hnx : ∀ M2 : Mem, Inv M2 (offM 455 M2) → J SHL G room_1 (.inr Q) C (k + 100) (n + 600) 3989 (L0 i) [] M2) : J SHL G room_1 (.inr Q) C k n 2347 (L0 i) [] M := by
  obtain ⟨X, nc, hsc, hz, hL⟩ := LC
  have hL9 : (Ls : Int) ≤ 3072 := by omega
  refine s_ok (fun _ _ hM => ?_)
  refine s_load0 X 1 rfl dL_law_2347 ?_
  refine s_load0 X 0 rfl dL_law_2348 ?_
  refine s_iload X 5 rfl dL_law_2349 ?_
  refine s_const X (by unfold InR; omega) dL_law_2351 ?_
  refine s_iadd X (by unfold InR; omega) dL_law_2352 ?_
  refine s_sld X hsc hz (by omega) (by omega) dL_law_2353 ?_
  refine s_load0 X 0 rfl dL_law_2354 ?_
  refine s_iload X 5 rfl dL_law_2355 ?_
  refine s_const X (by unfold InR; omega) dL_law_2357 ?_
  refine s_iadd X (by unfold InR; omega) dL_law_2358 ?_
  refine s_sld X hsc hz (by omega) (by omega) dL_law_2359 ?_
  refine s_i2c X dL_law_2360 ?_
  refine s_load0 X 3 rfl dL_law_2361 ?_
  obtain ⟨rc, rm0, e1, -, -, f1, f2⟩ := hst M (offM 455 M) ((xs (i + 1).toNat).toInt) ((xs (i + 2).toNat).toInt % 65536) hI hM (okM_off hM 455) (InR_of _) ⟨by omega, by omega⟩
  have hH := H_ride G ((xs (i + 1).toNat).toInt) ((xs (i + 2).toNat).toInt % 65536) M rc e1 (fun x hx => (f2 x hx).1)
  rw [hout_eq] at hH
  refine s_callSW (As := [VR 0, VI ((xs (i + 1).toNat).toInt), VI ((xs (i + 2).toNat).toInt % 65536), VR 489]) X nc cwS_L_287 dL_law_2362 hH rfl ⟨Nat.le_of_ble_eq_true rfl, Nat.le_of_ble_eq_true rfl⟩ ⟨by show k + 2 ≤ 603072; omega, by show n + 12 ≤ 7223402; omega⟩ (Nat.le_of_ble_eq_true rfl) noX (kkR ?_)
  obtain ⟨M1, hM1⟩ : ∃ z, z = hmem wrI rc M := ⟨_, rfl⟩
  rw [← hM1]
  obtain ⟨kz, hkz⟩ : ∃ z, z = hcode [0, 5] rc := ⟨_, rfl⟩
  show J SHL G room_1 (.inr Q) C (k + 2) (n + 12) 2365 [(0, VR 491), (1, VR 0), (2, VR 455), (3, VR 489), (4, VR 490), (5, VI i)] [VI (hcode [0, 5] rc)] M1
  refine s_istore X hkz rfl (by omega) dL_law_2365 ?_
  show J SHL G room_1 (.inr Q) C (k + 2) (n + 12) 2367 [(6, VI kz), (0, VR 491), (1, VR 0), (2, VR 455), (3, VR 489), (4, VR 490), (5, VI i)] [] M1
  refine s_ok (fun _ _ hMM => ?_)
  have hI1 : Inv M (offM 455 M1) := inv_mid hIC hI (by rw [hM1]; exact (hmem_lo wrI_lo rc M).2)
  refine s_load0 X 3 rfl dL_law_2367 ?_
  refine s_load0 X 1 rfl dL_law_2368 ?_
  refine s_iload X 6 rfl dL_law_2369 ?_
  refine s_const X (by unfold InR; omega) dL_law_2371 ?_
  refine s_iadd X (by unfold InR; omega) dL_law_2372 ?_
  refine s_sld X hsc hz (by omega) (by omega) dL_law_2373 ?_
  refine s_load0 X 1 rfl dL_law_2374 ?_
  refine s_iload X 6 rfl dL_law_2375 ?_
  refine s_const X (by unfold InR; omega) dL_law_2377 ?_
  refine s_iadd X (by unfold InR; omega) dL_law_2378 ?_
  refine s_sld X hsc hz (by omega) (by omega) dL_law_2379 ?_
  refine s_i2c X dL_law_2380 ?_
  obtain ⟨rc2, rm, e1b, e2, hI2, h1, h2⟩ := hst M (offM 455 M1) ((xs (i + 1).toNat).toInt) ((xs (i + 2).toNat).toInt % 65536) hI1 hM (okM_off hMM 455) (InR_of _) ⟨by omega, by omega⟩
  cases e1.symm.trans e1b
  refine s_callVH (As := [VI ((xs (i + 1).toNat).toInt), VI ((xs (i + 2).toNat).toInt % 65536)]) X cw_L_290 SHL_455 rfl dL_law_2381 (con_M (As := [VR 0, VI ((xs (i + 1).toNat).toInt), VI ((xs (i + 2).toNat).toInt % 65536)]) nrI (L_M_ride (offG G 455) ((xs (i + 1).toNat).toInt) ((xs (i + 2).toNat).toInt % 65536) (offM 455 M1) rm e2)) rfl ⟨Nat.le_of_ble_eq_true rfl, Nat.le_of_ble_eq_true rfl⟩ ⟨by show k + 2 + 0 ≤ 603072; omega, by show n + 12 + 0 ≤ 7223402; omega⟩ (Nat.le_of_ble_eq_true rfl) noX (kkR ?_)
  obtain ⟨g1, g2, g3⟩ := ag_use hIC wrI_lo (M := M) hI2 h1 h2
  rw [← hM1] at g1 g2 g3
  obtain ⟨M2, hM2⟩ : ∃ z, z = putM 455 34 M1 rm.2 := ⟨_, rfl⟩
  rw [← hM2] at g1 g2 g3 ⊢
  rw [← hkz] at g1 g2
  obtain ⟨bz, hbz⟩ : ∃ z, z = rm.1 := ⟨_, rfl⟩
  rw [← hbz] at g2
  show J SHL G room_1 (.inr Q) C (k + 2) (n + 12) 2384 [(6, VI kz), (0, VR 491), (1, VR 0), (2, VR 455), (3, VR 489), (4, VR 490), (5, VI i)] [VI rm.1] M2
  refine s_istore X hbz rfl (by omega) dL_law_2384 ?_
  show J SHL G room_1 (.inr Q) C (k + 2) (n + 12) 2386 [(7, VI bz), (6, VI kz), (0, VR 491), (1, VR 0), (2, VR 455), (3, VR 489), (4, VR 490), (5, VI i)] [] M2
  refine s_load0 X 4 rfl dL_law_2386 ?_
  refine s_callVH (As := []) X cw_L_188 SHL_455 rfl dL_law_2387 (con_Mr (As := [VR 0]) nrI (L_M_thrown (offG G 455) (offM 455 M2) (offM 455 M2 0 0) rfl)) rfl ⟨Nat.le_of_ble_eq_true rfl, Nat.le_of_ble_eq_true rfl⟩ ⟨by show k + 2 + 0 ≤ 603072; omega, by show n + 12 + 0 ≤ 7223402; omega⟩ (Nat.le_of_ble_eq_true rfl) noX (kkR ?_)
  show J SHL G room_1 (.inr Q) C (k + 2) (n + 12) 2390 [(7, VI bz), (6, VI kz), (0, VR 491), (1, VR 0), (2, VR 455), (3, VR 489), (4, VR 490), (5, VI i)] [VI (M2 455 0)] M2
  rw [g1]
  refine s_iload X 1 rfl dL_law_2390 ?_
  refine s_icmpeq_t (tgt := 2397) X dL_law_2392 (by omega) (fun _ => ?_) (fun q => absurd rfl q)
  refine s_iload X 1 rfl dL_law_2397 ?_
  refine s_ifne_t (tgt := 2414) X dL_law_2399 (by omega) (fun _ => ?_) (fun q => ?_)
  · refine s_goto (tgt := 3989) X dL_law_2414 (by omega) ?_
    refine s_loc [2, 3, 4, 5, 6, 7] rfl ?_
    exact s_le (by omega) (by omega) (hnx M2 g3)
  · have hk0 : kz = 0 := by omega
    obtain ⟨hok, hat⟩ := g2 hk0
    refine s_load0 X 5 rfl dL_law_2402 ?_
    refine s_const X (by unfold InR; omega) dL_law_2403 ?_
    refine s_lald X SHL_489 dL_law_2404 ?_
    rw [hat 489 0 (by omega), hat 489 1 (by omega), wrI_at]
    refine s_iload X 0 rfl dL_law_2405 ?_
    refine s_i2l X dL_law_2407 ?_
    refine s_lcmp X dL_law_2408 ?_
    refine s_ifeq_t (tgt := 2414) X dL_law_2409 (by omega) (fun _ => ?_) (fun q => absurd ((lcmpI_0 _ _).mpr rfl) q)
    refine s_goto (tgt := 3989) X dL_law_2414 (by omega) ?_
    refine s_loc [2, 3, 4, 5, 6, 7] rfl ?_
    exact s_le (by omega) (by omega) (hnx M2 g3)
set_option maxRecDepth 20000 in
set_option maxHeartbeats 4000000 in
theorem T_onBoard {G : Gl} {C : Ct} {b Ls : Nat} {xs : Nat → Int32} {Q : Ct → State → Prop} {Inv : Mem → Mem → Prop} {k n : Nat} {i : Int} {M : Mem} (LC : LawC G C b Ls xs) (hIC : InvC Inv) (hst : ST_onBoard Inv) (h0 : 0 ≤ i) (h6 : i + 6 ≤ Ls) (hk : k + 100 ≤ 603072) (hn : n + 600 ≤ 7223402) (hI : Inv M (offM 455 M)) (hnx : ∀ M2 : Mem, Inv M2 (offM 455 M2) → J SHL G room_1 (.inr Q) C (k + 100) (n + 600) 3989 (L0 i) [] M2) : J SHL G room_1 (.inr Q) C k n 2417 (L0 i) [] M := by
  obtain ⟨X, nc, hsc, hz, hL⟩ := LC
  have hL9 : (Ls : Int) ≤ 3072 := by omega
  refine s_ok (fun _ _ hM => ?_)
  refine s_load0 X 1 rfl dL_law_2417 ?_
  refine s_load0 X 0 rfl dL_law_2418 ?_
  refine s_iload X 5 rfl dL_law_2419 ?_
  refine s_const X (by unfold InR; omega) dL_law_2421 ?_
  refine s_iadd X (by unfold InR; omega) dL_law_2422 ?_
  refine s_sld X hsc hz (by omega) (by omega) dL_law_2423 ?_
  refine s_load0 X 0 rfl dL_law_2424 ?_
  refine s_iload X 5 rfl dL_law_2425 ?_
  refine s_const X (by unfold InR; omega) dL_law_2427 ?_
  refine s_iadd X (by unfold InR; omega) dL_law_2428 ?_
  refine s_sld X hsc hz (by omega) (by omega) dL_law_2429 ?_
  refine s_load0 X 0 rfl dL_law_2430 ?_
  refine s_iload X 5 rfl dL_law_2431 ?_
  refine s_const X (by unfold InR; omega) dL_law_2433 ?_
  refine s_iadd X (by unfold InR; omega) dL_law_2434 ?_
  refine s_sld X hsc hz (by omega) (by omega) dL_law_2435 ?_
  refine s_load0 X 0 rfl dL_law_2436 ?_
  refine s_iload X 5 rfl dL_law_2437 ?_
  refine s_const X (by unfold InR; omega) dL_law_2439 ?_
  refine s_iadd X (by unfold InR; omega) dL_law_2440 ?_
  refine s_sld X hsc hz (by omega) (by omega) dL_law_2441 ?_
  refine s_load0 X 3 rfl dL_law_2442 ?_
  obtain ⟨rc, rm0, e1, -, -, f1, f2⟩ := hst M (offM 455 M) ((xs (i + 1).toNat).toInt) ((xs (i + 2).toNat).toInt) ((xs (i + 3).toNat).toInt) ((xs (i + 4).toNat).toInt) hI hM (okM_off hM 455) (InR_of _) (InR_of _) (InR_of _) (InR_of _)
  have hH := H_onBoard G ((xs (i + 1).toNat).toInt) ((xs (i + 2).toNat).toInt) ((xs (i + 3).toNat).toInt) ((xs (i + 4).toNat).toInt) M rc e1 (fun x hx => (f2 x hx).1)
  rw [hout_eq] at hH
  refine s_callSW (As := [VR 0, VI ((xs (i + 1).toNat).toInt), VI ((xs (i + 2).toNat).toInt), VI ((xs (i + 3).toNat).toInt), VI ((xs (i + 4).toNat).toInt), VR 489]) X nc cwS_L_291 dL_law_2443 hH rfl ⟨Nat.le_of_ble_eq_true rfl, Nat.le_of_ble_eq_true rfl⟩ ⟨by show k + 7 ≤ 603072; omega, by show n + 42 ≤ 7223402; omega⟩ (Nat.le_of_ble_eq_true rfl) noX (kkR ?_)
  obtain ⟨M1, hM1⟩ : ∃ z, z = hmem wrI rc M := ⟨_, rfl⟩
  rw [← hM1]
  obtain ⟨kz, hkz⟩ : ∃ z, z = hcode [2, 0, 4, 5] rc := ⟨_, rfl⟩
  show J SHL G room_1 (.inr Q) C (k + 7) (n + 42) 2446 [(0, VR 491), (1, VR 0), (2, VR 455), (3, VR 489), (4, VR 490), (5, VI i)] [VI (hcode [2, 0, 4, 5] rc)] M1
  refine s_istore X hkz rfl (by omega) dL_law_2446 ?_
  show J SHL G room_1 (.inr Q) C (k + 7) (n + 42) 2448 [(6, VI kz), (0, VR 491), (1, VR 0), (2, VR 455), (3, VR 489), (4, VR 490), (5, VI i)] [] M1
  refine s_ok (fun _ _ hMM => ?_)
  have hI1 : Inv M (offM 455 M1) := inv_mid hIC hI (by rw [hM1]; exact (hmem_lo wrI_lo rc M).2)
  refine s_load0 X 3 rfl dL_law_2448 ?_
  refine s_load0 X 1 rfl dL_law_2449 ?_
  refine s_iload X 6 rfl dL_law_2450 ?_
  refine s_const X (by unfold InR; omega) dL_law_2452 ?_
  refine s_iadd X (by unfold InR; omega) dL_law_2453 ?_
  refine s_sld X hsc hz (by omega) (by omega) dL_law_2454 ?_
  refine s_load0 X 1 rfl dL_law_2455 ?_
  refine s_iload X 6 rfl dL_law_2456 ?_
  refine s_const X (by unfold InR; omega) dL_law_2458 ?_
  refine s_iadd X (by unfold InR; omega) dL_law_2459 ?_
  refine s_sld X hsc hz (by omega) (by omega) dL_law_2460 ?_
  refine s_load0 X 1 rfl dL_law_2461 ?_
  refine s_iload X 6 rfl dL_law_2462 ?_
  refine s_const X (by unfold InR; omega) dL_law_2464 ?_
  refine s_iadd X (by unfold InR; omega) dL_law_2465 ?_
  refine s_sld X hsc hz (by omega) (by omega) dL_law_2466 ?_
  refine s_load0 X 1 rfl dL_law_2467 ?_
  refine s_iload X 6 rfl dL_law_2468 ?_
  refine s_const X (by unfold InR; omega) dL_law_2470 ?_
  refine s_iadd X (by unfold InR; omega) dL_law_2471 ?_
  refine s_sld X hsc hz (by omega) (by omega) dL_law_2472 ?_
  obtain ⟨rc2, rm, e1b, e2, hI2, h1, h2⟩ := hst M (offM 455 M1) ((xs (i + 1).toNat).toInt) ((xs (i + 2).toNat).toInt) ((xs (i + 3).toNat).toInt) ((xs (i + 4).toNat).toInt) hI1 hM (okM_off hMM 455) (InR_of _) (InR_of _) (InR_of _) (InR_of _)
  cases e1.symm.trans e1b
  refine s_callVH (As := [VI ((xs (i + 1).toNat).toInt), VI ((xs (i + 2).toNat).toInt), VI ((xs (i + 3).toNat).toInt), VI ((xs (i + 4).toNat).toInt)]) X cw_L_293 SHL_455 rfl dL_law_2473 (con_M (As := [VR 0, VI ((xs (i + 1).toNat).toInt), VI ((xs (i + 2).toNat).toInt), VI ((xs (i + 3).toNat).toInt), VI ((xs (i + 4).toNat).toInt)]) nrI (L_M_onBoard (offG G 455) ((xs (i + 1).toNat).toInt) ((xs (i + 2).toNat).toInt) ((xs (i + 3).toNat).toInt) ((xs (i + 4).toNat).toInt) (offM 455 M1) rm e2)) rfl ⟨Nat.le_of_ble_eq_true rfl, Nat.le_of_ble_eq_true rfl⟩ ⟨by show k + 7 + 0 ≤ 603072; omega, by show n + 42 + 0 ≤ 7223402; omega⟩ (Nat.le_of_ble_eq_true rfl) noX (kkR ?_)
  obtain ⟨g1, g2, g3⟩ := ag_use hIC wrI_lo (M := M) hI2 h1 h2
  rw [← hM1] at g1 g2 g3
  obtain ⟨M2, hM2⟩ : ∃ z, z = putM 455 34 M1 rm.2 := ⟨_, rfl⟩
  rw [← hM2] at g1 g2 g3 ⊢
  rw [← hkz] at g1 g2
  obtain ⟨bz, hbz⟩ : ∃ z, z = rm.1 := ⟨_, rfl⟩
  rw [← hbz] at g2
  show J SHL G room_1 (.inr Q) C (k + 7) (n + 42) 2476 [(6, VI kz), (0, VR 491), (1, VR 0), (2, VR 455), (3, VR 489), (4, VR 490), (5, VI i)] [VI rm.1] M2
  refine s_istore X hbz rfl (by omega) dL_law_2476 ?_
  show J SHL G room_1 (.inr Q) C (k + 7) (n + 42) 2478 [(7, VI bz), (6, VI kz), (0, VR 491), (1, VR 0), (2, VR 455), (3, VR 489), (4, VR 490), (5, VI i)] [] M2
  refine s_load0 X 4 rfl dL_law_2478 ?_
  refine s_callVH (As := []) X cw_L_188 SHL_455 rfl dL_law_2479 (con_Mr (As := [VR 0]) nrI (L_M_thrown (offG G 455) (offM 455 M2) (offM 455 M2 0 0) rfl)) rfl ⟨Nat.le_of_ble_eq_true rfl, Nat.le_of_ble_eq_true rfl⟩ ⟨by show k + 7 + 0 ≤ 603072; omega, by show n + 42 + 0 ≤ 7223402; omega⟩ (Nat.le_of_ble_eq_true rfl) noX (kkR ?_)
  show J SHL G room_1 (.inr Q) C (k + 7) (n + 42) 2482 [(7, VI bz), (6, VI kz), (0, VR 491), (1, VR 0), (2, VR 455), (3, VR 489), (4, VR 490), (5, VI i)] [VI (M2 455 0)] M2
  rw [g1]
  refine s_iload X 1 rfl dL_law_2482 ?_
  refine s_icmpeq_t (tgt := 2489) X dL_law_2484 (by omega) (fun _ => ?_) (fun q => absurd rfl q)
  refine s_iload X 1 rfl dL_law_2489 ?_
  refine s_ifne_t (tgt := 2506) X dL_law_2491 (by omega) (fun _ => ?_) (fun q => ?_)
  · refine s_goto (tgt := 3989) X dL_law_2506 (by omega) ?_
    refine s_loc [2, 3, 4, 5, 6, 7] rfl ?_
    exact s_le (by omega) (by omega) (hnx M2 g3)
  · have hk0 : kz = 0 := by omega
    obtain ⟨hok, hat⟩ := g2 hk0
    refine s_load0 X 5 rfl dL_law_2494 ?_
    refine s_const X (by unfold InR; omega) dL_law_2495 ?_
    refine s_lald X SHL_489 dL_law_2496 ?_
    rw [hat 489 0 (by omega), hat 489 1 (by omega), wrI_at]
    refine s_iload X 0 rfl dL_law_2497 ?_
    refine s_i2l X dL_law_2499 ?_
    refine s_lcmp X dL_law_2500 ?_
    refine s_ifeq_t (tgt := 2506) X dL_law_2501 (by omega) (fun _ => ?_) (fun q => absurd ((lcmpI_0 _ _).mpr rfl) q)
    refine s_goto (tgt := 3989) X dL_law_2506 (by omega) ?_
    refine s_loc [2, 3, 4, 5, 6, 7] rfl ?_
    exact s_le (by omega) (by omega) (hnx M2 g3)
set_option maxRecDepth 20000 in
set_option maxHeartbeats 4000000 in
theorem T_pairs {G : Gl} {C : Ct} {b Ls : Nat} {xs : Nat → Int32} {Q : Ct → State → Prop} {Inv : Mem → Mem → Prop} {k n : Nat} {i : Int} {M : Mem} (LC : LawC G C b Ls xs) (hIC : InvC Inv) (hst : ST_pairs Inv) (h0 : 0 ≤ i) (h6 : i + 6 ≤ Ls) (hk : k + 100 ≤ 603072) (hn : n + 600 ≤ 7223402) (hI : Inv M (offM 455 M)) (hnx : ∀ M2 : Mem, Inv M2 (offM 455 M2) → J SHL G room_1 (.inr Q) C (k + 100) (n + 600) 3989 (L0 i) [] M2) : J SHL G room_1 (.inr Q) C k n 2509 (L0 i) [] M := by
  obtain ⟨X, nc, hsc, hz, hL⟩ := LC
  have hL9 : (Ls : Int) ≤ 3072 := by omega
  refine s_ok (fun _ _ hM => ?_)
  refine s_load0 X 1 rfl dL_law_2509 ?_
  refine s_load0 X 0 rfl dL_law_2510 ?_
  refine s_iload X 5 rfl dL_law_2511 ?_
  refine s_const X (by unfold InR; omega) dL_law_2513 ?_
  refine s_iadd X (by unfold InR; omega) dL_law_2514 ?_
  refine s_sld X hsc hz (by omega) (by omega) dL_law_2515 ?_
  refine s_load0 X 0 rfl dL_law_2516 ?_
  refine s_iload X 5 rfl dL_law_2517 ?_
  refine s_const X (by unfold InR; omega) dL_law_2519 ?_
  refine s_iadd X (by unfold InR; omega) dL_law_2520 ?_
  refine s_sld X hsc hz (by omega) (by omega) dL_law_2521 ?_
  refine s_load0 X 0 rfl dL_law_2522 ?_
  refine s_iload X 5 rfl dL_law_2523 ?_
  refine s_const X (by unfold InR; omega) dL_law_2525 ?_
  refine s_iadd X (by unfold InR; omega) dL_law_2526 ?_
  refine s_sld X hsc hz (by omega) (by omega) dL_law_2527 ?_
  refine s_load0 X 3 rfl dL_law_2528 ?_
  obtain ⟨rc, rm0, e1, -, -, f1, f2⟩ := hst M (offM 455 M) ((xs (i + 1).toNat).toInt) ((xs (i + 2).toNat).toInt) ((xs (i + 3).toNat).toInt) hI hM (okM_off hM 455) (InR_of _) (InR_of _) (InR_of _)
  have hH := H_pairs G ((xs (i + 1).toNat).toInt) ((xs (i + 2).toNat).toInt) ((xs (i + 3).toNat).toInt) M rc e1 (fun x hx => (f2 x hx).1)
  rw [hout_eq] at hH
  refine s_callSW (As := [VR 0, VI ((xs (i + 1).toNat).toInt), VI ((xs (i + 2).toNat).toInt), VI ((xs (i + 3).toNat).toInt), VR 489]) X nc cwS_L_294 dL_law_2529 hH rfl ⟨Nat.le_of_ble_eq_true rfl, Nat.le_of_ble_eq_true rfl⟩ ⟨by show k + 4 ≤ 603072; omega, by show n + 24 ≤ 7223402; omega⟩ (Nat.le_of_ble_eq_true rfl) noX (kkR ?_)
  obtain ⟨M1, hM1⟩ : ∃ z, z = hmem wrI rc M := ⟨_, rfl⟩
  rw [← hM1]
  obtain ⟨kz, hkz⟩ : ∃ z, z = hcode [2, 0] rc := ⟨_, rfl⟩
  show J SHL G room_1 (.inr Q) C (k + 4) (n + 24) 2532 [(0, VR 491), (1, VR 0), (2, VR 455), (3, VR 489), (4, VR 490), (5, VI i)] [VI (hcode [2, 0] rc)] M1
  refine s_istore X hkz rfl (by omega) dL_law_2532 ?_
  show J SHL G room_1 (.inr Q) C (k + 4) (n + 24) 2534 [(6, VI kz), (0, VR 491), (1, VR 0), (2, VR 455), (3, VR 489), (4, VR 490), (5, VI i)] [] M1
  refine s_ok (fun _ _ hMM => ?_)
  have hI1 : Inv M (offM 455 M1) := inv_mid hIC hI (by rw [hM1]; exact (hmem_lo wrI_lo rc M).2)
  refine s_load0 X 3 rfl dL_law_2534 ?_
  refine s_load0 X 1 rfl dL_law_2535 ?_
  refine s_iload X 6 rfl dL_law_2536 ?_
  refine s_const X (by unfold InR; omega) dL_law_2538 ?_
  refine s_iadd X (by unfold InR; omega) dL_law_2539 ?_
  refine s_sld X hsc hz (by omega) (by omega) dL_law_2540 ?_
  refine s_load0 X 1 rfl dL_law_2541 ?_
  refine s_iload X 6 rfl dL_law_2542 ?_
  refine s_const X (by unfold InR; omega) dL_law_2544 ?_
  refine s_iadd X (by unfold InR; omega) dL_law_2545 ?_
  refine s_sld X hsc hz (by omega) (by omega) dL_law_2546 ?_
  refine s_load0 X 1 rfl dL_law_2547 ?_
  refine s_iload X 6 rfl dL_law_2548 ?_
  refine s_const X (by unfold InR; omega) dL_law_2550 ?_
  refine s_iadd X (by unfold InR; omega) dL_law_2551 ?_
  refine s_sld X hsc hz (by omega) (by omega) dL_law_2552 ?_
  obtain ⟨rc2, rm, e1b, e2, hI2, h1, h2⟩ := hst M (offM 455 M1) ((xs (i + 1).toNat).toInt) ((xs (i + 2).toNat).toInt) ((xs (i + 3).toNat).toInt) hI1 hM (okM_off hMM 455) (InR_of _) (InR_of _) (InR_of _)
  cases e1.symm.trans e1b
  refine s_callVH (As := [VI ((xs (i + 1).toNat).toInt), VI ((xs (i + 2).toNat).toInt), VI ((xs (i + 3).toNat).toInt)]) X cw_L_296 SHL_455 rfl dL_law_2553 (con_M (As := [VR 0, VI ((xs (i + 1).toNat).toInt), VI ((xs (i + 2).toNat).toInt), VI ((xs (i + 3).toNat).toInt)]) nrI (L_M_pairs (offG G 455) ((xs (i + 1).toNat).toInt) ((xs (i + 2).toNat).toInt) ((xs (i + 3).toNat).toInt) (offM 455 M1) rm e2)) rfl ⟨Nat.le_of_ble_eq_true rfl, Nat.le_of_ble_eq_true rfl⟩ ⟨by show k + 4 + 0 ≤ 603072; omega, by show n + 24 + 0 ≤ 7223402; omega⟩ (Nat.le_of_ble_eq_true rfl) noX (kkR ?_)
  obtain ⟨g1, g2, g3⟩ := ag_use hIC wrI_lo (M := M) hI2 h1 h2
  rw [← hM1] at g1 g2 g3
  obtain ⟨M2, hM2⟩ : ∃ z, z = putM 455 34 M1 rm.2 := ⟨_, rfl⟩
  rw [← hM2] at g1 g2 g3 ⊢
  rw [← hkz] at g1 g2
  obtain ⟨bz, hbz⟩ : ∃ z, z = rm.1 := ⟨_, rfl⟩
  rw [← hbz] at g2
  show J SHL G room_1 (.inr Q) C (k + 4) (n + 24) 2556 [(6, VI kz), (0, VR 491), (1, VR 0), (2, VR 455), (3, VR 489), (4, VR 490), (5, VI i)] [VI rm.1] M2
  refine s_istore X hbz rfl (by omega) dL_law_2556 ?_
  show J SHL G room_1 (.inr Q) C (k + 4) (n + 24) 2558 [(7, VI bz), (6, VI kz), (0, VR 491), (1, VR 0), (2, VR 455), (3, VR 489), (4, VR 490), (5, VI i)] [] M2
  refine s_load0 X 4 rfl dL_law_2558 ?_
  refine s_callVH (As := []) X cw_L_188 SHL_455 rfl dL_law_2559 (con_Mr (As := [VR 0]) nrI (L_M_thrown (offG G 455) (offM 455 M2) (offM 455 M2 0 0) rfl)) rfl ⟨Nat.le_of_ble_eq_true rfl, Nat.le_of_ble_eq_true rfl⟩ ⟨by show k + 4 + 0 ≤ 603072; omega, by show n + 24 + 0 ≤ 7223402; omega⟩ (Nat.le_of_ble_eq_true rfl) noX (kkR ?_)
  show J SHL G room_1 (.inr Q) C (k + 4) (n + 24) 2562 [(7, VI bz), (6, VI kz), (0, VR 491), (1, VR 0), (2, VR 455), (3, VR 489), (4, VR 490), (5, VI i)] [VI (M2 455 0)] M2
  rw [g1]
  refine s_iload X 1 rfl dL_law_2562 ?_
  refine s_icmpeq_t (tgt := 2569) X dL_law_2564 (by omega) (fun _ => ?_) (fun q => absurd rfl q)
  refine s_iload X 1 rfl dL_law_2569 ?_
  refine s_ifne_t (tgt := 2586) X dL_law_2571 (by omega) (fun _ => ?_) (fun q => ?_)
  · refine s_goto (tgt := 3989) X dL_law_2586 (by omega) ?_
    refine s_loc [2, 3, 4, 5, 6, 7] rfl ?_
    exact s_le (by omega) (by omega) (hnx M2 g3)
  · have hk0 : kz = 0 := by omega
    obtain ⟨hok, hat⟩ := g2 hk0
    refine s_load0 X 5 rfl dL_law_2574 ?_
    refine s_const X (by unfold InR; omega) dL_law_2575 ?_
    refine s_lald X SHL_489 dL_law_2576 ?_
    rw [hat 489 0 (by omega), hat 489 1 (by omega), wrI_at]
    refine s_iload X 0 rfl dL_law_2577 ?_
    refine s_i2l X dL_law_2579 ?_
    refine s_lcmp X dL_law_2580 ?_
    refine s_ifeq_t (tgt := 2586) X dL_law_2581 (by omega) (fun _ => ?_) (fun q => absurd ((lcmpI_0 _ _).mpr rfl) q)
    refine s_goto (tgt := 3989) X dL_law_2586 (by omega) ?_
    refine s_loc [2, 3, 4, 5, 6, 7] rfl ?_
    exact s_le (by omega) (by omega) (hnx M2 g3)
set_option maxRecDepth 20000 in
set_option maxHeartbeats 4000000 in
theorem T_pair {G : Gl} {C : Ct} {b Ls : Nat} {xs : Nat → Int32} {Q : Ct → State → Prop} {Inv : Mem → Mem → Prop} {k n : Nat} {i : Int} {M : Mem} (LC : LawC G C b Ls xs) (hIC : InvC Inv) (hst : ST_pair Inv) (h0 : 0 ≤ i) (h6 : i + 6 ≤ Ls) (hk : k + 100 ≤ 603072) (hn : n + 600 ≤ 7223402) (hI : Inv M (offM 455 M)) (hnx : ∀ M2 : Mem, Inv M2 (offM 455 M2) → J SHL G room_1 (.inr Q) C (k + 100) (n + 600) 3989 (L0 i) [] M2) : J SHL G room_1 (.inr Q) C k n 2589 (L0 i) [] M := by
  obtain ⟨X, nc, hsc, hz, hL⟩ := LC
  have hL9 : (Ls : Int) ≤ 3072 := by omega
  refine s_ok (fun _ _ hM => ?_)
  refine s_load0 X 1 rfl dL_law_2589 ?_
  refine s_load0 X 0 rfl dL_law_2590 ?_
  refine s_iload X 5 rfl dL_law_2591 ?_
  refine s_const X (by unfold InR; omega) dL_law_2593 ?_
  refine s_iadd X (by unfold InR; omega) dL_law_2594 ?_
  refine s_sld X hsc hz (by omega) (by omega) dL_law_2595 ?_
  refine s_load0 X 0 rfl dL_law_2596 ?_
  refine s_iload X 5 rfl dL_law_2597 ?_
  refine s_const X (by unfold InR; omega) dL_law_2599 ?_
  refine s_iadd X (by unfold InR; omega) dL_law_2600 ?_
  refine s_sld X hsc hz (by omega) (by omega) dL_law_2601 ?_
  refine s_load0 X 0 rfl dL_law_2602 ?_
  refine s_iload X 5 rfl dL_law_2603 ?_
  refine s_const X (by unfold InR; omega) dL_law_2605 ?_
  refine s_iadd X (by unfold InR; omega) dL_law_2606 ?_
  refine s_sld X hsc hz (by omega) (by omega) dL_law_2607 ?_
  refine s_load0 X 0 rfl dL_law_2608 ?_
  refine s_iload X 5 rfl dL_law_2609 ?_
  refine s_const X (by unfold InR; omega) dL_law_2611 ?_
  refine s_iadd X (by unfold InR; omega) dL_law_2612 ?_
  refine s_sld X hsc hz (by omega) (by omega) dL_law_2613 ?_
  refine s_load0 X 0 rfl dL_law_2614 ?_
  refine s_iload X 5 rfl dL_law_2615 ?_
  refine s_const X (by unfold InR; omega) dL_law_2617 ?_
  refine s_iadd X (by unfold InR; omega) dL_law_2618 ?_
  refine s_sld X hsc hz (by omega) (by omega) dL_law_2619 ?_
  have kB : ∀ w9 : Int, w9 = (if (xs (i + 5).toNat).toInt = 0 then 0 else 1) → J SHL G room_1 (.inr Q) C (k + 0) (n + 0) 2628 [(0, VR 491), (1, VR 0), (2, VR 455), (3, VR 489), (4, VR 490), (5, VI i)] [VI w9, VI ((xs (i + 4).toNat).toInt), VI ((xs (i + 3).toNat).toInt), VI ((xs (i + 2).toNat).toInt), VI ((xs (i + 1).toNat).toInt), VR 0] M := by
    intro w9 e9
    subst e9
    refine s_load0 X 3 rfl dL_law_2628 ?_
    obtain ⟨rc, rm0, e1, -, -, f1, f2⟩ := hst M (offM 455 M) ((xs (i + 1).toNat).toInt) ((xs (i + 2).toNat).toInt) ((xs (i + 3).toNat).toInt) ((xs (i + 4).toNat).toInt) ((if (xs (i + 5).toNat).toInt = 0 then 0 else 1)) hI hM (okM_off hM 455) (InR_of _) (InR_of _) (InR_of _) (InR_of _) (by split <;> omega)
    have hH := H_pair G ((xs (i + 1).toNat).toInt) ((xs (i + 2).toNat).toInt) ((xs (i + 3).toNat).toInt) ((xs (i + 4).toNat).toInt) ((if (xs (i + 5).toNat).toInt = 0 then 0 else 1)) M rc e1 (fun x hx => (f2 x hx).1)
    rw [hout_eq] at hH
    refine s_callSW (As := [VR 0, VI ((xs (i + 1).toNat).toInt), VI ((xs (i + 2).toNat).toInt), VI ((xs (i + 3).toNat).toInt), VI ((xs (i + 4).toNat).toInt), VI ((if (xs (i + 5).toNat).toInt = 0 then 0 else 1)), VR 489]) X nc cwS_L_297 dL_law_2629 hH rfl ⟨Nat.le_of_ble_eq_true rfl, Nat.le_of_ble_eq_true rfl⟩ ⟨by show k + 5 ≤ 603072; omega, by show n + 30 ≤ 7223402; omega⟩ (Nat.le_of_ble_eq_true rfl) noX (kkR ?_)
    obtain ⟨M1, hM1⟩ : ∃ z, z = hmem wrI rc M := ⟨_, rfl⟩
    rw [← hM1]
    obtain ⟨kz, hkz⟩ : ∃ z, z = hcode [2, 0, 5] rc := ⟨_, rfl⟩
    show J SHL G room_1 (.inr Q) C (k + 5) (n + 30) 2632 [(0, VR 491), (1, VR 0), (2, VR 455), (3, VR 489), (4, VR 490), (5, VI i)] [VI (hcode [2, 0, 5] rc)] M1
    refine s_istore X hkz rfl (by omega) dL_law_2632 ?_
    show J SHL G room_1 (.inr Q) C (k + 5) (n + 30) 2634 [(6, VI kz), (0, VR 491), (1, VR 0), (2, VR 455), (3, VR 489), (4, VR 490), (5, VI i)] [] M1
    refine s_ok (fun _ _ hMM => ?_)
    have hI1 : Inv M (offM 455 M1) := inv_mid hIC hI (by rw [hM1]; exact (hmem_lo wrI_lo rc M).2)
    refine s_load0 X 3 rfl dL_law_2634 ?_
    refine s_load0 X 1 rfl dL_law_2635 ?_
    refine s_iload X 6 rfl dL_law_2636 ?_
    refine s_const X (by unfold InR; omega) dL_law_2638 ?_
    refine s_iadd X (by unfold InR; omega) dL_law_2639 ?_
    refine s_sld X hsc hz (by omega) (by omega) dL_law_2640 ?_
    refine s_load0 X 1 rfl dL_law_2641 ?_
    refine s_iload X 6 rfl dL_law_2642 ?_
    refine s_const X (by unfold InR; omega) dL_law_2644 ?_
    refine s_iadd X (by unfold InR; omega) dL_law_2645 ?_
    refine s_sld X hsc hz (by omega) (by omega) dL_law_2646 ?_
    refine s_load0 X 1 rfl dL_law_2647 ?_
    refine s_iload X 6 rfl dL_law_2648 ?_
    refine s_const X (by unfold InR; omega) dL_law_2650 ?_
    refine s_iadd X (by unfold InR; omega) dL_law_2651 ?_
    refine s_sld X hsc hz (by omega) (by omega) dL_law_2652 ?_
    refine s_load0 X 1 rfl dL_law_2653 ?_
    refine s_iload X 6 rfl dL_law_2654 ?_
    refine s_const X (by unfold InR; omega) dL_law_2656 ?_
    refine s_iadd X (by unfold InR; omega) dL_law_2657 ?_
    refine s_sld X hsc hz (by omega) (by omega) dL_law_2658 ?_
    refine s_load0 X 1 rfl dL_law_2659 ?_
    refine s_iload X 6 rfl dL_law_2660 ?_
    refine s_const X (by unfold InR; omega) dL_law_2662 ?_
    refine s_iadd X (by unfold InR; omega) dL_law_2663 ?_
    refine s_sld X hsc hz (by omega) (by omega) dL_law_2664 ?_
    have kB : ∀ w9 : Int, w9 = (if (xs (i + 5).toNat).toInt = 0 then 0 else 1) → J SHL G room_1 (.inr Q) C (k + 5) (n + 30) 2673 [(6, VI kz), (0, VR 491), (1, VR 0), (2, VR 455), (3, VR 489), (4, VR 490), (5, VI i)] [VI w9, VI ((xs (i + 4).toNat).toInt), VI ((xs (i + 3).toNat).toInt), VI ((xs (i + 2).toNat).toInt), VI ((xs (i + 1).toNat).toInt), VR 455] M1 := by
      intro w9 e9
      subst e9
      obtain ⟨rc2, rm, e1b, e2, hI2, h1, h2⟩ := hst M (offM 455 M1) ((xs (i + 1).toNat).toInt) ((xs (i + 2).toNat).toInt) ((xs (i + 3).toNat).toInt) ((xs (i + 4).toNat).toInt) ((if (xs (i + 5).toNat).toInt = 0 then 0 else 1)) hI1 hM (okM_off hMM 455) (InR_of _) (InR_of _) (InR_of _) (InR_of _) (by split <;> omega)
      cases e1.symm.trans e1b
      refine s_callVH (As := [VI ((xs (i + 1).toNat).toInt), VI ((xs (i + 2).toNat).toInt), VI ((xs (i + 3).toNat).toInt), VI ((xs (i + 4).toNat).toInt), VI ((if (xs (i + 5).toNat).toInt = 0 then 0 else 1))]) X cw_L_300 SHL_455 rfl dL_law_2673 (con_M (As := [VR 0, VI ((xs (i + 1).toNat).toInt), VI ((xs (i + 2).toNat).toInt), VI ((xs (i + 3).toNat).toInt), VI ((xs (i + 4).toNat).toInt), VI ((if (xs (i + 5).toNat).toInt = 0 then 0 else 1))]) nrI (L_M_pair (offG G 455) ((xs (i + 1).toNat).toInt) ((xs (i + 2).toNat).toInt) ((xs (i + 3).toNat).toInt) ((xs (i + 4).toNat).toInt) ((if (xs (i + 5).toNat).toInt = 0 then 0 else 1)) (offM 455 M1) rm e2)) rfl ⟨Nat.le_of_ble_eq_true rfl, Nat.le_of_ble_eq_true rfl⟩ ⟨by show k + 5 + 0 ≤ 603072; omega, by show n + 30 + 0 ≤ 7223402; omega⟩ (Nat.le_of_ble_eq_true rfl) noX (kkR ?_)
      obtain ⟨g1, g2, g3⟩ := ag_use hIC wrI_lo (M := M) hI2 h1 h2
      rw [← hM1] at g1 g2 g3
      obtain ⟨M2, hM2⟩ : ∃ z, z = putM 455 34 M1 rm.2 := ⟨_, rfl⟩
      rw [← hM2] at g1 g2 g3 ⊢
      rw [← hkz] at g1 g2
      obtain ⟨bz, hbz⟩ : ∃ z, z = rm.1 := ⟨_, rfl⟩
      rw [← hbz] at g2
      show J SHL G room_1 (.inr Q) C (k + 5) (n + 30) 2676 [(6, VI kz), (0, VR 491), (1, VR 0), (2, VR 455), (3, VR 489), (4, VR 490), (5, VI i)] [VI rm.1] M2
      refine s_istore X hbz rfl (by omega) dL_law_2676 ?_
      show J SHL G room_1 (.inr Q) C (k + 5) (n + 30) 2678 [(7, VI bz), (6, VI kz), (0, VR 491), (1, VR 0), (2, VR 455), (3, VR 489), (4, VR 490), (5, VI i)] [] M2
      refine s_load0 X 4 rfl dL_law_2678 ?_
      refine s_callVH (As := []) X cw_L_188 SHL_455 rfl dL_law_2679 (con_Mr (As := [VR 0]) nrI (L_M_thrown (offG G 455) (offM 455 M2) (offM 455 M2 0 0) rfl)) rfl ⟨Nat.le_of_ble_eq_true rfl, Nat.le_of_ble_eq_true rfl⟩ ⟨by show k + 5 + 0 ≤ 603072; omega, by show n + 30 + 0 ≤ 7223402; omega⟩ (Nat.le_of_ble_eq_true rfl) noX (kkR ?_)
      show J SHL G room_1 (.inr Q) C (k + 5) (n + 30) 2682 [(7, VI bz), (6, VI kz), (0, VR 491), (1, VR 0), (2, VR 455), (3, VR 489), (4, VR 490), (5, VI i)] [VI (M2 455 0)] M2
      rw [g1]
      refine s_iload X 1 rfl dL_law_2682 ?_
      refine s_icmpeq_t (tgt := 2689) X dL_law_2684 (by omega) (fun _ => ?_) (fun q => absurd rfl q)
      refine s_iload X 1 rfl dL_law_2689 ?_
      refine s_ifne_t (tgt := 2706) X dL_law_2691 (by omega) (fun _ => ?_) (fun q => ?_)
      · refine s_goto (tgt := 3989) X dL_law_2706 (by omega) ?_
        refine s_loc [2, 3, 4, 5, 6, 7] rfl ?_
        exact s_le (by omega) (by omega) (hnx M2 g3)
      · have hk0 : kz = 0 := by omega
        obtain ⟨hok, hat⟩ := g2 hk0
        refine s_load0 X 5 rfl dL_law_2694 ?_
        refine s_const X (by unfold InR; omega) dL_law_2695 ?_
        refine s_lald X SHL_489 dL_law_2696 ?_
        rw [hat 489 0 (by omega), hat 489 1 (by omega), wrI_at]
        refine s_iload X 0 rfl dL_law_2697 ?_
        refine s_i2l X dL_law_2699 ?_
        refine s_lcmp X dL_law_2700 ?_
        refine s_ifeq_t (tgt := 2706) X dL_law_2701 (by omega) (fun _ => ?_) (fun q => absurd ((lcmpI_0 _ _).mpr rfl) q)
        refine s_goto (tgt := 3989) X dL_law_2706 (by omega) ?_
        refine s_loc [2, 3, 4, 5, 6, 7] rfl ?_
        exact s_le (by omega) (by omega) (hnx M2 g3)
    refine s_ifeq_t (tgt := 2672) X dL_law_2665 (by omega) (fun c1 => ?_) (fun c1 => ?_)
    · refine s_const X (by unfold InR; omega) dL_law_2672 ?_
      exact kB 0 (if_pos c1).symm
    · refine s_const X (by unfold InR; omega) dL_law_2668 ?_
      refine s_goto (tgt := 2673) X dL_law_2669 (by omega) ?_
      exact kB 1 (if_neg c1).symm
  refine s_ifeq_t (tgt := 2627) X dL_law_2620 (by omega) (fun c1 => ?_) (fun c1 => ?_)
  · refine s_const X (by unfold InR; omega) dL_law_2627 ?_
    exact kB 0 (if_pos c1).symm
  · refine s_const X (by unfold InR; omega) dL_law_2623 ?_
    refine s_goto (tgt := 2628) X dL_law_2624 (by omega) ?_
    exact kB 1 (if_neg c1).symm
set_option maxRecDepth 20000 in
set_option maxHeartbeats 4000000 in
theorem T_byPairs {G : Gl} {C : Ct} {b Ls : Nat} {xs : Nat → Int32} {Q : Ct → State → Prop} {Inv : Mem → Mem → Prop} {k n : Nat} {i : Int} {M : Mem} (LC : LawC G C b Ls xs) (hIC : InvC Inv) (hst : ST_byPairs Inv) (h0 : 0 ≤ i) (h6 : i + 6 ≤ Ls) (hk : k + 100 ≤ 603072) (hn : n + 600 ≤ 7223402) (hI : Inv M (offM 455 M)) (hnx : ∀ M2 : Mem, Inv M2 (offM 455 M2) → J SHL G room_1 (.inr Q) C (k + 100) (n + 600) 3989 (L0 i) [] M2) : J SHL G room_1 (.inr Q) C k n 2709 (L0 i) [] M := by
  obtain ⟨X, nc, hsc, hz, hL⟩ := LC
  have hL9 : (Ls : Int) ≤ 3072 := by omega
  refine s_ok (fun _ _ hM => ?_)
  refine s_load0 X 1 rfl dL_law_2709 ?_
  refine s_load0 X 0 rfl dL_law_2710 ?_
  refine s_iload X 5 rfl dL_law_2711 ?_
  refine s_const X (by unfold InR; omega) dL_law_2713 ?_
  refine s_iadd X (by unfold InR; omega) dL_law_2714 ?_
  refine s_sld X hsc hz (by omega) (by omega) dL_law_2715 ?_
  refine s_load0 X 0 rfl dL_law_2716 ?_
  refine s_iload X 5 rfl dL_law_2717 ?_
  refine s_const X (by unfold InR; omega) dL_law_2719 ?_
  refine s_iadd X (by unfold InR; omega) dL_law_2720 ?_
  refine s_sld X hsc hz (by omega) (by omega) dL_law_2721 ?_
  refine s_load0 X 0 rfl dL_law_2722 ?_
  refine s_iload X 5 rfl dL_law_2723 ?_
  refine s_const X (by unfold InR; omega) dL_law_2725 ?_
  refine s_iadd X (by unfold InR; omega) dL_law_2726 ?_
  refine s_sld X hsc hz (by omega) (by omega) dL_law_2727 ?_
  refine s_load0 X 0 rfl dL_law_2728 ?_
  refine s_iload X 5 rfl dL_law_2729 ?_
  refine s_const X (by unfold InR; omega) dL_law_2731 ?_
  refine s_iadd X (by unfold InR; omega) dL_law_2732 ?_
  refine s_sld X hsc hz (by omega) (by omega) dL_law_2733 ?_
  refine s_load0 X 3 rfl dL_law_2734 ?_
  obtain ⟨rc, rm0, e1, -, -, f1, f2⟩ := hst M (offM 455 M) ((xs (i + 1).toNat).toInt) ((xs (i + 2).toNat).toInt) ((xs (i + 3).toNat).toInt) ((xs (i + 4).toNat).toInt) hI hM (okM_off hM 455) (InR_of _) (InR_of _) (InR_of _) (InR_of _)
  have hH := H_byPairs G ((xs (i + 1).toNat).toInt) ((xs (i + 2).toNat).toInt) ((xs (i + 3).toNat).toInt) ((xs (i + 4).toNat).toInt) M rc e1 (fun x hx => (f2 x hx).1)
  rw [hout_eq] at hH
  refine s_callSW (As := [VR 0, VI ((xs (i + 1).toNat).toInt), VI ((xs (i + 2).toNat).toInt), VI ((xs (i + 3).toNat).toInt), VI ((xs (i + 4).toNat).toInt), VR 489]) X nc cwS_L_301 dL_law_2735 hH rfl ⟨Nat.le_of_ble_eq_true rfl, Nat.le_of_ble_eq_true rfl⟩ ⟨by show k + 5 ≤ 603072; omega, by show n + 30 ≤ 7223402; omega⟩ (Nat.le_of_ble_eq_true rfl) noX (kkR ?_)
  obtain ⟨M1, hM1⟩ : ∃ z, z = hmem wrI rc M := ⟨_, rfl⟩
  rw [← hM1]
  obtain ⟨kz, hkz⟩ : ∃ z, z = hcode [2, 0, 5] rc := ⟨_, rfl⟩
  show J SHL G room_1 (.inr Q) C (k + 5) (n + 30) 2738 [(0, VR 491), (1, VR 0), (2, VR 455), (3, VR 489), (4, VR 490), (5, VI i)] [VI (hcode [2, 0, 5] rc)] M1
  refine s_istore X hkz rfl (by omega) dL_law_2738 ?_
  show J SHL G room_1 (.inr Q) C (k + 5) (n + 30) 2740 [(6, VI kz), (0, VR 491), (1, VR 0), (2, VR 455), (3, VR 489), (4, VR 490), (5, VI i)] [] M1
  refine s_ok (fun _ _ hMM => ?_)
  have hI1 : Inv M (offM 455 M1) := inv_mid hIC hI (by rw [hM1]; exact (hmem_lo wrI_lo rc M).2)
  refine s_load0 X 3 rfl dL_law_2740 ?_
  refine s_load0 X 1 rfl dL_law_2741 ?_
  refine s_iload X 6 rfl dL_law_2742 ?_
  refine s_const X (by unfold InR; omega) dL_law_2744 ?_
  refine s_iadd X (by unfold InR; omega) dL_law_2745 ?_
  refine s_sld X hsc hz (by omega) (by omega) dL_law_2746 ?_
  refine s_load0 X 1 rfl dL_law_2747 ?_
  refine s_iload X 6 rfl dL_law_2748 ?_
  refine s_const X (by unfold InR; omega) dL_law_2750 ?_
  refine s_iadd X (by unfold InR; omega) dL_law_2751 ?_
  refine s_sld X hsc hz (by omega) (by omega) dL_law_2752 ?_
  refine s_load0 X 1 rfl dL_law_2753 ?_
  refine s_iload X 6 rfl dL_law_2754 ?_
  refine s_const X (by unfold InR; omega) dL_law_2756 ?_
  refine s_iadd X (by unfold InR; omega) dL_law_2757 ?_
  refine s_sld X hsc hz (by omega) (by omega) dL_law_2758 ?_
  refine s_load0 X 1 rfl dL_law_2759 ?_
  refine s_iload X 6 rfl dL_law_2760 ?_
  refine s_const X (by unfold InR; omega) dL_law_2762 ?_
  refine s_iadd X (by unfold InR; omega) dL_law_2763 ?_
  refine s_sld X hsc hz (by omega) (by omega) dL_law_2764 ?_
  obtain ⟨rc2, rm, e1b, e2, hI2, h1, h2⟩ := hst M (offM 455 M1) ((xs (i + 1).toNat).toInt) ((xs (i + 2).toNat).toInt) ((xs (i + 3).toNat).toInt) ((xs (i + 4).toNat).toInt) hI1 hM (okM_off hMM 455) (InR_of _) (InR_of _) (InR_of _) (InR_of _)
  cases e1.symm.trans e1b
  refine s_callVH (As := [VI ((xs (i + 1).toNat).toInt), VI ((xs (i + 2).toNat).toInt), VI ((xs (i + 3).toNat).toInt), VI ((xs (i + 4).toNat).toInt)]) X cw_L_303 SHL_455 rfl dL_law_2765 (con_M (As := [VR 0, VI ((xs (i + 1).toNat).toInt), VI ((xs (i + 2).toNat).toInt), VI ((xs (i + 3).toNat).toInt), VI ((xs (i + 4).toNat).toInt)]) nrI (L_M_byPairs (offG G 455) ((xs (i + 1).toNat).toInt) ((xs (i + 2).toNat).toInt) ((xs (i + 3).toNat).toInt) ((xs (i + 4).toNat).toInt) (offM 455 M1) rm e2)) rfl ⟨Nat.le_of_ble_eq_true rfl, Nat.le_of_ble_eq_true rfl⟩ ⟨by show k + 5 + 0 ≤ 603072; omega, by show n + 30 + 0 ≤ 7223402; omega⟩ (Nat.le_of_ble_eq_true rfl) noX (kkR ?_)
  obtain ⟨g1, g2, g3⟩ := ag_use hIC wrI_lo (M := M) hI2 h1 h2
  rw [← hM1] at g1 g2 g3
  obtain ⟨M2, hM2⟩ : ∃ z, z = putM 455 34 M1 rm.2 := ⟨_, rfl⟩
  rw [← hM2] at g1 g2 g3 ⊢
  rw [← hkz] at g1 g2
  obtain ⟨bz, hbz⟩ : ∃ z, z = rm.1 := ⟨_, rfl⟩
  rw [← hbz] at g2
  show J SHL G room_1 (.inr Q) C (k + 5) (n + 30) 2768 [(6, VI kz), (0, VR 491), (1, VR 0), (2, VR 455), (3, VR 489), (4, VR 490), (5, VI i)] [VI rm.1] M2
  refine s_istore X hbz rfl (by omega) dL_law_2768 ?_
  show J SHL G room_1 (.inr Q) C (k + 5) (n + 30) 2770 [(7, VI bz), (6, VI kz), (0, VR 491), (1, VR 0), (2, VR 455), (3, VR 489), (4, VR 490), (5, VI i)] [] M2
  refine s_load0 X 4 rfl dL_law_2770 ?_
  refine s_callVH (As := []) X cw_L_188 SHL_455 rfl dL_law_2771 (con_Mr (As := [VR 0]) nrI (L_M_thrown (offG G 455) (offM 455 M2) (offM 455 M2 0 0) rfl)) rfl ⟨Nat.le_of_ble_eq_true rfl, Nat.le_of_ble_eq_true rfl⟩ ⟨by show k + 5 + 0 ≤ 603072; omega, by show n + 30 + 0 ≤ 7223402; omega⟩ (Nat.le_of_ble_eq_true rfl) noX (kkR ?_)
  show J SHL G room_1 (.inr Q) C (k + 5) (n + 30) 2774 [(7, VI bz), (6, VI kz), (0, VR 491), (1, VR 0), (2, VR 455), (3, VR 489), (4, VR 490), (5, VI i)] [VI (M2 455 0)] M2
  rw [g1]
  refine s_iload X 1 rfl dL_law_2774 ?_
  refine s_icmpeq_t (tgt := 2781) X dL_law_2776 (by omega) (fun _ => ?_) (fun q => absurd rfl q)
  refine s_iload X 1 rfl dL_law_2781 ?_
  refine s_ifne_t (tgt := 2798) X dL_law_2783 (by omega) (fun _ => ?_) (fun q => ?_)
  · refine s_goto (tgt := 3989) X dL_law_2798 (by omega) ?_
    refine s_loc [2, 3, 4, 5, 6, 7] rfl ?_
    exact s_le (by omega) (by omega) (hnx M2 g3)
  · have hk0 : kz = 0 := by omega
    obtain ⟨hok, hat⟩ := g2 hk0
    refine s_load0 X 5 rfl dL_law_2786 ?_
    refine s_const X (by unfold InR; omega) dL_law_2787 ?_
    refine s_lald X SHL_489 dL_law_2788 ?_
    rw [hat 489 0 (by omega), hat 489 1 (by omega), wrI_at]
    refine s_iload X 0 rfl dL_law_2789 ?_
    refine s_i2l X dL_law_2791 ?_
    refine s_lcmp X dL_law_2792 ?_
    refine s_ifeq_t (tgt := 2798) X dL_law_2793 (by omega) (fun _ => ?_) (fun q => absurd ((lcmpI_0 _ _).mpr rfl) q)
    refine s_goto (tgt := 3989) X dL_law_2798 (by omega) ?_
    refine s_loc [2, 3, 4, 5, 6, 7] rfl ?_
    exact s_le (by omega) (by omega) (hnx M2 g3)
set_option maxRecDepth 20000 in
set_option maxHeartbeats 4000000 in
theorem T_choices {G : Gl} {C : Ct} {b Ls : Nat} {xs : Nat → Int32} {Q : Ct → State → Prop} {Inv : Mem → Mem → Prop} {k n : Nat} {i : Int} {M : Mem} (LC : LawC G C b Ls xs) (hIC : InvC Inv) (hst : ST_choices Inv) (h0 : 0 ≤ i) (h6 : i + 6 ≤ Ls) (hk : k + 100 ≤ 603072) (hn : n + 600 ≤ 7223402) (hI : Inv M (offM 455 M)) (hnx : ∀ M2 : Mem, Inv M2 (offM 455 M2) → J SHL G room_1 (.inr Q) C (k + 100) (n + 600) 3989 (L0 i) [] M2) : J SHL G room_1 (.inr Q) C k n 2801 (L0 i) [] M := by
  obtain ⟨X, nc, hsc, hz, hL⟩ := LC
  have hL9 : (Ls : Int) ≤ 3072 := by omega
  refine s_ok (fun _ _ hM => ?_)
  refine s_load0 X 1 rfl dL_law_2801 ?_
  refine s_load0 X 0 rfl dL_law_2802 ?_
  refine s_iload X 5 rfl dL_law_2803 ?_
  refine s_const X (by unfold InR; omega) dL_law_2805 ?_
  refine s_iadd X (by unfold InR; omega) dL_law_2806 ?_
  refine s_sld X hsc hz (by omega) (by omega) dL_law_2807 ?_
  refine s_load0 X 0 rfl dL_law_2808 ?_
  refine s_iload X 5 rfl dL_law_2809 ?_
  refine s_const X (by unfold InR; omega) dL_law_2811 ?_
  refine s_iadd X (by unfold InR; omega) dL_law_2812 ?_
  refine s_sld X hsc hz (by omega) (by omega) dL_law_2813 ?_
  refine s_load0 X 0 rfl dL_law_2814 ?_
  refine s_iload X 5 rfl dL_law_2815 ?_
  refine s_const X (by unfold InR; omega) dL_law_2817 ?_
  refine s_iadd X (by unfold InR; omega) dL_law_2818 ?_
  refine s_sld X hsc hz (by omega) (by omega) dL_law_2819 ?_
  refine s_load0 X 0 rfl dL_law_2820 ?_
  refine s_iload X 5 rfl dL_law_2821 ?_
  refine s_const X (by unfold InR; omega) dL_law_2823 ?_
  refine s_iadd X (by unfold InR; omega) dL_law_2824 ?_
  refine s_sld X hsc hz (by omega) (by omega) dL_law_2825 ?_
  refine s_load0 X 3 rfl dL_law_2826 ?_
  obtain ⟨rc, rm0, e1, -, -, f1, f2⟩ := hst M (offM 455 M) ((xs (i + 1).toNat).toInt) ((xs (i + 2).toNat).toInt) ((xs (i + 3).toNat).toInt) ((xs (i + 4).toNat).toInt) hI hM (okM_off hM 455) (InR_of _) (InR_of _) (InR_of _) (InR_of _)
  have hH := H_choices G ((xs (i + 1).toNat).toInt) ((xs (i + 2).toNat).toInt) ((xs (i + 3).toNat).toInt) ((xs (i + 4).toNat).toInt) M rc e1 (fun x hx => (f2 x hx).1)
  rw [hout_eq] at hH
  refine s_callSW (As := [VR 0, VI ((xs (i + 1).toNat).toInt), VI ((xs (i + 2).toNat).toInt), VI ((xs (i + 3).toNat).toInt), VI ((xs (i + 4).toNat).toInt), VR 489]) X nc cwS_L_304 dL_law_2827 hH rfl ⟨Nat.le_of_ble_eq_true rfl, Nat.le_of_ble_eq_true rfl⟩ ⟨by show k + 4 ≤ 603072; omega, by show n + 24 ≤ 7223402; omega⟩ (Nat.le_of_ble_eq_true rfl) noX (kkR ?_)
  obtain ⟨M1, hM1⟩ : ∃ z, z = hmem wrI rc M := ⟨_, rfl⟩
  rw [← hM1]
  obtain ⟨kz, hkz⟩ : ∃ z, z = hcode [2, 0] rc := ⟨_, rfl⟩
  show J SHL G room_1 (.inr Q) C (k + 4) (n + 24) 2830 [(0, VR 491), (1, VR 0), (2, VR 455), (3, VR 489), (4, VR 490), (5, VI i)] [VI (hcode [2, 0] rc)] M1
  refine s_istore X hkz rfl (by omega) dL_law_2830 ?_
  show J SHL G room_1 (.inr Q) C (k + 4) (n + 24) 2832 [(6, VI kz), (0, VR 491), (1, VR 0), (2, VR 455), (3, VR 489), (4, VR 490), (5, VI i)] [] M1
  refine s_ok (fun _ _ hMM => ?_)
  have hI1 : Inv M (offM 455 M1) := inv_mid hIC hI (by rw [hM1]; exact (hmem_lo wrI_lo rc M).2)
  refine s_load0 X 3 rfl dL_law_2832 ?_
  refine s_load0 X 1 rfl dL_law_2833 ?_
  refine s_iload X 6 rfl dL_law_2834 ?_
  refine s_const X (by unfold InR; omega) dL_law_2836 ?_
  refine s_iadd X (by unfold InR; omega) dL_law_2837 ?_
  refine s_sld X hsc hz (by omega) (by omega) dL_law_2838 ?_
  refine s_load0 X 1 rfl dL_law_2839 ?_
  refine s_iload X 6 rfl dL_law_2840 ?_
  refine s_const X (by unfold InR; omega) dL_law_2842 ?_
  refine s_iadd X (by unfold InR; omega) dL_law_2843 ?_
  refine s_sld X hsc hz (by omega) (by omega) dL_law_2844 ?_
  refine s_load0 X 1 rfl dL_law_2845 ?_
  refine s_iload X 6 rfl dL_law_2846 ?_
  refine s_const X (by unfold InR; omega) dL_law_2848 ?_
  refine s_iadd X (by unfold InR; omega) dL_law_2849 ?_
  refine s_sld X hsc hz (by omega) (by omega) dL_law_2850 ?_
  refine s_load0 X 1 rfl dL_law_2851 ?_
  refine s_iload X 6 rfl dL_law_2852 ?_
  refine s_const X (by unfold InR; omega) dL_law_2854 ?_
  refine s_iadd X (by unfold InR; omega) dL_law_2855 ?_
  refine s_sld X hsc hz (by omega) (by omega) dL_law_2856 ?_
  obtain ⟨rc2, rm, e1b, e2, hI2, h1, h2⟩ := hst M (offM 455 M1) ((xs (i + 1).toNat).toInt) ((xs (i + 2).toNat).toInt) ((xs (i + 3).toNat).toInt) ((xs (i + 4).toNat).toInt) hI1 hM (okM_off hMM 455) (InR_of _) (InR_of _) (InR_of _) (InR_of _)
  cases e1.symm.trans e1b
  refine s_callVH (As := [VI ((xs (i + 1).toNat).toInt), VI ((xs (i + 2).toNat).toInt), VI ((xs (i + 3).toNat).toInt), VI ((xs (i + 4).toNat).toInt)]) X cw_L_306 SHL_455 rfl dL_law_2857 (con_M (As := [VR 0, VI ((xs (i + 1).toNat).toInt), VI ((xs (i + 2).toNat).toInt), VI ((xs (i + 3).toNat).toInt), VI ((xs (i + 4).toNat).toInt)]) nrI (L_M_choices (offG G 455) ((xs (i + 1).toNat).toInt) ((xs (i + 2).toNat).toInt) ((xs (i + 3).toNat).toInt) ((xs (i + 4).toNat).toInt) (offM 455 M1) rm e2)) rfl ⟨Nat.le_of_ble_eq_true rfl, Nat.le_of_ble_eq_true rfl⟩ ⟨by show k + 4 + 0 ≤ 603072; omega, by show n + 24 + 0 ≤ 7223402; omega⟩ (Nat.le_of_ble_eq_true rfl) noX (kkR ?_)
  obtain ⟨g1, g2, g3⟩ := ag_use hIC wrI_lo (M := M) hI2 h1 h2
  rw [← hM1] at g1 g2 g3
  obtain ⟨M2, hM2⟩ : ∃ z, z = putM 455 34 M1 rm.2 := ⟨_, rfl⟩
  rw [← hM2] at g1 g2 g3 ⊢
  rw [← hkz] at g1 g2
  obtain ⟨bz, hbz⟩ : ∃ z, z = rm.1 := ⟨_, rfl⟩
  rw [← hbz] at g2
  show J SHL G room_1 (.inr Q) C (k + 4) (n + 24) 2860 [(6, VI kz), (0, VR 491), (1, VR 0), (2, VR 455), (3, VR 489), (4, VR 490), (5, VI i)] [VI rm.1] M2
  refine s_istore X hbz rfl (by omega) dL_law_2860 ?_
  show J SHL G room_1 (.inr Q) C (k + 4) (n + 24) 2862 [(7, VI bz), (6, VI kz), (0, VR 491), (1, VR 0), (2, VR 455), (3, VR 489), (4, VR 490), (5, VI i)] [] M2
  refine s_load0 X 4 rfl dL_law_2862 ?_
  refine s_callVH (As := []) X cw_L_188 SHL_455 rfl dL_law_2863 (con_Mr (As := [VR 0]) nrI (L_M_thrown (offG G 455) (offM 455 M2) (offM 455 M2 0 0) rfl)) rfl ⟨Nat.le_of_ble_eq_true rfl, Nat.le_of_ble_eq_true rfl⟩ ⟨by show k + 4 + 0 ≤ 603072; omega, by show n + 24 + 0 ≤ 7223402; omega⟩ (Nat.le_of_ble_eq_true rfl) noX (kkR ?_)
  show J SHL G room_1 (.inr Q) C (k + 4) (n + 24) 2866 [(7, VI bz), (6, VI kz), (0, VR 491), (1, VR 0), (2, VR 455), (3, VR 489), (4, VR 490), (5, VI i)] [VI (M2 455 0)] M2
  rw [g1]
  refine s_iload X 1 rfl dL_law_2866 ?_
  refine s_icmpeq_t (tgt := 2873) X dL_law_2868 (by omega) (fun _ => ?_) (fun q => absurd rfl q)
  refine s_iload X 1 rfl dL_law_2873 ?_
  refine s_ifne_t (tgt := 2890) X dL_law_2875 (by omega) (fun _ => ?_) (fun q => ?_)
  · refine s_goto (tgt := 3989) X dL_law_2890 (by omega) ?_
    refine s_loc [2, 3, 4, 5, 6, 7] rfl ?_
    exact s_le (by omega) (by omega) (hnx M2 g3)
  · have hk0 : kz = 0 := by omega
    obtain ⟨hok, hat⟩ := g2 hk0
    refine s_load0 X 5 rfl dL_law_2878 ?_
    refine s_const X (by unfold InR; omega) dL_law_2879 ?_
    refine s_lald X SHL_489 dL_law_2880 ?_
    rw [hat 489 0 (by omega), hat 489 1 (by omega), wrI_at]
    refine s_iload X 0 rfl dL_law_2881 ?_
    refine s_i2l X dL_law_2883 ?_
    refine s_lcmp X dL_law_2884 ?_
    refine s_ifeq_t (tgt := 2890) X dL_law_2885 (by omega) (fun _ => ?_) (fun q => absurd ((lcmpI_0 _ _).mpr rfl) q)
    refine s_goto (tgt := 3989) X dL_law_2890 (by omega) ?_
    refine s_loc [2, 3, 4, 5, 6, 7] rfl ?_
    exact s_le (by omega) (by omega) (hnx M2 g3)
set_option maxRecDepth 20000 in
set_option maxHeartbeats 4000000 in
theorem T_choice {G : Gl} {C : Ct} {b Ls : Nat} {xs : Nat → Int32} {Q : Ct → State → Prop} {Inv : Mem → Mem → Prop} {k n : Nat} {i : Int} {M : Mem} (LC : LawC G C b Ls xs) (hIC : InvC Inv) (hst : ST_choice Inv) (h0 : 0 ≤ i) (h6 : i + 6 ≤ Ls) (hk : k + 100 ≤ 603072) (hn : n + 600 ≤ 7223402) (hI : Inv M (offM 455 M)) (hnx : ∀ M2 : Mem, Inv M2 (offM 455 M2) → J SHL G room_1 (.inr Q) C (k + 100) (n + 600) 3989 (L0 i) [] M2) : J SHL G room_1 (.inr Q) C k n 2893 (L0 i) [] M := by
  obtain ⟨X, nc, hsc, hz, hL⟩ := LC
  have hL9 : (Ls : Int) ≤ 3072 := by omega
  refine s_ok (fun _ _ hM => ?_)
  refine s_load0 X 1 rfl dL_law_2893 ?_
  refine s_load0 X 0 rfl dL_law_2894 ?_
  refine s_iload X 5 rfl dL_law_2895 ?_
  refine s_const X (by unfold InR; omega) dL_law_2897 ?_
  refine s_iadd X (by unfold InR; omega) dL_law_2898 ?_
  refine s_sld X hsc hz (by omega) (by omega) dL_law_2899 ?_
  refine s_load0 X 0 rfl dL_law_2900 ?_
  refine s_iload X 5 rfl dL_law_2901 ?_
  refine s_const X (by unfold InR; omega) dL_law_2903 ?_
  refine s_iadd X (by unfold InR; omega) dL_law_2904 ?_
  refine s_sld X hsc hz (by omega) (by omega) dL_law_2905 ?_
  refine s_load0 X 0 rfl dL_law_2906 ?_
  refine s_iload X 5 rfl dL_law_2907 ?_
  refine s_const X (by unfold InR; omega) dL_law_2909 ?_
  refine s_iadd X (by unfold InR; omega) dL_law_2910 ?_
  refine s_sld X hsc hz (by omega) (by omega) dL_law_2911 ?_
  refine s_load0 X 0 rfl dL_law_2912 ?_
  refine s_iload X 5 rfl dL_law_2913 ?_
  refine s_const X (by unfold InR; omega) dL_law_2915 ?_
  refine s_iadd X (by unfold InR; omega) dL_law_2916 ?_
  refine s_sld X hsc hz (by omega) (by omega) dL_law_2917 ?_
  refine s_load0 X 0 rfl dL_law_2918 ?_
  refine s_iload X 5 rfl dL_law_2919 ?_
  refine s_const X (by unfold InR; omega) dL_law_2921 ?_
  refine s_iadd X (by unfold InR; omega) dL_law_2922 ?_
  refine s_sld X hsc hz (by omega) (by omega) dL_law_2923 ?_
  refine s_load0 X 3 rfl dL_law_2924 ?_
  obtain ⟨rc, rm0, e1, -, -, f1, f2⟩ := hst M (offM 455 M) ((xs (i + 1).toNat).toInt) ((xs (i + 2).toNat).toInt) ((xs (i + 3).toNat).toInt) ((xs (i + 4).toNat).toInt) ((xs (i + 5).toNat).toInt) hI hM (okM_off hM 455) (InR_of _) (InR_of _) (InR_of _) (InR_of _) (InR_of _)
  have hH := H_choice G ((xs (i + 1).toNat).toInt) ((xs (i + 2).toNat).toInt) ((xs (i + 3).toNat).toInt) ((xs (i + 4).toNat).toInt) ((xs (i + 5).toNat).toInt) M rc e1 (fun x hx => (f2 x hx).1)
  rw [hout_eq] at hH
  refine s_callSW (As := [VR 0, VI ((xs (i + 1).toNat).toInt), VI ((xs (i + 2).toNat).toInt), VI ((xs (i + 3).toNat).toInt), VI ((xs (i + 4).toNat).toInt), VI ((xs (i + 5).toNat).toInt), VR 489]) X nc cwS_L_307 dL_law_2925 hH rfl ⟨Nat.le_of_ble_eq_true rfl, Nat.le_of_ble_eq_true rfl⟩ ⟨by show k + 5 ≤ 603072; omega, by show n + 30 ≤ 7223402; omega⟩ (Nat.le_of_ble_eq_true rfl) noX (kkR ?_)
  obtain ⟨M1, hM1⟩ : ∃ z, z = hmem wrI rc M := ⟨_, rfl⟩
  rw [← hM1]
  obtain ⟨kz, hkz⟩ : ∃ z, z = hcode [2, 0, 5] rc := ⟨_, rfl⟩
  show J SHL G room_1 (.inr Q) C (k + 5) (n + 30) 2928 [(0, VR 491), (1, VR 0), (2, VR 455), (3, VR 489), (4, VR 490), (5, VI i)] [VI (hcode [2, 0, 5] rc)] M1
  refine s_istore X hkz rfl (by omega) dL_law_2928 ?_
  show J SHL G room_1 (.inr Q) C (k + 5) (n + 30) 2930 [(6, VI kz), (0, VR 491), (1, VR 0), (2, VR 455), (3, VR 489), (4, VR 490), (5, VI i)] [] M1
  refine s_ok (fun _ _ hMM => ?_)
  have hI1 : Inv M (offM 455 M1) := inv_mid hIC hI (by rw [hM1]; exact (hmem_lo wrI_lo rc M).2)
  refine s_load0 X 3 rfl dL_law_2930 ?_
  refine s_load0 X 1 rfl dL_law_2931 ?_
  refine s_iload X 6 rfl dL_law_2932 ?_
  refine s_const X (by unfold InR; omega) dL_law_2934 ?_
  refine s_iadd X (by unfold InR; omega) dL_law_2935 ?_
  refine s_sld X hsc hz (by omega) (by omega) dL_law_2936 ?_
  refine s_load0 X 1 rfl dL_law_2937 ?_
  refine s_iload X 6 rfl dL_law_2938 ?_
  refine s_const X (by unfold InR; omega) dL_law_2940 ?_
  refine s_iadd X (by unfold InR; omega) dL_law_2941 ?_
  refine s_sld X hsc hz (by omega) (by omega) dL_law_2942 ?_
  refine s_load0 X 1 rfl dL_law_2943 ?_
  refine s_iload X 6 rfl dL_law_2944 ?_
  refine s_const X (by unfold InR; omega) dL_law_2946 ?_
  refine s_iadd X (by unfold InR; omega) dL_law_2947 ?_
  refine s_sld X hsc hz (by omega) (by omega) dL_law_2948 ?_
  refine s_load0 X 1 rfl dL_law_2949 ?_
  refine s_iload X 6 rfl dL_law_2950 ?_
  refine s_const X (by unfold InR; omega) dL_law_2952 ?_
  refine s_iadd X (by unfold InR; omega) dL_law_2953 ?_
  refine s_sld X hsc hz (by omega) (by omega) dL_law_2954 ?_
  refine s_load0 X 1 rfl dL_law_2955 ?_
  refine s_iload X 6 rfl dL_law_2956 ?_
  refine s_const X (by unfold InR; omega) dL_law_2958 ?_
  refine s_iadd X (by unfold InR; omega) dL_law_2959 ?_
  refine s_sld X hsc hz (by omega) (by omega) dL_law_2960 ?_
  obtain ⟨rc2, rm, e1b, e2, hI2, h1, h2⟩ := hst M (offM 455 M1) ((xs (i + 1).toNat).toInt) ((xs (i + 2).toNat).toInt) ((xs (i + 3).toNat).toInt) ((xs (i + 4).toNat).toInt) ((xs (i + 5).toNat).toInt) hI1 hM (okM_off hMM 455) (InR_of _) (InR_of _) (InR_of _) (InR_of _) (InR_of _)
  cases e1.symm.trans e1b
  refine s_callVH (As := [VI ((xs (i + 1).toNat).toInt), VI ((xs (i + 2).toNat).toInt), VI ((xs (i + 3).toNat).toInt), VI ((xs (i + 4).toNat).toInt), VI ((xs (i + 5).toNat).toInt)]) X cw_L_310 SHL_455 rfl dL_law_2961 (con_M (As := [VR 0, VI ((xs (i + 1).toNat).toInt), VI ((xs (i + 2).toNat).toInt), VI ((xs (i + 3).toNat).toInt), VI ((xs (i + 4).toNat).toInt), VI ((xs (i + 5).toNat).toInt)]) nrI (L_M_choice (offG G 455) ((xs (i + 1).toNat).toInt) ((xs (i + 2).toNat).toInt) ((xs (i + 3).toNat).toInt) ((xs (i + 4).toNat).toInt) ((xs (i + 5).toNat).toInt) (offM 455 M1) rm e2)) rfl ⟨Nat.le_of_ble_eq_true rfl, Nat.le_of_ble_eq_true rfl⟩ ⟨by show k + 5 + 0 ≤ 603072; omega, by show n + 30 + 0 ≤ 7223402; omega⟩ (Nat.le_of_ble_eq_true rfl) noX (kkR ?_)
  obtain ⟨g1, g2, g3⟩ := ag_use hIC wrI_lo (M := M) hI2 h1 h2
  rw [← hM1] at g1 g2 g3
  obtain ⟨M2, hM2⟩ : ∃ z, z = putM 455 34 M1 rm.2 := ⟨_, rfl⟩
  rw [← hM2] at g1 g2 g3 ⊢
  rw [← hkz] at g1 g2
  obtain ⟨bz, hbz⟩ : ∃ z, z = rm.1 := ⟨_, rfl⟩
  rw [← hbz] at g2
  show J SHL G room_1 (.inr Q) C (k + 5) (n + 30) 2964 [(6, VI kz), (0, VR 491), (1, VR 0), (2, VR 455), (3, VR 489), (4, VR 490), (5, VI i)] [VI rm.1] M2
  refine s_istore X hbz rfl (by omega) dL_law_2964 ?_
  show J SHL G room_1 (.inr Q) C (k + 5) (n + 30) 2966 [(7, VI bz), (6, VI kz), (0, VR 491), (1, VR 0), (2, VR 455), (3, VR 489), (4, VR 490), (5, VI i)] [] M2
  refine s_load0 X 4 rfl dL_law_2966 ?_
  refine s_callVH (As := []) X cw_L_188 SHL_455 rfl dL_law_2967 (con_Mr (As := [VR 0]) nrI (L_M_thrown (offG G 455) (offM 455 M2) (offM 455 M2 0 0) rfl)) rfl ⟨Nat.le_of_ble_eq_true rfl, Nat.le_of_ble_eq_true rfl⟩ ⟨by show k + 5 + 0 ≤ 603072; omega, by show n + 30 + 0 ≤ 7223402; omega⟩ (Nat.le_of_ble_eq_true rfl) noX (kkR ?_)
  show J SHL G room_1 (.inr Q) C (k + 5) (n + 30) 2970 [(7, VI bz), (6, VI kz), (0, VR 491), (1, VR 0), (2, VR 455), (3, VR 489), (4, VR 490), (5, VI i)] [VI (M2 455 0)] M2
  rw [g1]
  refine s_iload X 1 rfl dL_law_2970 ?_
  refine s_icmpeq_t (tgt := 2977) X dL_law_2972 (by omega) (fun _ => ?_) (fun q => absurd rfl q)
  refine s_iload X 1 rfl dL_law_2977 ?_
  refine s_ifne_t (tgt := 2994) X dL_law_2979 (by omega) (fun _ => ?_) (fun q => ?_)
  · refine s_goto (tgt := 3989) X dL_law_2994 (by omega) ?_
    refine s_loc [2, 3, 4, 5, 6, 7] rfl ?_
    exact s_le (by omega) (by omega) (hnx M2 g3)
  · have hk0 : kz = 0 := by omega
    obtain ⟨hok, hat⟩ := g2 hk0
    refine s_load0 X 5 rfl dL_law_2982 ?_
    refine s_const X (by unfold InR; omega) dL_law_2983 ?_
    refine s_lald X SHL_489 dL_law_2984 ?_
    rw [hat 489 0 (by omega), hat 489 1 (by omega), wrI_at]
    refine s_iload X 0 rfl dL_law_2985 ?_
    refine s_i2l X dL_law_2987 ?_
    refine s_lcmp X dL_law_2988 ?_
    refine s_ifeq_t (tgt := 2994) X dL_law_2989 (by omega) (fun _ => ?_) (fun q => absurd ((lcmpI_0 _ _).mpr rfl) q)
    refine s_goto (tgt := 3989) X dL_law_2994 (by omega) ?_
    refine s_loc [2, 3, 4, 5, 6, 7] rfl ?_
    exact s_le (by omega) (by omega) (hnx M2 g3)
set_option maxRecDepth 20000 in
set_option maxHeartbeats 4000000 in
theorem T_holds {G : Gl} {C : Ct} {b Ls : Nat} {xs : Nat → Int32} {Q : Ct → State → Prop} {Inv : Mem → Mem → Prop} {k n : Nat} {i : Int} {M : Mem} (LC : LawC G C b Ls xs) (hIC : InvC Inv) (hst : ST_holds Inv) (h0 : 0 ≤ i) (h6 : i + 6 ≤ Ls) (hk : k + 100 ≤ 603072) (hn : n + 600 ≤ 7223402) (hI : Inv M (offM 455 M)) (hnx : ∀ M2 : Mem, Inv M2 (offM 455 M2) → J SHL G room_1 (.inr Q) C (k + 100) (n + 600) 3989 (L0 i) [] M2) : J SHL G room_1 (.inr Q) C k n 2997 (L0 i) [] M := by
  obtain ⟨X, nc, hsc, hz, hL⟩ := LC
  have hL9 : (Ls : Int) ≤ 3072 := by omega
  refine s_ok (fun _ _ hM => ?_)
  refine s_load0 X 1 rfl dL_law_2997 ?_
  refine s_load0 X 0 rfl dL_law_2998 ?_
  refine s_iload X 5 rfl dL_law_2999 ?_
  refine s_const X (by unfold InR; omega) dL_law_3001 ?_
  refine s_iadd X (by unfold InR; omega) dL_law_3002 ?_
  refine s_sld X hsc hz (by omega) (by omega) dL_law_3003 ?_
  refine s_load0 X 0 rfl dL_law_3004 ?_
  refine s_iload X 5 rfl dL_law_3005 ?_
  refine s_const X (by unfold InR; omega) dL_law_3007 ?_
  refine s_iadd X (by unfold InR; omega) dL_law_3008 ?_
  refine s_sld X hsc hz (by omega) (by omega) dL_law_3009 ?_
  refine s_load0 X 0 rfl dL_law_3010 ?_
  refine s_iload X 5 rfl dL_law_3011 ?_
  refine s_const X (by unfold InR; omega) dL_law_3013 ?_
  refine s_iadd X (by unfold InR; omega) dL_law_3014 ?_
  refine s_sld X hsc hz (by omega) (by omega) dL_law_3015 ?_
  refine s_load0 X 0 rfl dL_law_3016 ?_
  refine s_iload X 5 rfl dL_law_3017 ?_
  refine s_const X (by unfold InR; omega) dL_law_3019 ?_
  refine s_iadd X (by unfold InR; omega) dL_law_3020 ?_
  refine s_sld X hsc hz (by omega) (by omega) dL_law_3021 ?_
  refine s_load0 X 0 rfl dL_law_3022 ?_
  refine s_iload X 5 rfl dL_law_3023 ?_
  refine s_const X (by unfold InR; omega) dL_law_3025 ?_
  refine s_iadd X (by unfold InR; omega) dL_law_3026 ?_
  refine s_sld X hsc hz (by omega) (by omega) dL_law_3027 ?_
  refine s_load0 X 3 rfl dL_law_3028 ?_
  obtain ⟨rc, rm0, e1, -, -, f1, f2⟩ := hst M (offM 455 M) ((xs (i + 1).toNat).toInt) ((xs (i + 2).toNat).toInt) ((xs (i + 3).toNat).toInt) ((xs (i + 4).toNat).toInt) ((xs (i + 5).toNat).toInt) hI hM (okM_off hM 455) (InR_of _) (InR_of _) (InR_of _) (InR_of _) (InR_of _)
  have hH := H_holds G ((xs (i + 1).toNat).toInt) ((xs (i + 2).toNat).toInt) ((xs (i + 3).toNat).toInt) ((xs (i + 4).toNat).toInt) ((xs (i + 5).toNat).toInt) M rc e1 (fun x hx => (f2 x hx).1)
  rw [hout_eq] at hH
  refine s_callSW (As := [VR 0, VI ((xs (i + 1).toNat).toInt), VI ((xs (i + 2).toNat).toInt), VI ((xs (i + 3).toNat).toInt), VI ((xs (i + 4).toNat).toInt), VI ((xs (i + 5).toNat).toInt), VR 489]) X nc cwS_L_311 dL_law_3029 hH rfl ⟨Nat.le_of_ble_eq_true rfl, Nat.le_of_ble_eq_true rfl⟩ ⟨by show k + 10 ≤ 603072; omega, by show n + 60 ≤ 7223402; omega⟩ (Nat.le_of_ble_eq_true rfl) noX (kkR ?_)
  obtain ⟨M1, hM1⟩ : ∃ z, z = hmem wrB rc M := ⟨_, rfl⟩
  rw [← hM1]
  obtain ⟨kz, hkz⟩ : ∃ z, z = hcode [2, 0, 4, 5] rc := ⟨_, rfl⟩
  show J SHL G room_1 (.inr Q) C (k + 10) (n + 60) 3032 [(0, VR 491), (1, VR 0), (2, VR 455), (3, VR 489), (4, VR 490), (5, VI i)] [VI (hcode [2, 0, 4, 5] rc)] M1
  refine s_istore X hkz rfl (by omega) dL_law_3032 ?_
  show J SHL G room_1 (.inr Q) C (k + 10) (n + 60) 3034 [(6, VI kz), (0, VR 491), (1, VR 0), (2, VR 455), (3, VR 489), (4, VR 490), (5, VI i)] [] M1
  refine s_ok (fun _ _ hMM => ?_)
  have hI1 : Inv M (offM 455 M1) := inv_mid hIC hI (by rw [hM1]; exact (hmem_lo wrB_lo rc M).2)
  refine s_load0 X 3 rfl dL_law_3034 ?_
  refine s_load0 X 1 rfl dL_law_3035 ?_
  refine s_iload X 6 rfl dL_law_3036 ?_
  refine s_const X (by unfold InR; omega) dL_law_3038 ?_
  refine s_iadd X (by unfold InR; omega) dL_law_3039 ?_
  refine s_sld X hsc hz (by omega) (by omega) dL_law_3040 ?_
  refine s_load0 X 1 rfl dL_law_3041 ?_
  refine s_iload X 6 rfl dL_law_3042 ?_
  refine s_const X (by unfold InR; omega) dL_law_3044 ?_
  refine s_iadd X (by unfold InR; omega) dL_law_3045 ?_
  refine s_sld X hsc hz (by omega) (by omega) dL_law_3046 ?_
  refine s_load0 X 1 rfl dL_law_3047 ?_
  refine s_iload X 6 rfl dL_law_3048 ?_
  refine s_const X (by unfold InR; omega) dL_law_3050 ?_
  refine s_iadd X (by unfold InR; omega) dL_law_3051 ?_
  refine s_sld X hsc hz (by omega) (by omega) dL_law_3052 ?_
  refine s_load0 X 1 rfl dL_law_3053 ?_
  refine s_iload X 6 rfl dL_law_3054 ?_
  refine s_const X (by unfold InR; omega) dL_law_3056 ?_
  refine s_iadd X (by unfold InR; omega) dL_law_3057 ?_
  refine s_sld X hsc hz (by omega) (by omega) dL_law_3058 ?_
  refine s_load0 X 1 rfl dL_law_3059 ?_
  refine s_iload X 6 rfl dL_law_3060 ?_
  refine s_const X (by unfold InR; omega) dL_law_3062 ?_
  refine s_iadd X (by unfold InR; omega) dL_law_3063 ?_
  refine s_sld X hsc hz (by omega) (by omega) dL_law_3064 ?_
  obtain ⟨rc2, rm, e1b, e2, hI2, h1, h2⟩ := hst M (offM 455 M1) ((xs (i + 1).toNat).toInt) ((xs (i + 2).toNat).toInt) ((xs (i + 3).toNat).toInt) ((xs (i + 4).toNat).toInt) ((xs (i + 5).toNat).toInt) hI1 hM (okM_off hMM 455) (InR_of _) (InR_of _) (InR_of _) (InR_of _) (InR_of _)
  cases e1.symm.trans e1b
  refine s_callVH (As := [VI ((xs (i + 1).toNat).toInt), VI ((xs (i + 2).toNat).toInt), VI ((xs (i + 3).toNat).toInt), VI ((xs (i + 4).toNat).toInt), VI ((xs (i + 5).toNat).toInt)]) X cw_L_313 SHL_455 rfl dL_law_3065 (con_M (As := [VR 0, VI ((xs (i + 1).toNat).toInt), VI ((xs (i + 2).toNat).toInt), VI ((xs (i + 3).toNat).toInt), VI ((xs (i + 4).toNat).toInt), VI ((xs (i + 5).toNat).toInt)]) nrI (L_M_holds (offG G 455) ((xs (i + 1).toNat).toInt) ((xs (i + 2).toNat).toInt) ((xs (i + 3).toNat).toInt) ((xs (i + 4).toNat).toInt) ((xs (i + 5).toNat).toInt) (offM 455 M1) rm e2)) rfl ⟨Nat.le_of_ble_eq_true rfl, Nat.le_of_ble_eq_true rfl⟩ ⟨by show k + 10 + 0 ≤ 603072; omega, by show n + 60 + 0 ≤ 7223402; omega⟩ (Nat.le_of_ble_eq_true rfl) noX (kkR ?_)
  obtain ⟨g1, g2, g3⟩ := ag_use hIC wrB_lo (M := M) hI2 h1 h2
  rw [← hM1] at g1 g2 g3
  obtain ⟨M2, hM2⟩ : ∃ z, z = putM 455 34 M1 rm.2 := ⟨_, rfl⟩
  rw [← hM2] at g1 g2 g3 ⊢
  rw [← hkz] at g1 g2
  obtain ⟨bz, hbz⟩ : ∃ z, z = rm.1 := ⟨_, rfl⟩
  rw [← hbz] at g2
  show J SHL G room_1 (.inr Q) C (k + 10) (n + 60) 3068 [(6, VI kz), (0, VR 491), (1, VR 0), (2, VR 455), (3, VR 489), (4, VR 490), (5, VI i)] [VI rm.1] M2
  refine s_istore X hbz rfl (by omega) dL_law_3068 ?_
  show J SHL G room_1 (.inr Q) C (k + 10) (n + 60) 3070 [(7, VI bz), (6, VI kz), (0, VR 491), (1, VR 0), (2, VR 455), (3, VR 489), (4, VR 490), (5, VI i)] [] M2
  refine s_load0 X 4 rfl dL_law_3070 ?_
  refine s_callVH (As := []) X cw_L_188 SHL_455 rfl dL_law_3071 (con_Mr (As := [VR 0]) nrI (L_M_thrown (offG G 455) (offM 455 M2) (offM 455 M2 0 0) rfl)) rfl ⟨Nat.le_of_ble_eq_true rfl, Nat.le_of_ble_eq_true rfl⟩ ⟨by show k + 10 + 0 ≤ 603072; omega, by show n + 60 + 0 ≤ 7223402; omega⟩ (Nat.le_of_ble_eq_true rfl) noX (kkR ?_)
  show J SHL G room_1 (.inr Q) C (k + 10) (n + 60) 3074 [(7, VI bz), (6, VI kz), (0, VR 491), (1, VR 0), (2, VR 455), (3, VR 489), (4, VR 490), (5, VI i)] [VI (M2 455 0)] M2
  rw [g1]
  refine s_iload X 1 rfl dL_law_3074 ?_
  refine s_icmpeq_t (tgt := 3081) X dL_law_3076 (by omega) (fun _ => ?_) (fun q => absurd rfl q)
  refine s_iload X 1 rfl dL_law_3081 ?_
  refine s_ifne_t (tgt := 3105) X dL_law_3083 (by omega) (fun _ => ?_) (fun q => ?_)
  · refine s_goto (tgt := 3989) X dL_law_3105 (by omega) ?_
    refine s_loc [2, 3, 4, 5, 6, 7] rfl ?_
    exact s_le (by omega) (by omega) (hnx M2 g3)
  · have hk0 : kz = 0 := by omega
    obtain ⟨hok, hat⟩ := g2 hk0
    refine s_load0 X 5 rfl dL_law_3086 ?_
    refine s_const X (by unfold InR; omega) dL_law_3087 ?_
    refine s_lald X SHL_489 dL_law_3088 ?_
    rw [hat 489 0 (by omega), hat 489 1 (by omega), wrB_at]
    refine s_iload X 0 rfl dL_law_3089 ?_
    refine s_ifeq_t (tgt := 3098) X dL_law_3091 (by omega) (fun c1 => ?_) (fun c1 => ?_)
    · refine s_lconst X dL_law_3098 ?_
      rw [if_pos c1]
      refine s_lcmp X dL_law_3099 ?_
      refine s_ifeq_t (tgt := 3105) X dL_law_3100 (by omega) (fun _ => ?_) (fun q => absurd ((lcmpI_0 _ _).mpr rfl) q)
      refine s_goto (tgt := 3989) X dL_law_3105 (by omega) ?_
      refine s_loc [2, 3, 4, 5, 6, 7] rfl ?_
      exact s_le (by omega) (by omega) (hnx M2 g3)
    · refine s_lconst X dL_law_3094 ?_
      refine s_goto (tgt := 3099) X dL_law_3095 (by omega) ?_
      rw [if_neg c1]
      refine s_lcmp X dL_law_3099 ?_
      refine s_ifeq_t (tgt := 3105) X dL_law_3100 (by omega) (fun _ => ?_) (fun q => absurd ((lcmpI_0 _ _).mpr rfl) q)
      refine s_goto (tgt := 3989) X dL_law_3105 (by omega) ?_
      refine s_loc [2, 3, 4, 5, 6, 7] rfl ?_
      exact s_le (by omega) (by omega) (hnx M2 g3)
set_option maxRecDepth 20000 in
set_option maxHeartbeats 4000000 in
theorem T_wish {G : Gl} {C : Ct} {b Ls : Nat} {xs : Nat → Int32} {Q : Ct → State → Prop} {Inv : Mem → Mem → Prop} {k n : Nat} {i : Int} {M : Mem} (LC : LawC G C b Ls xs) (hIC : InvC Inv) (hst : ST_wish Inv) (h0 : 0 ≤ i) (h6 : i + 6 ≤ Ls) (hk : k + 100 ≤ 603072) (hn : n + 600 ≤ 7223402) (hI : Inv M (offM 455 M)) (hnx : ∀ M2 : Mem, Inv M2 (offM 455 M2) → J SHL G room_1 (.inr Q) C (k + 100) (n + 600) 3989 (L0 i) [] M2) : J SHL G room_1 (.inr Q) C k n 3108 (L0 i) [] M := by
  obtain ⟨X, nc, hsc, hz, hL⟩ := LC
  have hL9 : (Ls : Int) ≤ 3072 := by omega
  refine s_ok (fun _ _ hM => ?_)
  refine s_load0 X 1 rfl dL_law_3108 ?_
  refine s_load0 X 0 rfl dL_law_3109 ?_
  refine s_iload X 5 rfl dL_law_3110 ?_
  refine s_const X (by unfold InR; omega) dL_law_3112 ?_
  refine s_iadd X (by unfold InR; omega) dL_law_3113 ?_
  refine s_sld X hsc hz (by omega) (by omega) dL_law_3114 ?_
  refine s_load0 X 0 rfl dL_law_3115 ?_
  refine s_iload X 5 rfl dL_law_3116 ?_
  refine s_const X (by unfold InR; omega) dL_law_3118 ?_
  refine s_iadd X (by unfold InR; omega) dL_law_3119 ?_
  refine s_sld X hsc hz (by omega) (by omega) dL_law_3120 ?_
  refine s_load0 X 0 rfl dL_law_3121 ?_
  refine s_iload X 5 rfl dL_law_3122 ?_
  refine s_const X (by unfold InR; omega) dL_law_3124 ?_
  refine s_iadd X (by unfold InR; omega) dL_law_3125 ?_
  refine s_sld X hsc hz (by omega) (by omega) dL_law_3126 ?_
  refine s_load0 X 0 rfl dL_law_3127 ?_
  refine s_iload X 5 rfl dL_law_3128 ?_
  refine s_const X (by unfold InR; omega) dL_law_3130 ?_
  refine s_iadd X (by unfold InR; omega) dL_law_3131 ?_
  refine s_sld X hsc hz (by omega) (by omega) dL_law_3132 ?_
  refine s_load0 X 0 rfl dL_law_3133 ?_
  refine s_iload X 5 rfl dL_law_3134 ?_
  refine s_const X (by unfold InR; omega) dL_law_3136 ?_
  refine s_iadd X (by unfold InR; omega) dL_law_3137 ?_
  refine s_sld X hsc hz (by omega) (by omega) dL_law_3138 ?_
  refine s_load0 X 3 rfl dL_law_3139 ?_
  obtain ⟨rc, rm0, e1, -, -, f1, f2⟩ := hst M (offM 455 M) ((xs (i + 1).toNat).toInt) ((xs (i + 2).toNat).toInt) ((xs (i + 3).toNat).toInt) ((xs (i + 4).toNat).toInt) ((xs (i + 5).toNat).toInt) hI hM (okM_off hM 455) (InR_of _) (InR_of _) (InR_of _) (InR_of _) (InR_of _)
  have hH := H_wish G ((xs (i + 1).toNat).toInt) ((xs (i + 2).toNat).toInt) ((xs (i + 3).toNat).toInt) ((xs (i + 4).toNat).toInt) ((xs (i + 5).toNat).toInt) M rc e1 (fun x hx => (f2 x hx).1)
  rw [hout_eq] at hH
  refine s_callSW (As := [VR 0, VI ((xs (i + 1).toNat).toInt), VI ((xs (i + 2).toNat).toInt), VI ((xs (i + 3).toNat).toInt), VI ((xs (i + 4).toNat).toInt), VI ((xs (i + 5).toNat).toInt), VR 489]) X nc cwS_L_314 dL_law_3140 hH rfl ⟨Nat.le_of_ble_eq_true rfl, Nat.le_of_ble_eq_true rfl⟩ ⟨by show k + 9 ≤ 603072; omega, by show n + 54 ≤ 7223402; omega⟩ (Nat.le_of_ble_eq_true rfl) noX (kkR ?_)
  obtain ⟨M1, hM1⟩ : ∃ z, z = hmem wrI rc M := ⟨_, rfl⟩
  rw [← hM1]
  obtain ⟨kz, hkz⟩ : ∃ z, z = hcode [2, 0, 4, 1] rc := ⟨_, rfl⟩
  show J SHL G room_1 (.inr Q) C (k + 9) (n + 54) 3143 [(0, VR 491), (1, VR 0), (2, VR 455), (3, VR 489), (4, VR 490), (5, VI i)] [VI (hcode [2, 0, 4, 1] rc)] M1
  refine s_istore X hkz rfl (by omega) dL_law_3143 ?_
  show J SHL G room_1 (.inr Q) C (k + 9) (n + 54) 3145 [(6, VI kz), (0, VR 491), (1, VR 0), (2, VR 455), (3, VR 489), (4, VR 490), (5, VI i)] [] M1
  refine s_ok (fun _ _ hMM => ?_)
  have hI1 : Inv M (offM 455 M1) := inv_mid hIC hI (by rw [hM1]; exact (hmem_lo wrI_lo rc M).2)
  refine s_load0 X 3 rfl dL_law_3145 ?_
  refine s_load0 X 1 rfl dL_law_3146 ?_
  refine s_iload X 6 rfl dL_law_3147 ?_
  refine s_const X (by unfold InR; omega) dL_law_3149 ?_
  refine s_iadd X (by unfold InR; omega) dL_law_3150 ?_
  refine s_sld X hsc hz (by omega) (by omega) dL_law_3151 ?_
  refine s_load0 X 1 rfl dL_law_3152 ?_
  refine s_iload X 6 rfl dL_law_3153 ?_
  refine s_const X (by unfold InR; omega) dL_law_3155 ?_
  refine s_iadd X (by unfold InR; omega) dL_law_3156 ?_
  refine s_sld X hsc hz (by omega) (by omega) dL_law_3157 ?_
  refine s_load0 X 1 rfl dL_law_3158 ?_
  refine s_iload X 6 rfl dL_law_3159 ?_
  refine s_const X (by unfold InR; omega) dL_law_3161 ?_
  refine s_iadd X (by unfold InR; omega) dL_law_3162 ?_
  refine s_sld X hsc hz (by omega) (by omega) dL_law_3163 ?_
  refine s_load0 X 1 rfl dL_law_3164 ?_
  refine s_iload X 6 rfl dL_law_3165 ?_
  refine s_const X (by unfold InR; omega) dL_law_3167 ?_
  refine s_iadd X (by unfold InR; omega) dL_law_3168 ?_
  refine s_sld X hsc hz (by omega) (by omega) dL_law_3169 ?_
  refine s_load0 X 1 rfl dL_law_3170 ?_
  refine s_iload X 6 rfl dL_law_3171 ?_
  refine s_const X (by unfold InR; omega) dL_law_3173 ?_
  refine s_iadd X (by unfold InR; omega) dL_law_3174 ?_
  refine s_sld X hsc hz (by omega) (by omega) dL_law_3175 ?_
  obtain ⟨rc2, rm, e1b, e2, hI2, h1, h2⟩ := hst M (offM 455 M1) ((xs (i + 1).toNat).toInt) ((xs (i + 2).toNat).toInt) ((xs (i + 3).toNat).toInt) ((xs (i + 4).toNat).toInt) ((xs (i + 5).toNat).toInt) hI1 hM (okM_off hMM 455) (InR_of _) (InR_of _) (InR_of _) (InR_of _) (InR_of _)
  cases e1.symm.trans e1b
  refine s_callVH (As := [VI ((xs (i + 1).toNat).toInt), VI ((xs (i + 2).toNat).toInt), VI ((xs (i + 3).toNat).toInt), VI ((xs (i + 4).toNat).toInt), VI ((xs (i + 5).toNat).toInt)]) X cw_L_316 SHL_455 rfl dL_law_3176 (con_M (As := [VR 0, VI ((xs (i + 1).toNat).toInt), VI ((xs (i + 2).toNat).toInt), VI ((xs (i + 3).toNat).toInt), VI ((xs (i + 4).toNat).toInt), VI ((xs (i + 5).toNat).toInt)]) nrI (L_M_wish (offG G 455) ((xs (i + 1).toNat).toInt) ((xs (i + 2).toNat).toInt) ((xs (i + 3).toNat).toInt) ((xs (i + 4).toNat).toInt) ((xs (i + 5).toNat).toInt) (offM 455 M1) rm e2)) rfl ⟨Nat.le_of_ble_eq_true rfl, Nat.le_of_ble_eq_true rfl⟩ ⟨by show k + 9 + 0 ≤ 603072; omega, by show n + 54 + 0 ≤ 7223402; omega⟩ (Nat.le_of_ble_eq_true rfl) noX (kkR ?_)
  obtain ⟨g1, g2, g3⟩ := ag_use hIC wrI_lo (M := M) hI2 h1 h2
  rw [← hM1] at g1 g2 g3
  obtain ⟨M2, hM2⟩ : ∃ z, z = putM 455 34 M1 rm.2 := ⟨_, rfl⟩
  rw [← hM2] at g1 g2 g3 ⊢
  rw [← hkz] at g1 g2
  obtain ⟨bz, hbz⟩ : ∃ z, z = rm.1 := ⟨_, rfl⟩
  rw [← hbz] at g2
  show J SHL G room_1 (.inr Q) C (k + 9) (n + 54) 3179 [(6, VI kz), (0, VR 491), (1, VR 0), (2, VR 455), (3, VR 489), (4, VR 490), (5, VI i)] [VI rm.1] M2
  refine s_istore X hbz rfl (by omega) dL_law_3179 ?_
  show J SHL G room_1 (.inr Q) C (k + 9) (n + 54) 3181 [(7, VI bz), (6, VI kz), (0, VR 491), (1, VR 0), (2, VR 455), (3, VR 489), (4, VR 490), (5, VI i)] [] M2
  refine s_load0 X 4 rfl dL_law_3181 ?_
  refine s_callVH (As := []) X cw_L_188 SHL_455 rfl dL_law_3182 (con_Mr (As := [VR 0]) nrI (L_M_thrown (offG G 455) (offM 455 M2) (offM 455 M2 0 0) rfl)) rfl ⟨Nat.le_of_ble_eq_true rfl, Nat.le_of_ble_eq_true rfl⟩ ⟨by show k + 9 + 0 ≤ 603072; omega, by show n + 54 + 0 ≤ 7223402; omega⟩ (Nat.le_of_ble_eq_true rfl) noX (kkR ?_)
  show J SHL G room_1 (.inr Q) C (k + 9) (n + 54) 3185 [(7, VI bz), (6, VI kz), (0, VR 491), (1, VR 0), (2, VR 455), (3, VR 489), (4, VR 490), (5, VI i)] [VI (M2 455 0)] M2
  rw [g1]
  refine s_iload X 1 rfl dL_law_3185 ?_
  refine s_icmpeq_t (tgt := 3192) X dL_law_3187 (by omega) (fun _ => ?_) (fun q => absurd rfl q)
  refine s_iload X 1 rfl dL_law_3192 ?_
  refine s_ifne_t (tgt := 3209) X dL_law_3194 (by omega) (fun _ => ?_) (fun q => ?_)
  · refine s_goto (tgt := 3989) X dL_law_3209 (by omega) ?_
    refine s_loc [2, 3, 4, 5, 6, 7] rfl ?_
    exact s_le (by omega) (by omega) (hnx M2 g3)
  · have hk0 : kz = 0 := by omega
    obtain ⟨hok, hat⟩ := g2 hk0
    refine s_load0 X 5 rfl dL_law_3197 ?_
    refine s_const X (by unfold InR; omega) dL_law_3198 ?_
    refine s_lald X SHL_489 dL_law_3199 ?_
    rw [hat 489 0 (by omega), hat 489 1 (by omega), wrI_at]
    refine s_iload X 0 rfl dL_law_3200 ?_
    refine s_i2l X dL_law_3202 ?_
    refine s_lcmp X dL_law_3203 ?_
    refine s_ifeq_t (tgt := 3209) X dL_law_3204 (by omega) (fun _ => ?_) (fun q => absurd ((lcmpI_0 _ _).mpr rfl) q)
    refine s_goto (tgt := 3989) X dL_law_3209 (by omega) ?_
    refine s_loc [2, 3, 4, 5, 6, 7] rfl ?_
    exact s_le (by omega) (by omega) (hnx M2 g3)
set_option maxRecDepth 20000 in
set_option maxHeartbeats 4000000 in
theorem T_dropWishes {G : Gl} {C : Ct} {b Ls : Nat} {xs : Nat → Int32} {Q : Ct → State → Prop} {Inv : Mem → Mem → Prop} {k n : Nat} {i : Int} {M : Mem} (LC : LawC G C b Ls xs) (hIC : InvC Inv) (hst : ST_dropWishes Inv) (h0 : 0 ≤ i) (h6 : i + 6 ≤ Ls) (hk : k + 100 ≤ 603072) (hn : n + 600 ≤ 7223402) (hI : Inv M (offM 455 M)) (hnx : ∀ M2 : Mem, Inv M2 (offM 455 M2) → J SHL G room_1 (.inr Q) C (k + 100) (n + 600) 3989 (L0 i) [] M2) : J SHL G room_1 (.inr Q) C k n 3212 (L0 i) [] M := by
  obtain ⟨X, nc, hsc, hz, hL⟩ := LC
  have hL9 : (Ls : Int) ≤ 3072 := by omega
  refine s_ok (fun _ _ hM => ?_)
  refine s_load0 X 1 rfl dL_law_3212 ?_
  obtain ⟨rc, rm0, e1, -, -, -⟩ := hst M (offM 455 M) hI hM (okM_off hM 455)
  refine s_callVH (As := []) X cw_L_317 SHL_0 rfl dL_law_3213 (con_C (L_C_dropWishes G M rc e1)) rfl ⟨Nat.le_of_ble_eq_true rfl, Nat.le_of_ble_eq_true rfl⟩ ⟨by show k + 0 ≤ 603072; omega, by show n + 0 ≤ 7223402; omega⟩ (Nat.le_of_ble_eq_true rfl) noX (kkR ?_)
  obtain ⟨M1, hM1⟩ : ∃ z, z = putM 0 455 M rc.2 := ⟨_, rfl⟩
  show J SHL G room_1 (.inr Q) C (k + 0) (n + 0) 3216 [(0, VR 491), (1, VR 0), (2, VR 455), (3, VR 489), (4, VR 490), (5, VI i)] [VI rc.1] (putM 0 455 M rc.2)
  rw [← hM1]
  refine s_ok (fun _ _ hMM => ?_)
  have hI1 : Inv M (offM 455 M1) := inv_mid hIC hI (fun c c1 c2 i => by rw [hM1]; unfold putM; rw [if_neg (by omega)])
  obtain ⟨rc2, rm, e1b, e2, hI2, h1⟩ := hst M (offM 455 M1) hI1 hM (okM_off hMM 455)
  cases e1.symm.trans e1b
  refine s_load0 X 2 rfl dL_law_3216 ?_
  refine s_callVH (As := []) X cw_L_320 SHL_455 rfl dL_law_3217 (con_M (As := [VR 0]) nrI (L_M_dropWishes (offG G 455) (offM 455 M1) rm e2)) rfl ⟨Nat.le_of_ble_eq_true rfl, Nat.le_of_ble_eq_true rfl⟩ ⟨by show k + 0 + 0 ≤ 603072; omega, by show n + 0 + 0 ≤ 7223402; omega⟩ (Nat.le_of_ble_eq_true rfl) noX (kkR ?_)
  have g3 := inv_put hIC (M1 := M1) hI2 (fun c hl i => by rw [hM1]; unfold putM; rw [if_pos ⟨by omega, by omega⟩, Nat.sub_zero])
  show J SHL G room_1 (.inr Q) C (k + 0) (n + 0) 3220 [(0, VR 491), (1, VR 0), (2, VR 455), (3, VR 489), (4, VR 490), (5, VI i)] [VI rm.1, VI rc.1] (putM 455 34 M1 rm.2)
  rw [h1]
  refine s_icmpeq_t (tgt := 3989) X dL_law_3220 (by omega) (fun _ => ?_) (fun q => absurd rfl q)
  exact s_le (by omega) (by omega) (hnx _ g3)
set_option maxRecDepth 20000 in
set_option maxHeartbeats 4000000 in
theorem T_waitCost {G : Gl} {C : Ct} {b Ls : Nat} {xs : Nat → Int32} {Q : Ct → State → Prop} {Inv : Mem → Mem → Prop} {k n : Nat} {i : Int} {M : Mem} (LC : LawC G C b Ls xs) (hIC : InvC Inv) (hst : ST_waitCost Inv) (h0 : 0 ≤ i) (h6 : i + 6 ≤ Ls) (hk : k + 100 ≤ 603072) (hn : n + 600 ≤ 7223402) (hI : Inv M (offM 455 M)) (hnx : ∀ M2 : Mem, Inv M2 (offM 455 M2) → J SHL G room_1 (.inr Q) C (k + 100) (n + 600) 3989 (L0 i) [] M2) : J SHL G room_1 (.inr Q) C k n 3225 (L0 i) [] M := by
  obtain ⟨X, nc, hsc, hz, hL⟩ := LC
  have hL9 : (Ls : Int) ≤ 3072 := by omega
  refine s_ok (fun _ _ hM => ?_)
  refine s_load0 X 1 rfl dL_law_3225 ?_
  refine s_load0 X 0 rfl dL_law_3226 ?_
  refine s_iload X 5 rfl dL_law_3227 ?_
  refine s_const X (by unfold InR; omega) dL_law_3229 ?_
  refine s_iadd X (by unfold InR; omega) dL_law_3230 ?_
  refine s_sld X hsc hz (by omega) (by omega) dL_law_3231 ?_
  refine s_load0 X 0 rfl dL_law_3232 ?_
  refine s_iload X 5 rfl dL_law_3233 ?_
  refine s_const X (by unfold InR; omega) dL_law_3235 ?_
  refine s_iadd X (by unfold InR; omega) dL_law_3236 ?_
  refine s_sld X hsc hz (by omega) (by omega) dL_law_3237 ?_
  refine s_load0 X 3 rfl dL_law_3238 ?_
  obtain ⟨rc, rm0, e1, -, -, f1, f2⟩ := hst M (offM 455 M) ((xs (i + 1).toNat).toInt) ((xs (i + 2).toNat).toInt) hI hM (okM_off hM 455) (InR_of _) (InR_of _)
  have hH := H_waitCost G ((xs (i + 1).toNat).toInt) ((xs (i + 2).toNat).toInt) M rc e1 (fun x hx => (f2 x hx).1)
  rw [hout_eq] at hH
  refine s_callSW (As := [VR 0, VI ((xs (i + 1).toNat).toInt), VI ((xs (i + 2).toNat).toInt), VR 489]) X nc cwS_L_321 dL_law_3239 hH rfl ⟨Nat.le_of_ble_eq_true rfl, Nat.le_of_ble_eq_true rfl⟩ ⟨by show k + 3 ≤ 603072; omega, by show n + 18 ≤ 7223402; omega⟩ (Nat.le_of_ble_eq_true rfl) noX (kkR ?_)
  obtain ⟨M1, hM1⟩ : ∃ z, z = hmem wrI rc M := ⟨_, rfl⟩
  rw [← hM1]
  obtain ⟨kz, hkz⟩ : ∃ z, z = hcode [0, 5] rc := ⟨_, rfl⟩
  show J SHL G room_1 (.inr Q) C (k + 3) (n + 18) 3242 [(0, VR 491), (1, VR 0), (2, VR 455), (3, VR 489), (4, VR 490), (5, VI i)] [VI (hcode [0, 5] rc)] M1
  refine s_istore X hkz rfl (by omega) dL_law_3242 ?_
  show J SHL G room_1 (.inr Q) C (k + 3) (n + 18) 3244 [(6, VI kz), (0, VR 491), (1, VR 0), (2, VR 455), (3, VR 489), (4, VR 490), (5, VI i)] [] M1
  refine s_ok (fun _ _ hMM => ?_)
  have hI1 : Inv M (offM 455 M1) := inv_mid hIC hI (by rw [hM1]; exact (hmem_lo wrI_lo rc M).2)
  refine s_load0 X 3 rfl dL_law_3244 ?_
  refine s_load0 X 1 rfl dL_law_3245 ?_
  refine s_iload X 6 rfl dL_law_3246 ?_
  refine s_const X (by unfold InR; omega) dL_law_3248 ?_
  refine s_iadd X (by unfold InR; omega) dL_law_3249 ?_
  refine s_sld X hsc hz (by omega) (by omega) dL_law_3250 ?_
  refine s_load0 X 1 rfl dL_law_3251 ?_
  refine s_iload X 6 rfl dL_law_3252 ?_
  refine s_const X (by unfold InR; omega) dL_law_3254 ?_
  refine s_iadd X (by unfold InR; omega) dL_law_3255 ?_
  refine s_sld X hsc hz (by omega) (by omega) dL_law_3256 ?_
  obtain ⟨rc2, rm, e1b, e2, hI2, h1, h2⟩ := hst M (offM 455 M1) ((xs (i + 1).toNat).toInt) ((xs (i + 2).toNat).toInt) hI1 hM (okM_off hMM 455) (InR_of _) (InR_of _)
  cases e1.symm.trans e1b
  refine s_callVH (As := [VI ((xs (i + 1).toNat).toInt), VI ((xs (i + 2).toNat).toInt)]) X cw_L_323 SHL_455 rfl dL_law_3257 (con_M (As := [VR 0, VI ((xs (i + 1).toNat).toInt), VI ((xs (i + 2).toNat).toInt)]) nrI (L_M_waitCost (offG G 455) ((xs (i + 1).toNat).toInt) ((xs (i + 2).toNat).toInt) (offM 455 M1) rm e2)) rfl ⟨Nat.le_of_ble_eq_true rfl, Nat.le_of_ble_eq_true rfl⟩ ⟨by show k + 3 + 0 ≤ 603072; omega, by show n + 18 + 0 ≤ 7223402; omega⟩ (Nat.le_of_ble_eq_true rfl) noX (kkR ?_)
  obtain ⟨g1, g2, g3⟩ := ag_use hIC wrI_lo (M := M) hI2 h1 h2
  rw [← hM1] at g1 g2 g3
  obtain ⟨M2, hM2⟩ : ∃ z, z = putM 455 34 M1 rm.2 := ⟨_, rfl⟩
  rw [← hM2] at g1 g2 g3 ⊢
  rw [← hkz] at g1 g2
  obtain ⟨bz, hbz⟩ : ∃ z, z = rm.1 := ⟨_, rfl⟩
  rw [← hbz] at g2
  show J SHL G room_1 (.inr Q) C (k + 3) (n + 18) 3260 [(6, VI kz), (0, VR 491), (1, VR 0), (2, VR 455), (3, VR 489), (4, VR 490), (5, VI i)] [VI rm.1] M2
  refine s_istore X hbz rfl (by omega) dL_law_3260 ?_
  show J SHL G room_1 (.inr Q) C (k + 3) (n + 18) 3262 [(7, VI bz), (6, VI kz), (0, VR 491), (1, VR 0), (2, VR 455), (3, VR 489), (4, VR 490), (5, VI i)] [] M2
  refine s_load0 X 4 rfl dL_law_3262 ?_
  refine s_callVH (As := []) X cw_L_188 SHL_455 rfl dL_law_3263 (con_Mr (As := [VR 0]) nrI (L_M_thrown (offG G 455) (offM 455 M2) (offM 455 M2 0 0) rfl)) rfl ⟨Nat.le_of_ble_eq_true rfl, Nat.le_of_ble_eq_true rfl⟩ ⟨by show k + 3 + 0 ≤ 603072; omega, by show n + 18 + 0 ≤ 7223402; omega⟩ (Nat.le_of_ble_eq_true rfl) noX (kkR ?_)
  show J SHL G room_1 (.inr Q) C (k + 3) (n + 18) 3266 [(7, VI bz), (6, VI kz), (0, VR 491), (1, VR 0), (2, VR 455), (3, VR 489), (4, VR 490), (5, VI i)] [VI (M2 455 0)] M2
  rw [g1]
  refine s_iload X 1 rfl dL_law_3266 ?_
  refine s_icmpeq_t (tgt := 3273) X dL_law_3268 (by omega) (fun _ => ?_) (fun q => absurd rfl q)
  refine s_iload X 1 rfl dL_law_3273 ?_
  refine s_ifne_t (tgt := 3290) X dL_law_3275 (by omega) (fun _ => ?_) (fun q => ?_)
  · refine s_goto (tgt := 3989) X dL_law_3290 (by omega) ?_
    refine s_loc [2, 3, 4, 5, 6, 7] rfl ?_
    exact s_le (by omega) (by omega) (hnx M2 g3)
  · have hk0 : kz = 0 := by omega
    obtain ⟨hok, hat⟩ := g2 hk0
    refine s_load0 X 5 rfl dL_law_3278 ?_
    refine s_const X (by unfold InR; omega) dL_law_3279 ?_
    refine s_lald X SHL_489 dL_law_3280 ?_
    rw [hat 489 0 (by omega), hat 489 1 (by omega), wrI_at]
    refine s_iload X 0 rfl dL_law_3281 ?_
    refine s_i2l X dL_law_3283 ?_
    refine s_lcmp X dL_law_3284 ?_
    refine s_ifeq_t (tgt := 3290) X dL_law_3285 (by omega) (fun _ => ?_) (fun q => absurd ((lcmpI_0 _ _).mpr rfl) q)
    refine s_goto (tgt := 3989) X dL_law_3290 (by omega) ?_
    refine s_loc [2, 3, 4, 5, 6, 7] rfl ?_
    exact s_le (by omega) (by omega) (hnx M2 g3)
set_option maxRecDepth 20000 in
set_option maxHeartbeats 4000000 in
theorem T_bestWaits {G : Gl} {C : Ct} {b Ls : Nat} {xs : Nat → Int32} {Q : Ct → State → Prop} {Inv : Mem → Mem → Prop} {k n : Nat} {i : Int} {M : Mem} (LC : LawC G C b Ls xs) (hIC : InvC Inv) (hst : ST_bestWaits Inv) (h0 : 0 ≤ i) (h6 : i + 6 ≤ Ls) (hk : k + 100 ≤ 603072) (hn : n + 600 ≤ 7223402) (hI : Inv M (offM 455 M)) (hnx : ∀ M2 : Mem, Inv M2 (offM 455 M2) → J SHL G room_1 (.inr Q) C (k + 100) (n + 600) 3989 (L0 i) [] M2) : J SHL G room_1 (.inr Q) C k n 3293 (L0 i) [] M := by
  obtain ⟨X, nc, hsc, hz, hL⟩ := LC
  have hL9 : (Ls : Int) ≤ 3072 := by omega
  refine s_ok (fun _ _ hM => ?_)
  refine s_load0 X 1 rfl dL_law_3293 ?_
  refine s_load0 X 0 rfl dL_law_3294 ?_
  refine s_iload X 5 rfl dL_law_3295 ?_
  refine s_const X (by unfold InR; omega) dL_law_3297 ?_
  refine s_iadd X (by unfold InR; omega) dL_law_3298 ?_
  refine s_sld X hsc hz (by omega) (by omega) dL_law_3299 ?_
  refine s_load0 X 3 rfl dL_law_3300 ?_
  obtain ⟨rc, rm0, e1, -, -, f1, f2⟩ := hst M (offM 455 M) ((xs (i + 1).toNat).toInt) hI hM (okM_off hM 455) (InR_of _)
  have hH := H_bestWaits G ((xs (i + 1).toNat).toInt) M rc e1 (fun x hx => (f2 x hx).1)
  rw [hout_eq] at hH
  refine s_callSW (As := [VR 0, VI ((xs (i + 1).toNat).toInt), VR 489]) X nc cwS_L_324 dL_law_3301 hH rfl ⟨Nat.le_of_ble_eq_true rfl, Nat.le_of_ble_eq_true rfl⟩ ⟨by show k + 1 ≤ 603072; omega, by show n + 6 ≤ 7223402; omega⟩ (Nat.le_of_ble_eq_true rfl) noX (kkR ?_)
  obtain ⟨M1, hM1⟩ : ∃ z, z = hmem wrI rc M := ⟨_, rfl⟩
  rw [← hM1]
  obtain ⟨kz, hkz⟩ : ∃ z, z = hcode [0] rc := ⟨_, rfl⟩
  show J SHL G room_1 (.inr Q) C (k + 1) (n + 6) 3304 [(0, VR 491), (1, VR 0), (2, VR 455), (3, VR 489), (4, VR 490), (5, VI i)] [VI (hcode [0] rc)] M1
  refine s_istore X hkz rfl (by omega) dL_law_3304 ?_
  show J SHL G room_1 (.inr Q) C (k + 1) (n + 6) 3306 [(6, VI kz), (0, VR 491), (1, VR 0), (2, VR 455), (3, VR 489), (4, VR 490), (5, VI i)] [] M1
  refine s_ok (fun _ _ hMM => ?_)
  have hI1 : Inv M (offM 455 M1) := inv_mid hIC hI (by rw [hM1]; exact (hmem_lo wrI_lo rc M).2)
  refine s_load0 X 3 rfl dL_law_3306 ?_
  refine s_load0 X 1 rfl dL_law_3307 ?_
  refine s_iload X 6 rfl dL_law_3308 ?_
  refine s_const X (by unfold InR; omega) dL_law_3310 ?_
  refine s_iadd X (by unfold InR; omega) dL_law_3311 ?_
  refine s_sld X hsc hz (by omega) (by omega) dL_law_3312 ?_
  obtain ⟨rc2, rm, e1b, e2, hI2, h1, h2⟩ := hst M (offM 455 M1) ((xs (i + 1).toNat).toInt) hI1 hM (okM_off hMM 455) (InR_of _)
  cases e1.symm.trans e1b
  refine s_callVH (As := [VI ((xs (i + 1).toNat).toInt)]) X cw_L_326 SHL_455 rfl dL_law_3313 (con_M (As := [VR 0, VI ((xs (i + 1).toNat).toInt)]) nrI (L_M_bestWaits (offG G 455) ((xs (i + 1).toNat).toInt) (offM 455 M1) rm e2)) rfl ⟨Nat.le_of_ble_eq_true rfl, Nat.le_of_ble_eq_true rfl⟩ ⟨by show k + 1 + 0 ≤ 603072; omega, by show n + 6 + 0 ≤ 7223402; omega⟩ (Nat.le_of_ble_eq_true rfl) noX (kkR ?_)
  obtain ⟨g1, g2, g3⟩ := ag_use hIC wrI_lo (M := M) hI2 h1 h2
  rw [← hM1] at g1 g2 g3
  obtain ⟨M2, hM2⟩ : ∃ z, z = putM 455 34 M1 rm.2 := ⟨_, rfl⟩
  rw [← hM2] at g1 g2 g3 ⊢
  rw [← hkz] at g1 g2
  obtain ⟨bz, hbz⟩ : ∃ z, z = rm.1 := ⟨_, rfl⟩
  rw [← hbz] at g2
  show J SHL G room_1 (.inr Q) C (k + 1) (n + 6) 3316 [(6, VI kz), (0, VR 491), (1, VR 0), (2, VR 455), (3, VR 489), (4, VR 490), (5, VI i)] [VI rm.1] M2
  refine s_istore X hbz rfl (by omega) dL_law_3316 ?_
  show J SHL G room_1 (.inr Q) C (k + 1) (n + 6) 3318 [(7, VI bz), (6, VI kz), (0, VR 491), (1, VR 0), (2, VR 455), (3, VR 489), (4, VR 490), (5, VI i)] [] M2
  refine s_load0 X 4 rfl dL_law_3318 ?_
  refine s_callVH (As := []) X cw_L_188 SHL_455 rfl dL_law_3319 (con_Mr (As := [VR 0]) nrI (L_M_thrown (offG G 455) (offM 455 M2) (offM 455 M2 0 0) rfl)) rfl ⟨Nat.le_of_ble_eq_true rfl, Nat.le_of_ble_eq_true rfl⟩ ⟨by show k + 1 + 0 ≤ 603072; omega, by show n + 6 + 0 ≤ 7223402; omega⟩ (Nat.le_of_ble_eq_true rfl) noX (kkR ?_)
  show J SHL G room_1 (.inr Q) C (k + 1) (n + 6) 3322 [(7, VI bz), (6, VI kz), (0, VR 491), (1, VR 0), (2, VR 455), (3, VR 489), (4, VR 490), (5, VI i)] [VI (M2 455 0)] M2
  rw [g1]
  refine s_iload X 1 rfl dL_law_3322 ?_
  refine s_icmpeq_t (tgt := 3329) X dL_law_3324 (by omega) (fun _ => ?_) (fun q => absurd rfl q)
  refine s_iload X 1 rfl dL_law_3329 ?_
  refine s_ifne_t (tgt := 3346) X dL_law_3331 (by omega) (fun _ => ?_) (fun q => ?_)
  · refine s_goto (tgt := 3989) X dL_law_3346 (by omega) ?_
    refine s_loc [2, 3, 4, 5, 6, 7] rfl ?_
    exact s_le (by omega) (by omega) (hnx M2 g3)
  · have hk0 : kz = 0 := by omega
    obtain ⟨hok, hat⟩ := g2 hk0
    refine s_load0 X 5 rfl dL_law_3334 ?_
    refine s_const X (by unfold InR; omega) dL_law_3335 ?_
    refine s_lald X SHL_489 dL_law_3336 ?_
    rw [hat 489 0 (by omega), hat 489 1 (by omega), wrI_at]
    refine s_iload X 0 rfl dL_law_3337 ?_
    refine s_i2l X dL_law_3339 ?_
    refine s_lcmp X dL_law_3340 ?_
    refine s_ifeq_t (tgt := 3346) X dL_law_3341 (by omega) (fun _ => ?_) (fun q => absurd ((lcmpI_0 _ _).mpr rfl) q)
    refine s_goto (tgt := 3989) X dL_law_3346 (by omega) ?_
    refine s_loc [2, 3, 4, 5, 6, 7] rfl ?_
    exact s_le (by omega) (by omega) (hnx M2 g3)
set_option maxRecDepth 20000 in
set_option maxHeartbeats 4000000 in
theorem T_lost {G : Gl} {C : Ct} {b Ls : Nat} {xs : Nat → Int32} {Q : Ct → State → Prop} {Inv : Mem → Mem → Prop} {k n : Nat} {i : Int} {M : Mem} (LC : LawC G C b Ls xs) (hIC : InvC Inv) (hst : ST_lost Inv) (h0 : 0 ≤ i) (h6 : i + 6 ≤ Ls) (hk : k + 100 ≤ 603072) (hn : n + 600 ≤ 7223402) (hI : Inv M (offM 455 M)) (hnx : ∀ M2 : Mem, Inv M2 (offM 455 M2) → J SHL G room_1 (.inr Q) C (k + 100) (n + 600) 3989 (L0 i) [] M2) : J SHL G room_1 (.inr Q) C k n 3349 (L0 i) [] M := by
  obtain ⟨X, nc, hsc, hz, hL⟩ := LC
  have hL9 : (Ls : Int) ≤ 3072 := by omega
  refine s_ok (fun _ _ hM => ?_)
  refine s_load0 X 1 rfl dL_law_3349 ?_
  refine s_load0 X 0 rfl dL_law_3350 ?_
  refine s_iload X 5 rfl dL_law_3351 ?_
  refine s_const X (by unfold InR; omega) dL_law_3353 ?_
  refine s_iadd X (by unfold InR; omega) dL_law_3354 ?_
  refine s_sld X hsc hz (by omega) (by omega) dL_law_3355 ?_
  refine s_load0 X 0 rfl dL_law_3356 ?_
  refine s_iload X 5 rfl dL_law_3357 ?_
  refine s_const X (by unfold InR; omega) dL_law_3359 ?_
  refine s_iadd X (by unfold InR; omega) dL_law_3360 ?_
  refine s_sld X hsc hz (by omega) (by omega) dL_law_3361 ?_
  refine s_load0 X 3 rfl dL_law_3362 ?_
  obtain ⟨rc, rm0, e1, -, -, f1, f2⟩ := hst M (offM 455 M) ((xs (i + 1).toNat).toInt) ((xs (i + 2).toNat).toInt) hI hM (okM_off hM 455) (InR_of _) (InR_of _)
  have hH := H_lost G ((xs (i + 1).toNat).toInt) ((xs (i + 2).toNat).toInt) M rc e1 (fun x hx => (f2 x hx).1)
  rw [hout_eq] at hH
  refine s_callSW (As := [VR 0, VI ((xs (i + 1).toNat).toInt), VI ((xs (i + 2).toNat).toInt), VR 489]) X nc cwS_L_327 dL_law_3363 hH rfl ⟨Nat.le_of_ble_eq_true rfl, Nat.le_of_ble_eq_true rfl⟩ ⟨by show k + 2 ≤ 603072; omega, by show n + 12 ≤ 7223402; omega⟩ (Nat.le_of_ble_eq_true rfl) noX (kkR ?_)
  obtain ⟨M1, hM1⟩ : ∃ z, z = hmem wrI rc M := ⟨_, rfl⟩
  rw [← hM1]
  obtain ⟨kz, hkz⟩ : ∃ z, z = hcode [2, 0] rc := ⟨_, rfl⟩
  show J SHL G room_1 (.inr Q) C (k + 2) (n + 12) 3366 [(0, VR 491), (1, VR 0), (2, VR 455), (3, VR 489), (4, VR 490), (5, VI i)] [VI (hcode [2, 0] rc)] M1
  refine s_istore X hkz rfl (by omega) dL_law_3366 ?_
  show J SHL G room_1 (.inr Q) C (k + 2) (n + 12) 3368 [(6, VI kz), (0, VR 491), (1, VR 0), (2, VR 455), (3, VR 489), (4, VR 490), (5, VI i)] [] M1
  refine s_ok (fun _ _ hMM => ?_)
  have hI1 : Inv M (offM 455 M1) := inv_mid hIC hI (by rw [hM1]; exact (hmem_lo wrI_lo rc M).2)
  refine s_load0 X 3 rfl dL_law_3368 ?_
  refine s_load0 X 1 rfl dL_law_3369 ?_
  refine s_iload X 6 rfl dL_law_3370 ?_
  refine s_const X (by unfold InR; omega) dL_law_3372 ?_
  refine s_iadd X (by unfold InR; omega) dL_law_3373 ?_
  refine s_sld X hsc hz (by omega) (by omega) dL_law_3374 ?_
  refine s_load0 X 1 rfl dL_law_3375 ?_
  refine s_iload X 6 rfl dL_law_3376 ?_
  refine s_const X (by unfold InR; omega) dL_law_3378 ?_
  refine s_iadd X (by unfold InR; omega) dL_law_3379 ?_
  refine s_sld X hsc hz (by omega) (by omega) dL_law_3380 ?_
  obtain ⟨rc2, rm, e1b, e2, hI2, h1, h2⟩ := hst M (offM 455 M1) ((xs (i + 1).toNat).toInt) ((xs (i + 2).toNat).toInt) hI1 hM (okM_off hMM 455) (InR_of _) (InR_of _)
  cases e1.symm.trans e1b
  refine s_callVH (As := [VI ((xs (i + 1).toNat).toInt), VI ((xs (i + 2).toNat).toInt)]) X cw_L_329 SHL_455 rfl dL_law_3381 (con_M (As := [VR 0, VI ((xs (i + 1).toNat).toInt), VI ((xs (i + 2).toNat).toInt)]) nrI (L_M_lost (offG G 455) ((xs (i + 1).toNat).toInt) ((xs (i + 2).toNat).toInt) (offM 455 M1) rm e2)) rfl ⟨Nat.le_of_ble_eq_true rfl, Nat.le_of_ble_eq_true rfl⟩ ⟨by show k + 2 + 0 ≤ 603072; omega, by show n + 12 + 0 ≤ 7223402; omega⟩ (Nat.le_of_ble_eq_true rfl) noX (kkR ?_)
  obtain ⟨g1, g2, g3⟩ := ag_use hIC wrI_lo (M := M) hI2 h1 h2
  rw [← hM1] at g1 g2 g3
  obtain ⟨M2, hM2⟩ : ∃ z, z = putM 455 34 M1 rm.2 := ⟨_, rfl⟩
  rw [← hM2] at g1 g2 g3 ⊢
  rw [← hkz] at g1 g2
  obtain ⟨bz, hbz⟩ : ∃ z, z = rm.1 := ⟨_, rfl⟩
  rw [← hbz] at g2
  show J SHL G room_1 (.inr Q) C (k + 2) (n + 12) 3384 [(6, VI kz), (0, VR 491), (1, VR 0), (2, VR 455), (3, VR 489), (4, VR 490), (5, VI i)] [VI rm.1] M2
  refine s_istore X hbz rfl (by omega) dL_law_3384 ?_
  show J SHL G room_1 (.inr Q) C (k + 2) (n + 12) 3386 [(7, VI bz), (6, VI kz), (0, VR 491), (1, VR 0), (2, VR 455), (3, VR 489), (4, VR 490), (5, VI i)] [] M2
  refine s_load0 X 4 rfl dL_law_3386 ?_
  refine s_callVH (As := []) X cw_L_188 SHL_455 rfl dL_law_3387 (con_Mr (As := [VR 0]) nrI (L_M_thrown (offG G 455) (offM 455 M2) (offM 455 M2 0 0) rfl)) rfl ⟨Nat.le_of_ble_eq_true rfl, Nat.le_of_ble_eq_true rfl⟩ ⟨by show k + 2 + 0 ≤ 603072; omega, by show n + 12 + 0 ≤ 7223402; omega⟩ (Nat.le_of_ble_eq_true rfl) noX (kkR ?_)
  show J SHL G room_1 (.inr Q) C (k + 2) (n + 12) 3390 [(7, VI bz), (6, VI kz), (0, VR 491), (1, VR 0), (2, VR 455), (3, VR 489), (4, VR 490), (5, VI i)] [VI (M2 455 0)] M2
  rw [g1]
  refine s_iload X 1 rfl dL_law_3390 ?_
  refine s_icmpeq_t (tgt := 3397) X dL_law_3392 (by omega) (fun _ => ?_) (fun q => absurd rfl q)
  refine s_iload X 1 rfl dL_law_3397 ?_
  refine s_ifne_t (tgt := 3414) X dL_law_3399 (by omega) (fun _ => ?_) (fun q => ?_)
  · refine s_goto (tgt := 3989) X dL_law_3414 (by omega) ?_
    refine s_loc [2, 3, 4, 5, 6, 7] rfl ?_
    exact s_le (by omega) (by omega) (hnx M2 g3)
  · have hk0 : kz = 0 := by omega
    obtain ⟨hok, hat⟩ := g2 hk0
    refine s_load0 X 5 rfl dL_law_3402 ?_
    refine s_const X (by unfold InR; omega) dL_law_3403 ?_
    refine s_lald X SHL_489 dL_law_3404 ?_
    rw [hat 489 0 (by omega), hat 489 1 (by omega), wrI_at]
    refine s_iload X 0 rfl dL_law_3405 ?_
    refine s_i2l X dL_law_3407 ?_
    refine s_lcmp X dL_law_3408 ?_
    refine s_ifeq_t (tgt := 3414) X dL_law_3409 (by omega) (fun _ => ?_) (fun q => absurd ((lcmpI_0 _ _).mpr rfl) q)
    refine s_goto (tgt := 3989) X dL_law_3414 (by omega) ?_
    refine s_loc [2, 3, 4, 5, 6, 7] rfl ?_
    exact s_le (by omega) (by omega) (hnx M2 g3)
set_option maxRecDepth 20000 in
set_option maxHeartbeats 4000000 in
theorem T_bridges {G : Gl} {C : Ct} {b Ls : Nat} {xs : Nat → Int32} {Q : Ct → State → Prop} {Inv : Mem → Mem → Prop} {k n : Nat} {i : Int} {M : Mem} (LC : LawC G C b Ls xs) (hIC : InvC Inv) (hst : ST_bridges Inv) (h0 : 0 ≤ i) (h6 : i + 6 ≤ Ls) (hk : k + 100 ≤ 603072) (hn : n + 600 ≤ 7223402) (hI : Inv M (offM 455 M)) (hnx : ∀ M2 : Mem, Inv M2 (offM 455 M2) → J SHL G room_1 (.inr Q) C (k + 100) (n + 600) 3989 (L0 i) [] M2) : J SHL G room_1 (.inr Q) C k n 3417 (L0 i) [] M := by
  obtain ⟨X, nc, hsc, hz, hL⟩ := LC
  have hL9 : (Ls : Int) ≤ 3072 := by omega
  refine s_ok (fun _ _ hM => ?_)
  refine s_load0 X 1 rfl dL_law_3417 ?_
  refine s_load0 X 0 rfl dL_law_3418 ?_
  refine s_iload X 5 rfl dL_law_3419 ?_
  refine s_const X (by unfold InR; omega) dL_law_3421 ?_
  refine s_iadd X (by unfold InR; omega) dL_law_3422 ?_
  refine s_sld X hsc hz (by omega) (by omega) dL_law_3423 ?_
  refine s_load0 X 3 rfl dL_law_3424 ?_
  obtain ⟨rc, rm0, e1, -, -, f1, f2⟩ := hst M (offM 455 M) ((xs (i + 1).toNat).toInt) hI hM (okM_off hM 455) (InR_of _)
  have hH := H_bridges G ((xs (i + 1).toNat).toInt) M rc e1 (fun x hx => (f2 x hx).1)
  rw [hout_eq] at hH
  refine s_callSW (As := [VR 0, VI ((xs (i + 1).toNat).toInt), VR 489]) X nc cwS_L_330 dL_law_3425 hH rfl ⟨Nat.le_of_ble_eq_true rfl, Nat.le_of_ble_eq_true rfl⟩ ⟨by show k + 1 ≤ 603072; omega, by show n + 6 ≤ 7223402; omega⟩ (Nat.le_of_ble_eq_true rfl) noX (kkR ?_)
  obtain ⟨M1, hM1⟩ : ∃ z, z = hmem wrI rc M := ⟨_, rfl⟩
  rw [← hM1]
  obtain ⟨kz, hkz⟩ : ∃ z, z = hcode [0] rc := ⟨_, rfl⟩
  show J SHL G room_1 (.inr Q) C (k + 1) (n + 6) 3428 [(0, VR 491), (1, VR 0), (2, VR 455), (3, VR 489), (4, VR 490), (5, VI i)] [VI (hcode [0] rc)] M1
  refine s_istore X hkz rfl (by omega) dL_law_3428 ?_
  show J SHL G room_1 (.inr Q) C (k + 1) (n + 6) 3430 [(6, VI kz), (0, VR 491), (1, VR 0), (2, VR 455), (3, VR 489), (4, VR 490), (5, VI i)] [] M1
  refine s_ok (fun _ _ hMM => ?_)
  have hI1 : Inv M (offM 455 M1) := inv_mid hIC hI (by rw [hM1]; exact (hmem_lo wrI_lo rc M).2)
  refine s_load0 X 3 rfl dL_law_3430 ?_
  refine s_load0 X 1 rfl dL_law_3431 ?_
  refine s_iload X 6 rfl dL_law_3432 ?_
  refine s_const X (by unfold InR; omega) dL_law_3434 ?_
  refine s_iadd X (by unfold InR; omega) dL_law_3435 ?_
  refine s_sld X hsc hz (by omega) (by omega) dL_law_3436 ?_
  obtain ⟨rc2, rm, e1b, e2, hI2, h1, h2⟩ := hst M (offM 455 M1) ((xs (i + 1).toNat).toInt) hI1 hM (okM_off hMM 455) (InR_of _)
  cases e1.symm.trans e1b
  refine s_callVH (As := [VI ((xs (i + 1).toNat).toInt)]) X cw_L_332 SHL_455 rfl dL_law_3437 (con_M (As := [VR 0, VI ((xs (i + 1).toNat).toInt)]) nrI (L_M_bridges (offG G 455) ((xs (i + 1).toNat).toInt) (offM 455 M1) rm e2)) rfl ⟨Nat.le_of_ble_eq_true rfl, Nat.le_of_ble_eq_true rfl⟩ ⟨by show k + 1 + 0 ≤ 603072; omega, by show n + 6 + 0 ≤ 7223402; omega⟩ (Nat.le_of_ble_eq_true rfl) noX (kkR ?_)
  obtain ⟨g1, g2, g3⟩ := ag_use hIC wrI_lo (M := M) hI2 h1 h2
  rw [← hM1] at g1 g2 g3
  obtain ⟨M2, hM2⟩ : ∃ z, z = putM 455 34 M1 rm.2 := ⟨_, rfl⟩
  rw [← hM2] at g1 g2 g3 ⊢
  rw [← hkz] at g1 g2
  obtain ⟨bz, hbz⟩ : ∃ z, z = rm.1 := ⟨_, rfl⟩
  rw [← hbz] at g2
  show J SHL G room_1 (.inr Q) C (k + 1) (n + 6) 3440 [(6, VI kz), (0, VR 491), (1, VR 0), (2, VR 455), (3, VR 489), (4, VR 490), (5, VI i)] [VI rm.1] M2
  refine s_istore X hbz rfl (by omega) dL_law_3440 ?_
  show J SHL G room_1 (.inr Q) C (k + 1) (n + 6) 3442 [(7, VI bz), (6, VI kz), (0, VR 491), (1, VR 0), (2, VR 455), (3, VR 489), (4, VR 490), (5, VI i)] [] M2
  refine s_load0 X 4 rfl dL_law_3442 ?_
  refine s_callVH (As := []) X cw_L_188 SHL_455 rfl dL_law_3443 (con_Mr (As := [VR 0]) nrI (L_M_thrown (offG G 455) (offM 455 M2) (offM 455 M2 0 0) rfl)) rfl ⟨Nat.le_of_ble_eq_true rfl, Nat.le_of_ble_eq_true rfl⟩ ⟨by show k + 1 + 0 ≤ 603072; omega, by show n + 6 + 0 ≤ 7223402; omega⟩ (Nat.le_of_ble_eq_true rfl) noX (kkR ?_)
  show J SHL G room_1 (.inr Q) C (k + 1) (n + 6) 3446 [(7, VI bz), (6, VI kz), (0, VR 491), (1, VR 0), (2, VR 455), (3, VR 489), (4, VR 490), (5, VI i)] [VI (M2 455 0)] M2
  rw [g1]
  refine s_iload X 1 rfl dL_law_3446 ?_
  refine s_icmpeq_t (tgt := 3453) X dL_law_3448 (by omega) (fun _ => ?_) (fun q => absurd rfl q)
  refine s_iload X 1 rfl dL_law_3453 ?_
  refine s_ifne_t (tgt := 3470) X dL_law_3455 (by omega) (fun _ => ?_) (fun q => ?_)
  · refine s_goto (tgt := 3989) X dL_law_3470 (by omega) ?_
    refine s_loc [2, 3, 4, 5, 6, 7] rfl ?_
    exact s_le (by omega) (by omega) (hnx M2 g3)
  · have hk0 : kz = 0 := by omega
    obtain ⟨hok, hat⟩ := g2 hk0
    refine s_load0 X 5 rfl dL_law_3458 ?_
    refine s_const X (by unfold InR; omega) dL_law_3459 ?_
    refine s_lald X SHL_489 dL_law_3460 ?_
    rw [hat 489 0 (by omega), hat 489 1 (by omega), wrI_at]
    refine s_iload X 0 rfl dL_law_3461 ?_
    refine s_i2l X dL_law_3463 ?_
    refine s_lcmp X dL_law_3464 ?_
    refine s_ifeq_t (tgt := 3470) X dL_law_3465 (by omega) (fun _ => ?_) (fun q => absurd ((lcmpI_0 _ _).mpr rfl) q)
    refine s_goto (tgt := 3989) X dL_law_3470 (by omega) ?_
    refine s_loc [2, 3, 4, 5, 6, 7] rfl ?_
    exact s_le (by omega) (by omega) (hnx M2 g3)
set_option maxRecDepth 20000 in
set_option maxHeartbeats 4000000 in
theorem T_vehicles {G : Gl} {C : Ct} {b Ls : Nat} {xs : Nat → Int32} {Q : Ct → State → Prop} {Inv : Mem → Mem → Prop} {k n : Nat} {i : Int} {M : Mem} (LC : LawC G C b Ls xs) (hIC : InvC Inv) (hst : ST_vehicles Inv) (h0 : 0 ≤ i) (h6 : i + 6 ≤ Ls) (hk : k + 100 ≤ 603072) (hn : n + 600 ≤ 7223402) (hI : Inv M (offM 455 M)) (hnx : ∀ M2 : Mem, Inv M2 (offM 455 M2) → J SHL G room_1 (.inr Q) C (k + 100) (n + 600) 3989 (L0 i) [] M2) : J SHL G room_1 (.inr Q) C k n 3473 (L0 i) [] M := by
  obtain ⟨X, nc, hsc, hz, hL⟩ := LC
  have hL9 : (Ls : Int) ≤ 3072 := by omega
  refine s_ok (fun _ _ hM => ?_)
  refine s_load0 X 1 rfl dL_law_3473 ?_
  refine s_load0 X 0 rfl dL_law_3474 ?_
  refine s_iload X 5 rfl dL_law_3475 ?_
  refine s_const X (by unfold InR; omega) dL_law_3477 ?_
  refine s_iadd X (by unfold InR; omega) dL_law_3478 ?_
  refine s_sld X hsc hz (by omega) (by omega) dL_law_3479 ?_
  refine s_load0 X 3 rfl dL_law_3480 ?_
  obtain ⟨rc, rm0, e1, -, -, f1, f2⟩ := hst M (offM 455 M) ((xs (i + 1).toNat).toInt) hI hM (okM_off hM 455) (InR_of _)
  have hH := H_vehicles G ((xs (i + 1).toNat).toInt) M rc e1 (fun x hx => (f2 x hx).1)
  rw [hout_eq] at hH
  refine s_callSW (As := [VR 0, VI ((xs (i + 1).toNat).toInt), VR 489]) X nc cwS_L_333 dL_law_3481 hH rfl ⟨Nat.le_of_ble_eq_true rfl, Nat.le_of_ble_eq_true rfl⟩ ⟨by show k + 1 ≤ 603072; omega, by show n + 6 ≤ 7223402; omega⟩ (Nat.le_of_ble_eq_true rfl) noX (kkR ?_)
  obtain ⟨M1, hM1⟩ : ∃ z, z = hmem wrI rc M := ⟨_, rfl⟩
  rw [← hM1]
  obtain ⟨kz, hkz⟩ : ∃ z, z = hcode [0] rc := ⟨_, rfl⟩
  show J SHL G room_1 (.inr Q) C (k + 1) (n + 6) 3484 [(0, VR 491), (1, VR 0), (2, VR 455), (3, VR 489), (4, VR 490), (5, VI i)] [VI (hcode [0] rc)] M1
  refine s_istore X hkz rfl (by omega) dL_law_3484 ?_
  show J SHL G room_1 (.inr Q) C (k + 1) (n + 6) 3486 [(6, VI kz), (0, VR 491), (1, VR 0), (2, VR 455), (3, VR 489), (4, VR 490), (5, VI i)] [] M1
  refine s_ok (fun _ _ hMM => ?_)
  have hI1 : Inv M (offM 455 M1) := inv_mid hIC hI (by rw [hM1]; exact (hmem_lo wrI_lo rc M).2)
  refine s_load0 X 3 rfl dL_law_3486 ?_
  refine s_load0 X 1 rfl dL_law_3487 ?_
  refine s_iload X 6 rfl dL_law_3488 ?_
  refine s_const X (by unfold InR; omega) dL_law_3490 ?_
  refine s_iadd X (by unfold InR; omega) dL_law_3491 ?_
  refine s_sld X hsc hz (by omega) (by omega) dL_law_3492 ?_
  obtain ⟨rc2, rm, e1b, e2, hI2, h1, h2⟩ := hst M (offM 455 M1) ((xs (i + 1).toNat).toInt) hI1 hM (okM_off hMM 455) (InR_of _)
  cases e1.symm.trans e1b
  refine s_callVH (As := [VI ((xs (i + 1).toNat).toInt)]) X cw_L_335 SHL_455 rfl dL_law_3493 (con_M (As := [VR 0, VI ((xs (i + 1).toNat).toInt)]) nrI (L_M_vehicles (offG G 455) ((xs (i + 1).toNat).toInt) (offM 455 M1) rm e2)) rfl ⟨Nat.le_of_ble_eq_true rfl, Nat.le_of_ble_eq_true rfl⟩ ⟨by show k + 1 + 0 ≤ 603072; omega, by show n + 6 + 0 ≤ 7223402; omega⟩ (Nat.le_of_ble_eq_true rfl) noX (kkR ?_)
  obtain ⟨g1, g2, g3⟩ := ag_use hIC wrI_lo (M := M) hI2 h1 h2
  rw [← hM1] at g1 g2 g3
  obtain ⟨M2, hM2⟩ : ∃ z, z = putM 455 34 M1 rm.2 := ⟨_, rfl⟩
  rw [← hM2] at g1 g2 g3 ⊢
  rw [← hkz] at g1 g2
  obtain ⟨bz, hbz⟩ : ∃ z, z = rm.1 := ⟨_, rfl⟩
  rw [← hbz] at g2
  show J SHL G room_1 (.inr Q) C (k + 1) (n + 6) 3496 [(6, VI kz), (0, VR 491), (1, VR 0), (2, VR 455), (3, VR 489), (4, VR 490), (5, VI i)] [VI rm.1] M2
  refine s_istore X hbz rfl (by omega) dL_law_3496 ?_
  show J SHL G room_1 (.inr Q) C (k + 1) (n + 6) 3498 [(7, VI bz), (6, VI kz), (0, VR 491), (1, VR 0), (2, VR 455), (3, VR 489), (4, VR 490), (5, VI i)] [] M2
  refine s_load0 X 4 rfl dL_law_3498 ?_
  refine s_callVH (As := []) X cw_L_188 SHL_455 rfl dL_law_3499 (con_Mr (As := [VR 0]) nrI (L_M_thrown (offG G 455) (offM 455 M2) (offM 455 M2 0 0) rfl)) rfl ⟨Nat.le_of_ble_eq_true rfl, Nat.le_of_ble_eq_true rfl⟩ ⟨by show k + 1 + 0 ≤ 603072; omega, by show n + 6 + 0 ≤ 7223402; omega⟩ (Nat.le_of_ble_eq_true rfl) noX (kkR ?_)
  show J SHL G room_1 (.inr Q) C (k + 1) (n + 6) 3502 [(7, VI bz), (6, VI kz), (0, VR 491), (1, VR 0), (2, VR 455), (3, VR 489), (4, VR 490), (5, VI i)] [VI (M2 455 0)] M2
  rw [g1]
  refine s_iload X 1 rfl dL_law_3502 ?_
  refine s_icmpeq_t (tgt := 3509) X dL_law_3504 (by omega) (fun _ => ?_) (fun q => absurd rfl q)
  refine s_iload X 1 rfl dL_law_3509 ?_
  refine s_ifne_t (tgt := 3526) X dL_law_3511 (by omega) (fun _ => ?_) (fun q => ?_)
  · refine s_goto (tgt := 3989) X dL_law_3526 (by omega) ?_
    refine s_loc [2, 3, 4, 5, 6, 7] rfl ?_
    exact s_le (by omega) (by omega) (hnx M2 g3)
  · have hk0 : kz = 0 := by omega
    obtain ⟨hok, hat⟩ := g2 hk0
    refine s_load0 X 5 rfl dL_law_3514 ?_
    refine s_const X (by unfold InR; omega) dL_law_3515 ?_
    refine s_lald X SHL_489 dL_law_3516 ?_
    rw [hat 489 0 (by omega), hat 489 1 (by omega), wrI_at]
    refine s_iload X 0 rfl dL_law_3517 ?_
    refine s_i2l X dL_law_3519 ?_
    refine s_lcmp X dL_law_3520 ?_
    refine s_ifeq_t (tgt := 3526) X dL_law_3521 (by omega) (fun _ => ?_) (fun q => absurd ((lcmpI_0 _ _).mpr rfl) q)
    refine s_goto (tgt := 3989) X dL_law_3526 (by omega) ?_
    refine s_loc [2, 3, 4, 5, 6, 7] rfl ?_
    exact s_le (by omega) (by omega) (hnx M2 g3)
set_option maxRecDepth 20000 in
set_option maxHeartbeats 4000000 in
theorem T_vehiclesByMatching {G : Gl} {C : Ct} {b Ls : Nat} {xs : Nat → Int32} {Q : Ct → State → Prop} {Inv : Mem → Mem → Prop} {k n : Nat} {i : Int} {M : Mem} (LC : LawC G C b Ls xs) (hIC : InvC Inv) (hst : ST_vehiclesByMatching Inv) (h0 : 0 ≤ i) (h6 : i + 6 ≤ Ls) (hk : k + 100 ≤ 603072) (hn : n + 600 ≤ 7223402) (hI : Inv M (offM 455 M)) (hnx : ∀ M2 : Mem, Inv M2 (offM 455 M2) → J SHL G room_1 (.inr Q) C (k + 100) (n + 600) 3989 (L0 i) [] M2) : J SHL G room_1 (.inr Q) C k n 3529 (L0 i) [] M := by
  obtain ⟨X, nc, hsc, hz, hL⟩ := LC
  have hL9 : (Ls : Int) ≤ 3072 := by omega
  refine s_ok (fun _ _ hM => ?_)
  refine s_load0 X 1 rfl dL_law_3529 ?_
  refine s_load0 X 0 rfl dL_law_3530 ?_
  refine s_iload X 5 rfl dL_law_3531 ?_
  refine s_const X (by unfold InR; omega) dL_law_3533 ?_
  refine s_iadd X (by unfold InR; omega) dL_law_3534 ?_
  refine s_sld X hsc hz (by omega) (by omega) dL_law_3535 ?_
  refine s_load0 X 3 rfl dL_law_3536 ?_
  obtain ⟨rc, rm0, e1, -, -, f1, f2⟩ := hst M (offM 455 M) ((xs (i + 1).toNat).toInt) hI hM (okM_off hM 455) (InR_of _)
  have hH := H_vehiclesByMatching G ((xs (i + 1).toNat).toInt) M rc e1 (fun x hx => (f2 x hx).1)
  rw [hout_eq] at hH
  refine s_callSW (As := [VR 0, VI ((xs (i + 1).toNat).toInt), VR 489]) X nc cwS_L_336 dL_law_3537 hH rfl ⟨Nat.le_of_ble_eq_true rfl, Nat.le_of_ble_eq_true rfl⟩ ⟨by show k + 1 ≤ 603072; omega, by show n + 6 ≤ 7223402; omega⟩ (Nat.le_of_ble_eq_true rfl) noX (kkR ?_)
  obtain ⟨M1, hM1⟩ : ∃ z, z = hmem wrI rc M := ⟨_, rfl⟩
  rw [← hM1]
  obtain ⟨kz, hkz⟩ : ∃ z, z = hcode [0] rc := ⟨_, rfl⟩
  show J SHL G room_1 (.inr Q) C (k + 1) (n + 6) 3540 [(0, VR 491), (1, VR 0), (2, VR 455), (3, VR 489), (4, VR 490), (5, VI i)] [VI (hcode [0] rc)] M1
  refine s_istore X hkz rfl (by omega) dL_law_3540 ?_
  show J SHL G room_1 (.inr Q) C (k + 1) (n + 6) 3542 [(6, VI kz), (0, VR 491), (1, VR 0), (2, VR 455), (3, VR 489), (4, VR 490), (5, VI i)] [] M1
  refine s_ok (fun _ _ hMM => ?_)
  have hI1 : Inv M (offM 455 M1) := inv_mid hIC hI (by rw [hM1]; exact (hmem_lo wrI_lo rc M).2)
  refine s_load0 X 3 rfl dL_law_3542 ?_
  refine s_load0 X 1 rfl dL_law_3543 ?_
  refine s_iload X 6 rfl dL_law_3544 ?_
  refine s_const X (by unfold InR; omega) dL_law_3546 ?_
  refine s_iadd X (by unfold InR; omega) dL_law_3547 ?_
  refine s_sld X hsc hz (by omega) (by omega) dL_law_3548 ?_
  obtain ⟨rc2, rm, e1b, e2, hI2, h1, h2⟩ := hst M (offM 455 M1) ((xs (i + 1).toNat).toInt) hI1 hM (okM_off hMM 455) (InR_of _)
  cases e1.symm.trans e1b
  refine s_callVH (As := [VI ((xs (i + 1).toNat).toInt)]) X cw_L_338 SHL_455 rfl dL_law_3549 (con_M (As := [VR 0, VI ((xs (i + 1).toNat).toInt)]) nrI (L_M_vehiclesByMatching (offG G 455) ((xs (i + 1).toNat).toInt) (offM 455 M1) rm e2)) rfl ⟨Nat.le_of_ble_eq_true rfl, Nat.le_of_ble_eq_true rfl⟩ ⟨by show k + 1 + 0 ≤ 603072; omega, by show n + 6 + 0 ≤ 7223402; omega⟩ (Nat.le_of_ble_eq_true rfl) noX (kkR ?_)
  obtain ⟨g1, g2, g3⟩ := ag_use hIC wrI_lo (M := M) hI2 h1 h2
  rw [← hM1] at g1 g2 g3
  obtain ⟨M2, hM2⟩ : ∃ z, z = putM 455 34 M1 rm.2 := ⟨_, rfl⟩
  rw [← hM2] at g1 g2 g3 ⊢
  rw [← hkz] at g1 g2
  obtain ⟨bz, hbz⟩ : ∃ z, z = rm.1 := ⟨_, rfl⟩
  rw [← hbz] at g2
  show J SHL G room_1 (.inr Q) C (k + 1) (n + 6) 3552 [(6, VI kz), (0, VR 491), (1, VR 0), (2, VR 455), (3, VR 489), (4, VR 490), (5, VI i)] [VI rm.1] M2
  refine s_istore X hbz rfl (by omega) dL_law_3552 ?_
  show J SHL G room_1 (.inr Q) C (k + 1) (n + 6) 3554 [(7, VI bz), (6, VI kz), (0, VR 491), (1, VR 0), (2, VR 455), (3, VR 489), (4, VR 490), (5, VI i)] [] M2
  refine s_load0 X 4 rfl dL_law_3554 ?_
  refine s_callVH (As := []) X cw_L_188 SHL_455 rfl dL_law_3555 (con_Mr (As := [VR 0]) nrI (L_M_thrown (offG G 455) (offM 455 M2) (offM 455 M2 0 0) rfl)) rfl ⟨Nat.le_of_ble_eq_true rfl, Nat.le_of_ble_eq_true rfl⟩ ⟨by show k + 1 + 0 ≤ 603072; omega, by show n + 6 + 0 ≤ 7223402; omega⟩ (Nat.le_of_ble_eq_true rfl) noX (kkR ?_)
  show J SHL G room_1 (.inr Q) C (k + 1) (n + 6) 3558 [(7, VI bz), (6, VI kz), (0, VR 491), (1, VR 0), (2, VR 455), (3, VR 489), (4, VR 490), (5, VI i)] [VI (M2 455 0)] M2
  rw [g1]
  refine s_iload X 1 rfl dL_law_3558 ?_
  refine s_icmpeq_t (tgt := 3565) X dL_law_3560 (by omega) (fun _ => ?_) (fun q => absurd rfl q)
  refine s_iload X 1 rfl dL_law_3565 ?_
  refine s_ifne_t (tgt := 3582) X dL_law_3567 (by omega) (fun _ => ?_) (fun q => ?_)
  · refine s_goto (tgt := 3989) X dL_law_3582 (by omega) ?_
    refine s_loc [2, 3, 4, 5, 6, 7] rfl ?_
    exact s_le (by omega) (by omega) (hnx M2 g3)
  · have hk0 : kz = 0 := by omega
    obtain ⟨hok, hat⟩ := g2 hk0
    refine s_load0 X 5 rfl dL_law_3570 ?_
    refine s_const X (by unfold InR; omega) dL_law_3571 ?_
    refine s_lald X SHL_489 dL_law_3572 ?_
    rw [hat 489 0 (by omega), hat 489 1 (by omega), wrI_at]
    refine s_iload X 0 rfl dL_law_3573 ?_
    refine s_i2l X dL_law_3575 ?_
    refine s_lcmp X dL_law_3576 ?_
    refine s_ifeq_t (tgt := 3582) X dL_law_3577 (by omega) (fun _ => ?_) (fun q => absurd ((lcmpI_0 _ _).mpr rfl) q)
    refine s_goto (tgt := 3989) X dL_law_3582 (by omega) ?_
    refine s_loc [2, 3, 4, 5, 6, 7] rfl ?_
    exact s_le (by omega) (by omega) (hnx M2 g3)
set_option maxRecDepth 20000 in
set_option maxHeartbeats 4000000 in
theorem T_gains {G : Gl} {C : Ct} {b Ls : Nat} {xs : Nat → Int32} {Q : Ct → State → Prop} {Inv : Mem → Mem → Prop} {k n : Nat} {i : Int} {M : Mem} (LC : LawC G C b Ls xs) (hIC : InvC Inv) (hst : ST_gains Inv) (h0 : 0 ≤ i) (h6 : i + 6 ≤ Ls) (hk : k + 100 ≤ 603072) (hn : n + 600 ≤ 7223402) (hI : Inv M (offM 455 M)) (hnx : ∀ M2 : Mem, Inv M2 (offM 455 M2) → J SHL G room_1 (.inr Q) C (k + 100) (n + 600) 3989 (L0 i) [] M2) : J SHL G room_1 (.inr Q) C k n 3585 (L0 i) [] M := by
  obtain ⟨X, nc, hsc, hz, hL⟩ := LC
  have hL9 : (Ls : Int) ≤ 3072 := by omega
  refine s_ok (fun _ _ hM => ?_)
  refine s_load0 X 1 rfl dL_law_3585 ?_
  refine s_load0 X 0 rfl dL_law_3586 ?_
  refine s_iload X 5 rfl dL_law_3587 ?_
  refine s_const X (by unfold InR; omega) dL_law_3589 ?_
  refine s_iadd X (by unfold InR; omega) dL_law_3590 ?_
  refine s_sld X hsc hz (by omega) (by omega) dL_law_3591 ?_
  refine s_load0 X 0 rfl dL_law_3592 ?_
  refine s_iload X 5 rfl dL_law_3593 ?_
  refine s_const X (by unfold InR; omega) dL_law_3595 ?_
  refine s_iadd X (by unfold InR; omega) dL_law_3596 ?_
  refine s_sld X hsc hz (by omega) (by omega) dL_law_3597 ?_
  refine s_load0 X 0 rfl dL_law_3598 ?_
  refine s_iload X 5 rfl dL_law_3599 ?_
  refine s_const X (by unfold InR; omega) dL_law_3601 ?_
  refine s_iadd X (by unfold InR; omega) dL_law_3602 ?_
  refine s_sld X hsc hz (by omega) (by omega) dL_law_3603 ?_
  refine s_load0 X 0 rfl dL_law_3604 ?_
  refine s_iload X 5 rfl dL_law_3605 ?_
  refine s_const X (by unfold InR; omega) dL_law_3607 ?_
  refine s_iadd X (by unfold InR; omega) dL_law_3608 ?_
  refine s_sld X hsc hz (by omega) (by omega) dL_law_3609 ?_
  refine s_load0 X 3 rfl dL_law_3610 ?_
  obtain ⟨rc, rm0, e1, -, -, f1, f2⟩ := hst M (offM 455 M) ((xs (i + 1).toNat).toInt) ((xs (i + 2).toNat).toInt) ((xs (i + 3).toNat).toInt) ((xs (i + 4).toNat).toInt) hI hM (okM_off hM 455) (InR_of _) (InR_of _) (InR_of _) (InR_of _)
  have hH := H_gains G ((xs (i + 1).toNat).toInt) ((xs (i + 2).toNat).toInt) ((xs (i + 3).toNat).toInt) ((xs (i + 4).toNat).toInt) M rc e1 (fun x hx => (f2 x hx).1)
  rw [hout_eq] at hH
  refine s_callSW (As := [VR 0, VI ((xs (i + 1).toNat).toInt), VI ((xs (i + 2).toNat).toInt), VI ((xs (i + 3).toNat).toInt), VI ((xs (i + 4).toNat).toInt), VR 489]) X nc cwS_L_339 dL_law_3611 hH rfl ⟨Nat.le_of_ble_eq_true rfl, Nat.le_of_ble_eq_true rfl⟩ ⟨by show k + 6 ≤ 603072; omega, by show n + 36 ≤ 7223402; omega⟩ (Nat.le_of_ble_eq_true rfl) noX (kkR ?_)
  obtain ⟨M1, hM1⟩ : ∃ z, z = hmem wrI rc M := ⟨_, rfl⟩
  rw [← hM1]
  obtain ⟨kz, hkz⟩ : ∃ z, z = hcode [2, 0] rc := ⟨_, rfl⟩
  show J SHL G room_1 (.inr Q) C (k + 6) (n + 36) 3614 [(0, VR 491), (1, VR 0), (2, VR 455), (3, VR 489), (4, VR 490), (5, VI i)] [VI (hcode [2, 0] rc)] M1
  refine s_istore X hkz rfl (by omega) dL_law_3614 ?_
  show J SHL G room_1 (.inr Q) C (k + 6) (n + 36) 3616 [(6, VI kz), (0, VR 491), (1, VR 0), (2, VR 455), (3, VR 489), (4, VR 490), (5, VI i)] [] M1
  refine s_ok (fun _ _ hMM => ?_)
  have hI1 : Inv M (offM 455 M1) := inv_mid hIC hI (by rw [hM1]; exact (hmem_lo wrI_lo rc M).2)
  refine s_load0 X 3 rfl dL_law_3616 ?_
  refine s_load0 X 1 rfl dL_law_3617 ?_
  refine s_iload X 6 rfl dL_law_3618 ?_
  refine s_const X (by unfold InR; omega) dL_law_3620 ?_
  refine s_iadd X (by unfold InR; omega) dL_law_3621 ?_
  refine s_sld X hsc hz (by omega) (by omega) dL_law_3622 ?_
  refine s_load0 X 1 rfl dL_law_3623 ?_
  refine s_iload X 6 rfl dL_law_3624 ?_
  refine s_const X (by unfold InR; omega) dL_law_3626 ?_
  refine s_iadd X (by unfold InR; omega) dL_law_3627 ?_
  refine s_sld X hsc hz (by omega) (by omega) dL_law_3628 ?_
  refine s_load0 X 1 rfl dL_law_3629 ?_
  refine s_iload X 6 rfl dL_law_3630 ?_
  refine s_const X (by unfold InR; omega) dL_law_3632 ?_
  refine s_iadd X (by unfold InR; omega) dL_law_3633 ?_
  refine s_sld X hsc hz (by omega) (by omega) dL_law_3634 ?_
  refine s_load0 X 1 rfl dL_law_3635 ?_
  refine s_iload X 6 rfl dL_law_3636 ?_
  refine s_const X (by unfold InR; omega) dL_law_3638 ?_
  refine s_iadd X (by unfold InR; omega) dL_law_3639 ?_
  refine s_sld X hsc hz (by omega) (by omega) dL_law_3640 ?_
  obtain ⟨rc2, rm, e1b, e2, hI2, h1, h2⟩ := hst M (offM 455 M1) ((xs (i + 1).toNat).toInt) ((xs (i + 2).toNat).toInt) ((xs (i + 3).toNat).toInt) ((xs (i + 4).toNat).toInt) hI1 hM (okM_off hMM 455) (InR_of _) (InR_of _) (InR_of _) (InR_of _)
  cases e1.symm.trans e1b
  refine s_callVH (As := [VI ((xs (i + 1).toNat).toInt), VI ((xs (i + 2).toNat).toInt), VI ((xs (i + 3).toNat).toInt), VI ((xs (i + 4).toNat).toInt)]) X cw_L_341 SHL_455 rfl dL_law_3641 (con_M (As := [VR 0, VI ((xs (i + 1).toNat).toInt), VI ((xs (i + 2).toNat).toInt), VI ((xs (i + 3).toNat).toInt), VI ((xs (i + 4).toNat).toInt)]) nrI (L_M_gains (offG G 455) ((xs (i + 1).toNat).toInt) ((xs (i + 2).toNat).toInt) ((xs (i + 3).toNat).toInt) ((xs (i + 4).toNat).toInt) (offM 455 M1) rm e2)) rfl ⟨Nat.le_of_ble_eq_true rfl, Nat.le_of_ble_eq_true rfl⟩ ⟨by show k + 6 + 0 ≤ 603072; omega, by show n + 36 + 0 ≤ 7223402; omega⟩ (Nat.le_of_ble_eq_true rfl) noX (kkR ?_)
  obtain ⟨g1, g2, g3⟩ := ag_use hIC wrI_lo (M := M) hI2 h1 h2
  rw [← hM1] at g1 g2 g3
  obtain ⟨M2, hM2⟩ : ∃ z, z = putM 455 34 M1 rm.2 := ⟨_, rfl⟩
  rw [← hM2] at g1 g2 g3 ⊢
  rw [← hkz] at g1 g2
  obtain ⟨bz, hbz⟩ : ∃ z, z = rm.1 := ⟨_, rfl⟩
  rw [← hbz] at g2
  show J SHL G room_1 (.inr Q) C (k + 6) (n + 36) 3644 [(6, VI kz), (0, VR 491), (1, VR 0), (2, VR 455), (3, VR 489), (4, VR 490), (5, VI i)] [VI rm.1] M2
  refine s_istore X hbz rfl (by omega) dL_law_3644 ?_
  show J SHL G room_1 (.inr Q) C (k + 6) (n + 36) 3646 [(7, VI bz), (6, VI kz), (0, VR 491), (1, VR 0), (2, VR 455), (3, VR 489), (4, VR 490), (5, VI i)] [] M2
  refine s_load0 X 4 rfl dL_law_3646 ?_
  refine s_callVH (As := []) X cw_L_188 SHL_455 rfl dL_law_3647 (con_Mr (As := [VR 0]) nrI (L_M_thrown (offG G 455) (offM 455 M2) (offM 455 M2 0 0) rfl)) rfl ⟨Nat.le_of_ble_eq_true rfl, Nat.le_of_ble_eq_true rfl⟩ ⟨by show k + 6 + 0 ≤ 603072; omega, by show n + 36 + 0 ≤ 7223402; omega⟩ (Nat.le_of_ble_eq_true rfl) noX (kkR ?_)
  show J SHL G room_1 (.inr Q) C (k + 6) (n + 36) 3650 [(7, VI bz), (6, VI kz), (0, VR 491), (1, VR 0), (2, VR 455), (3, VR 489), (4, VR 490), (5, VI i)] [VI (M2 455 0)] M2
  rw [g1]
  refine s_iload X 1 rfl dL_law_3650 ?_
  refine s_icmpeq_t (tgt := 3657) X dL_law_3652 (by omega) (fun _ => ?_) (fun q => absurd rfl q)
  refine s_iload X 1 rfl dL_law_3657 ?_
  refine s_ifne_t (tgt := 3674) X dL_law_3659 (by omega) (fun _ => ?_) (fun q => ?_)
  · refine s_goto (tgt := 3989) X dL_law_3674 (by omega) ?_
    refine s_loc [2, 3, 4, 5, 6, 7] rfl ?_
    exact s_le (by omega) (by omega) (hnx M2 g3)
  · have hk0 : kz = 0 := by omega
    obtain ⟨hok, hat⟩ := g2 hk0
    refine s_load0 X 5 rfl dL_law_3662 ?_
    refine s_const X (by unfold InR; omega) dL_law_3663 ?_
    refine s_lald X SHL_489 dL_law_3664 ?_
    rw [hat 489 0 (by omega), hat 489 1 (by omega), wrI_at]
    refine s_iload X 0 rfl dL_law_3665 ?_
    refine s_i2l X dL_law_3667 ?_
    refine s_lcmp X dL_law_3668 ?_
    refine s_ifeq_t (tgt := 3674) X dL_law_3669 (by omega) (fun _ => ?_) (fun q => absurd ((lcmpI_0 _ _).mpr rfl) q)
    refine s_goto (tgt := 3989) X dL_law_3674 (by omega) ?_
    refine s_loc [2, 3, 4, 5, 6, 7] rfl ?_
    exact s_le (by omega) (by omega) (hnx M2 g3)
set_option maxRecDepth 20000 in
set_option maxHeartbeats 4000000 in
theorem T_loses {G : Gl} {C : Ct} {b Ls : Nat} {xs : Nat → Int32} {Q : Ct → State → Prop} {Inv : Mem → Mem → Prop} {k n : Nat} {i : Int} {M : Mem} (LC : LawC G C b Ls xs) (hIC : InvC Inv) (hst : ST_loses Inv) (h0 : 0 ≤ i) (h6 : i + 6 ≤ Ls) (hk : k + 100 ≤ 603072) (hn : n + 600 ≤ 7223402) (hI : Inv M (offM 455 M)) (hnx : ∀ M2 : Mem, Inv M2 (offM 455 M2) → J SHL G room_1 (.inr Q) C (k + 100) (n + 600) 3989 (L0 i) [] M2) : J SHL G room_1 (.inr Q) C k n 3677 (L0 i) [] M := by
  obtain ⟨X, nc, hsc, hz, hL⟩ := LC
  have hL9 : (Ls : Int) ≤ 3072 := by omega
  refine s_ok (fun _ _ hM => ?_)
  refine s_load0 X 1 rfl dL_law_3677 ?_
  refine s_load0 X 0 rfl dL_law_3678 ?_
  refine s_iload X 5 rfl dL_law_3679 ?_
  refine s_const X (by unfold InR; omega) dL_law_3681 ?_
  refine s_iadd X (by unfold InR; omega) dL_law_3682 ?_
  refine s_sld X hsc hz (by omega) (by omega) dL_law_3683 ?_
  refine s_load0 X 0 rfl dL_law_3684 ?_
  refine s_iload X 5 rfl dL_law_3685 ?_
  refine s_const X (by unfold InR; omega) dL_law_3687 ?_
  refine s_iadd X (by unfold InR; omega) dL_law_3688 ?_
  refine s_sld X hsc hz (by omega) (by omega) dL_law_3689 ?_
  refine s_load0 X 0 rfl dL_law_3690 ?_
  refine s_iload X 5 rfl dL_law_3691 ?_
  refine s_const X (by unfold InR; omega) dL_law_3693 ?_
  refine s_iadd X (by unfold InR; omega) dL_law_3694 ?_
  refine s_sld X hsc hz (by omega) (by omega) dL_law_3695 ?_
  refine s_load0 X 0 rfl dL_law_3696 ?_
  refine s_iload X 5 rfl dL_law_3697 ?_
  refine s_const X (by unfold InR; omega) dL_law_3699 ?_
  refine s_iadd X (by unfold InR; omega) dL_law_3700 ?_
  refine s_sld X hsc hz (by omega) (by omega) dL_law_3701 ?_
  refine s_load0 X 3 rfl dL_law_3702 ?_
  obtain ⟨rc, rm0, e1, -, -, f1, f2⟩ := hst M (offM 455 M) ((xs (i + 1).toNat).toInt) ((xs (i + 2).toNat).toInt) ((xs (i + 3).toNat).toInt) ((xs (i + 4).toNat).toInt) hI hM (okM_off hM 455) (InR_of _) (InR_of _) (InR_of _) (InR_of _)
  have hH := H_loses G ((xs (i + 1).toNat).toInt) ((xs (i + 2).toNat).toInt) ((xs (i + 3).toNat).toInt) ((xs (i + 4).toNat).toInt) M rc e1 (fun x hx => (f2 x hx).1)
  rw [hout_eq] at hH
  refine s_callSW (As := [VR 0, VI ((xs (i + 1).toNat).toInt), VI ((xs (i + 2).toNat).toInt), VI ((xs (i + 3).toNat).toInt), VI ((xs (i + 4).toNat).toInt), VR 489]) X nc cwS_L_342 dL_law_3703 hH rfl ⟨Nat.le_of_ble_eq_true rfl, Nat.le_of_ble_eq_true rfl⟩ ⟨by show k + 6 ≤ 603072; omega, by show n + 36 ≤ 7223402; omega⟩ (Nat.le_of_ble_eq_true rfl) noX (kkR ?_)
  obtain ⟨M1, hM1⟩ : ∃ z, z = hmem wrI rc M := ⟨_, rfl⟩
  rw [← hM1]
  obtain ⟨kz, hkz⟩ : ∃ z, z = hcode [2, 0] rc := ⟨_, rfl⟩
  show J SHL G room_1 (.inr Q) C (k + 6) (n + 36) 3706 [(0, VR 491), (1, VR 0), (2, VR 455), (3, VR 489), (4, VR 490), (5, VI i)] [VI (hcode [2, 0] rc)] M1
  refine s_istore X hkz rfl (by omega) dL_law_3706 ?_
  show J SHL G room_1 (.inr Q) C (k + 6) (n + 36) 3708 [(6, VI kz), (0, VR 491), (1, VR 0), (2, VR 455), (3, VR 489), (4, VR 490), (5, VI i)] [] M1
  refine s_ok (fun _ _ hMM => ?_)
  have hI1 : Inv M (offM 455 M1) := inv_mid hIC hI (by rw [hM1]; exact (hmem_lo wrI_lo rc M).2)
  refine s_load0 X 3 rfl dL_law_3708 ?_
  refine s_load0 X 1 rfl dL_law_3709 ?_
  refine s_iload X 6 rfl dL_law_3710 ?_
  refine s_const X (by unfold InR; omega) dL_law_3712 ?_
  refine s_iadd X (by unfold InR; omega) dL_law_3713 ?_
  refine s_sld X hsc hz (by omega) (by omega) dL_law_3714 ?_
  refine s_load0 X 1 rfl dL_law_3715 ?_
  refine s_iload X 6 rfl dL_law_3716 ?_
  refine s_const X (by unfold InR; omega) dL_law_3718 ?_
  refine s_iadd X (by unfold InR; omega) dL_law_3719 ?_
  refine s_sld X hsc hz (by omega) (by omega) dL_law_3720 ?_
  refine s_load0 X 1 rfl dL_law_3721 ?_
  refine s_iload X 6 rfl dL_law_3722 ?_
  refine s_const X (by unfold InR; omega) dL_law_3724 ?_
  refine s_iadd X (by unfold InR; omega) dL_law_3725 ?_
  refine s_sld X hsc hz (by omega) (by omega) dL_law_3726 ?_
  refine s_load0 X 1 rfl dL_law_3727 ?_
  refine s_iload X 6 rfl dL_law_3728 ?_
  refine s_const X (by unfold InR; omega) dL_law_3730 ?_
  refine s_iadd X (by unfold InR; omega) dL_law_3731 ?_
  refine s_sld X hsc hz (by omega) (by omega) dL_law_3732 ?_
  obtain ⟨rc2, rm, e1b, e2, hI2, h1, h2⟩ := hst M (offM 455 M1) ((xs (i + 1).toNat).toInt) ((xs (i + 2).toNat).toInt) ((xs (i + 3).toNat).toInt) ((xs (i + 4).toNat).toInt) hI1 hM (okM_off hMM 455) (InR_of _) (InR_of _) (InR_of _) (InR_of _)
  cases e1.symm.trans e1b
  refine s_callVH (As := [VI ((xs (i + 1).toNat).toInt), VI ((xs (i + 2).toNat).toInt), VI ((xs (i + 3).toNat).toInt), VI ((xs (i + 4).toNat).toInt)]) X cw_L_344 SHL_455 rfl dL_law_3733 (con_M (As := [VR 0, VI ((xs (i + 1).toNat).toInt), VI ((xs (i + 2).toNat).toInt), VI ((xs (i + 3).toNat).toInt), VI ((xs (i + 4).toNat).toInt)]) nrI (L_M_loses (offG G 455) ((xs (i + 1).toNat).toInt) ((xs (i + 2).toNat).toInt) ((xs (i + 3).toNat).toInt) ((xs (i + 4).toNat).toInt) (offM 455 M1) rm e2)) rfl ⟨Nat.le_of_ble_eq_true rfl, Nat.le_of_ble_eq_true rfl⟩ ⟨by show k + 6 + 0 ≤ 603072; omega, by show n + 36 + 0 ≤ 7223402; omega⟩ (Nat.le_of_ble_eq_true rfl) noX (kkR ?_)
  obtain ⟨g1, g2, g3⟩ := ag_use hIC wrI_lo (M := M) hI2 h1 h2
  rw [← hM1] at g1 g2 g3
  obtain ⟨M2, hM2⟩ : ∃ z, z = putM 455 34 M1 rm.2 := ⟨_, rfl⟩
  rw [← hM2] at g1 g2 g3 ⊢
  rw [← hkz] at g1 g2
  obtain ⟨bz, hbz⟩ : ∃ z, z = rm.1 := ⟨_, rfl⟩
  rw [← hbz] at g2
  show J SHL G room_1 (.inr Q) C (k + 6) (n + 36) 3736 [(6, VI kz), (0, VR 491), (1, VR 0), (2, VR 455), (3, VR 489), (4, VR 490), (5, VI i)] [VI rm.1] M2
  refine s_istore X hbz rfl (by omega) dL_law_3736 ?_
  show J SHL G room_1 (.inr Q) C (k + 6) (n + 36) 3738 [(7, VI bz), (6, VI kz), (0, VR 491), (1, VR 0), (2, VR 455), (3, VR 489), (4, VR 490), (5, VI i)] [] M2
  refine s_load0 X 4 rfl dL_law_3738 ?_
  refine s_callVH (As := []) X cw_L_188 SHL_455 rfl dL_law_3739 (con_Mr (As := [VR 0]) nrI (L_M_thrown (offG G 455) (offM 455 M2) (offM 455 M2 0 0) rfl)) rfl ⟨Nat.le_of_ble_eq_true rfl, Nat.le_of_ble_eq_true rfl⟩ ⟨by show k + 6 + 0 ≤ 603072; omega, by show n + 36 + 0 ≤ 7223402; omega⟩ (Nat.le_of_ble_eq_true rfl) noX (kkR ?_)
  show J SHL G room_1 (.inr Q) C (k + 6) (n + 36) 3742 [(7, VI bz), (6, VI kz), (0, VR 491), (1, VR 0), (2, VR 455), (3, VR 489), (4, VR 490), (5, VI i)] [VI (M2 455 0)] M2
  rw [g1]
  refine s_iload X 1 rfl dL_law_3742 ?_
  refine s_icmpeq_t (tgt := 3749) X dL_law_3744 (by omega) (fun _ => ?_) (fun q => absurd rfl q)
  refine s_iload X 1 rfl dL_law_3749 ?_
  refine s_ifne_t (tgt := 3766) X dL_law_3751 (by omega) (fun _ => ?_) (fun q => ?_)
  · refine s_goto (tgt := 3989) X dL_law_3766 (by omega) ?_
    refine s_loc [2, 3, 4, 5, 6, 7] rfl ?_
    exact s_le (by omega) (by omega) (hnx M2 g3)
  · have hk0 : kz = 0 := by omega
    obtain ⟨hok, hat⟩ := g2 hk0
    refine s_load0 X 5 rfl dL_law_3754 ?_
    refine s_const X (by unfold InR; omega) dL_law_3755 ?_
    refine s_lald X SHL_489 dL_law_3756 ?_
    rw [hat 489 0 (by omega), hat 489 1 (by omega), wrI_at]
    refine s_iload X 0 rfl dL_law_3757 ?_
    refine s_i2l X dL_law_3759 ?_
    refine s_lcmp X dL_law_3760 ?_
    refine s_ifeq_t (tgt := 3766) X dL_law_3761 (by omega) (fun _ => ?_) (fun q => absurd ((lcmpI_0 _ _).mpr rfl) q)
    refine s_goto (tgt := 3989) X dL_law_3766 (by omega) ?_
    refine s_loc [2, 3, 4, 5, 6, 7] rfl ?_
    exact s_le (by omega) (by omega) (hnx M2 g3)
set_option maxRecDepth 20000 in
set_option maxHeartbeats 4000000 in
theorem T_reachShare {G : Gl} {C : Ct} {b Ls : Nat} {xs : Nat → Int32} {Q : Ct → State → Prop} {Inv : Mem → Mem → Prop} {k n : Nat} {i : Int} {M : Mem} (LC : LawC G C b Ls xs) (hIC : InvC Inv) (hst : ST_reachShare Inv) (h0 : 0 ≤ i) (h6 : i + 6 ≤ Ls) (hk : k + 100 ≤ 603072) (hn : n + 600 ≤ 7223402) (hI : Inv M (offM 455 M)) (hnx : ∀ M2 : Mem, Inv M2 (offM 455 M2) → J SHL G room_1 (.inr Q) C (k + 100) (n + 600) 3989 (L0 i) [] M2) : J SHL G room_1 (.inr Q) C k n 3769 (L0 i) [] M := by
  obtain ⟨X, nc, hsc, hz, hL⟩ := LC
  have hL9 : (Ls : Int) ≤ 3072 := by omega
  refine s_ok (fun _ _ hM => ?_)
  refine s_load0 X 1 rfl dL_law_3769 ?_
  refine s_load0 X 0 rfl dL_law_3770 ?_
  refine s_iload X 5 rfl dL_law_3771 ?_
  refine s_const X (by unfold InR; omega) dL_law_3773 ?_
  refine s_iadd X (by unfold InR; omega) dL_law_3774 ?_
  refine s_sld X hsc hz (by omega) (by omega) dL_law_3775 ?_
  refine s_loadR X 4 rfl dL_law_3776 ?_
  obtain ⟨rc, rm0, e1, -, -, f1, f2⟩ := hst M (offM 455 M) ((xs (i + 1).toNat).toInt) hI hM (okM_off hM 455) (InR_of _)
  have hH := H_reachShare G ((xs (i + 1).toNat).toInt) M rc e1 (fun x hx => (f2 x hx).1) (fun v hv => (f1 v hv).2.2.1)
  rw [hout_eq] at hH
  refine s_callSW (As := [VR 0, VI ((xs (i + 1).toNat).toInt), VR 490]) X nc cwS_L_345 dL_law_3778 hH rfl ⟨Nat.le_of_ble_eq_true rfl, Nat.le_of_ble_eq_true rfl⟩ ⟨by show k + 2 ≤ 603072; omega, by show n + 12 ≤ 7223402; omega⟩ (Nat.le_of_ble_eq_true rfl) noX (kkR ?_)
  obtain ⟨M1, hM1⟩ : ∃ z, z = hmem wrF rc M := ⟨_, rfl⟩
  rw [← hM1]
  obtain ⟨kz, hkz⟩ : ∃ z, z = hcode [0, 3] rc := ⟨_, rfl⟩
  show J SHL G room_1 (.inr Q) C (k + 2) (n + 12) 3781 [(0, VR 491), (1, VR 0), (2, VR 455), (3, VR 489), (4, VR 490), (5, VI i)] [VI (hcode [0, 3] rc)] M1
  refine s_istore X hkz rfl (by omega) dL_law_3781 ?_
  show J SHL G room_1 (.inr Q) C (k + 2) (n + 12) 3783 [(6, VI kz), (0, VR 491), (1, VR 0), (2, VR 455), (3, VR 489), (4, VR 490), (5, VI i)] [] M1
  refine s_ok (fun _ _ hMM => ?_)
  have hI1 : Inv M (offM 455 M1) := inv_mid hIC hI (by rw [hM1]; exact (hmem_lo wrF_lo rc M).2)
  refine s_load0 X 3 rfl dL_law_3783 ?_
  refine s_load0 X 1 rfl dL_law_3784 ?_
  refine s_iload X 6 rfl dL_law_3785 ?_
  refine s_const X (by unfold InR; omega) dL_law_3787 ?_
  refine s_iadd X (by unfold InR; omega) dL_law_3788 ?_
  refine s_sld X hsc hz (by omega) (by omega) dL_law_3789 ?_
  obtain ⟨rc2, rm, e1b, e2, hI2, h1, h2⟩ := hst M (offM 455 M1) ((xs (i + 1).toNat).toInt) hI1 hM (okM_off hMM 455) (InR_of _)
  cases e1.symm.trans e1b
  refine s_callVH (As := [VI ((xs (i + 1).toNat).toInt)]) X cw_L_348 SHL_455 rfl dL_law_3790 (con_M (As := [VR 0, VI ((xs (i + 1).toNat).toInt)]) nrF (L_M_reachShare (offG G 455) ((xs (i + 1).toNat).toInt) (offM 455 M1) rm e2)) rfl ⟨Nat.le_of_ble_eq_true rfl, Nat.le_of_ble_eq_true rfl⟩ ⟨by show k + 2 + 0 ≤ 603072; omega, by show n + 12 + 0 ≤ 7223402; omega⟩ (Nat.le_of_ble_eq_true rfl) noX (kkR ?_)
  obtain ⟨g1, g2, g3⟩ := ag_use hIC wrF_lo (M := M) hI2 h1 h2
  rw [← hM1] at g1 g2 g3
  obtain ⟨M2, hM2⟩ : ∃ z, z = putM 455 34 M1 rm.2 := ⟨_, rfl⟩
  rw [← hM2] at g1 g2 g3 ⊢
  rw [← hkz] at g1 g2
  obtain ⟨bz, hbz⟩ : ∃ z, z = rm.1 := ⟨_, rfl⟩
  rw [← hbz] at g2
  show J SHL G room_1 (.inr Q) C (k + 2) (n + 12) 3793 [(6, VI kz), (0, VR 491), (1, VR 0), (2, VR 455), (3, VR 489), (4, VR 490), (5, VI i)] [VF rm.1] M2
  refine s_fstore X hbz rfl (by omega) dL_law_3793 ?_
  show J SHL G room_1 (.inr Q) C (k + 2) (n + 12) 3795 [(7, VF bz), (6, VI kz), (0, VR 491), (1, VR 0), (2, VR 455), (3, VR 489), (4, VR 490), (5, VI i)] [] M2
  refine s_load0 X 4 rfl dL_law_3795 ?_
  refine s_callVH (As := []) X cw_L_188 SHL_455 rfl dL_law_3796 (con_Mr (As := [VR 0]) nrI (L_M_thrown (offG G 455) (offM 455 M2) (offM 455 M2 0 0) rfl)) rfl ⟨Nat.le_of_ble_eq_true rfl, Nat.le_of_ble_eq_true rfl⟩ ⟨by show k + 2 + 0 ≤ 603072; omega, by show n + 12 + 0 ≤ 7223402; omega⟩ (Nat.le_of_ble_eq_true rfl) noX (kkR ?_)
  show J SHL G room_1 (.inr Q) C (k + 2) (n + 12) 3799 [(7, VF bz), (6, VI kz), (0, VR 491), (1, VR 0), (2, VR 455), (3, VR 489), (4, VR 490), (5, VI i)] [VI (M2 455 0)] M2
  rw [g1]
  refine s_iload X 1 rfl dL_law_3799 ?_
  refine s_icmpeq_t (tgt := 3806) X dL_law_3801 (by omega) (fun _ => ?_) (fun q => absurd rfl q)
  refine s_iload X 1 rfl dL_law_3806 ?_
  refine s_ifne_t (tgt := 3844) X dL_law_3808 (by omega) (fun _ => ?_) (fun q => ?_)
  · refine s_goto (tgt := 3989) X dL_law_3844 (by omega) ?_
    refine s_loc [2, 3, 4, 5, 6, 7] rfl ?_
    exact s_le (by omega) (by omega) (hnx M2 g3)
  · have hk0 : kz = 0 := by omega
    obtain ⟨hok, hat⟩ := g2 hk0
    refine s_loadR X 6 rfl dL_law_3811 ?_
    refine s_const X (by unfold InR; omega) dL_law_3813 ?_
    refine s_dald X SHL_490 dL_law_3814 ?_
    rw [hat 490 0 (by omega), hat 490 1 (by omega), wrF_at]
    refine s_fload X 0 rfl dL_law_3815 ?_
    refine s_f2d X hok.1 dL_law_3817 ?_
    refine s_dcmp X dL_law_3818 ?_
    rw [hok.2]
    refine s_ifeq_t (tgt := 3844) X dL_law_3819 (by omega) (fun _ => ?_) (fun q => absurd rfl q)
    refine s_goto (tgt := 3989) X dL_law_3844 (by omega) ?_
    refine s_loc [2, 3, 4, 5, 6, 7] rfl ?_
    exact s_le (by omega) (by omega) (hnx M2 g3)
set_option maxRecDepth 20000 in
set_option maxHeartbeats 4000000 in
theorem T_meanBetween {G : Gl} {C : Ct} {b Ls : Nat} {xs : Nat → Int32} {Q : Ct → State → Prop} {Inv : Mem → Mem → Prop} {k n : Nat} {i : Int} {M : Mem} (LC : LawC G C b Ls xs) (hIC : InvC Inv) (hst : ST_meanBetween Inv) (h0 : 0 ≤ i) (h6 : i + 6 ≤ Ls) (hk : k + 100 ≤ 603072) (hn : n + 600 ≤ 7223402) (hI : Inv M (offM 455 M)) (hnx : ∀ M2 : Mem, Inv M2 (offM 455 M2) → J SHL G room_1 (.inr Q) C (k + 100) (n + 600) 3989 (L0 i) [] M2) : J SHL G room_1 (.inr Q) C k n 3847 (L0 i) [] M := by
  obtain ⟨X, nc, hsc, hz, hL⟩ := LC
  have hL9 : (Ls : Int) ≤ 3072 := by omega
  refine s_ok (fun _ _ hM => ?_)
  refine s_load0 X 1 rfl dL_law_3847 ?_
  refine s_loadR X 4 rfl dL_law_3848 ?_
  obtain ⟨rc, rm0, e1, -, -, f1, f2⟩ := hst M (offM 455 M) hI hM (okM_off hM 455) 
  have hH := H_meanBetween G M rc e1 (fun x hx => (f2 x hx).1)
  rw [hout_eq] at hH
  refine s_callSW (As := [VR 0, VR 490]) X nc cwS_L_349 dL_law_3850 hH rfl ⟨Nat.le_of_ble_eq_true rfl, Nat.le_of_ble_eq_true rfl⟩ ⟨by show k + 1 ≤ 603072; omega, by show n + 6 ≤ 7223402; omega⟩ (Nat.le_of_ble_eq_true rfl) noX (kkR ?_)
  obtain ⟨M1, hM1⟩ : ∃ z, z = hmem wrD rc M := ⟨_, rfl⟩
  rw [← hM1]
  obtain ⟨kz, hkz⟩ : ∃ z, z = hcode [3] rc := ⟨_, rfl⟩
  show J SHL G room_1 (.inr Q) C (k + 1) (n + 6) 3853 [(0, VR 491), (1, VR 0), (2, VR 455), (3, VR 489), (4, VR 490), (5, VI i)] [VI (hcode [3] rc)] M1
  refine s_istore X hkz rfl (by omega) dL_law_3853 ?_
  show J SHL G room_1 (.inr Q) C (k + 1) (n + 6) 3855 [(6, VI kz), (0, VR 491), (1, VR 0), (2, VR 455), (3, VR 489), (4, VR 490), (5, VI i)] [] M1
  refine s_ok (fun _ _ hMM => ?_)
  have hI1 : Inv M (offM 455 M1) := inv_mid hIC hI (by rw [hM1]; exact (hmem_lo wrD_lo rc M).2)
  refine s_load0 X 3 rfl dL_law_3855 ?_
  obtain ⟨rc2, rm, e1b, e2, hI2, h1, h2⟩ := hst M (offM 455 M1) hI1 hM (okM_off hMM 455) 
  cases e1.symm.trans e1b
  refine s_callVH (As := []) X cw_L_352 SHL_455 rfl dL_law_3856 (con_M (As := [VR 0]) nrD (L_M_meanBetween (offG G 455) (offM 455 M1) rm e2)) rfl ⟨Nat.le_of_ble_eq_true rfl, Nat.le_of_ble_eq_true rfl⟩ ⟨by show k + 1 + 0 ≤ 603072; omega, by show n + 6 + 0 ≤ 7223402; omega⟩ (Nat.le_of_ble_eq_true rfl) noX (kkR ?_)
  obtain ⟨g1, g2, g3⟩ := ag_use hIC wrD_lo (M := M) hI2 h1 h2
  rw [← hM1] at g1 g2 g3
  obtain ⟨M2, hM2⟩ : ∃ z, z = putM 455 34 M1 rm.2 := ⟨_, rfl⟩
  rw [← hM2] at g1 g2 g3 ⊢
  rw [← hkz] at g1 g2
  obtain ⟨bz, hbz⟩ : ∃ z, z = rm.1 := ⟨_, rfl⟩
  rw [← hbz] at g2
  show J SHL G room_1 (.inr Q) C (k + 1) (n + 6) 3859 [(6, VI kz), (0, VR 491), (1, VR 0), (2, VR 455), (3, VR 489), (4, VR 490), (5, VI i)] [VD rm.1] M2
  refine s_dstore X hbz rfl (by omega) dL_law_3859 ?_
  show J SHL G room_1 (.inr Q) C (k + 1) (n + 6) 3861 [(7, VD bz), (6, VI kz), (0, VR 491), (1, VR 0), (2, VR 455), (3, VR 489), (4, VR 490), (5, VI i)] [] M2
  refine s_load0 X 4 rfl dL_law_3861 ?_
  refine s_callVH (As := []) X cw_L_188 SHL_455 rfl dL_law_3862 (con_Mr (As := [VR 0]) nrI (L_M_thrown (offG G 455) (offM 455 M2) (offM 455 M2 0 0) rfl)) rfl ⟨Nat.le_of_ble_eq_true rfl, Nat.le_of_ble_eq_true rfl⟩ ⟨by show k + 1 + 0 ≤ 603072; omega, by show n + 6 + 0 ≤ 7223402; omega⟩ (Nat.le_of_ble_eq_true rfl) noX (kkR ?_)
  show J SHL G room_1 (.inr Q) C (k + 1) (n + 6) 3865 [(7, VD bz), (6, VI kz), (0, VR 491), (1, VR 0), (2, VR 455), (3, VR 489), (4, VR 490), (5, VI i)] [VI (M2 455 0)] M2
  rw [g1]
  refine s_iload X 1 rfl dL_law_3865 ?_
  refine s_icmpeq_t (tgt := 3872) X dL_law_3867 (by omega) (fun _ => ?_) (fun q => absurd rfl q)
  refine s_iload X 1 rfl dL_law_3872 ?_
  refine s_ifne_t (tgt := 3909) X dL_law_3874 (by omega) (fun _ => ?_) (fun q => ?_)
  · refine s_goto (tgt := 3989) X dL_law_3909 (by omega) ?_
    refine s_loc [2, 3, 4, 5, 6, 7] rfl ?_
    exact s_le (by omega) (by omega) (hnx M2 g3)
  · have hk0 : kz = 0 := by omega
    obtain ⟨hok, hat⟩ := g2 hk0
    refine s_loadR X 6 rfl dL_law_3877 ?_
    refine s_const X (by unfold InR; omega) dL_law_3879 ?_
    refine s_dald X SHL_490 dL_law_3880 ?_
    rw [hat 490 0 (by omega), hat 490 1 (by omega), wrD_at]
    refine s_dload X 0 rfl dL_law_3881 ?_
    refine s_dcmp X dL_law_3883 ?_
    rw [show dcmpI bz bz .l = 0 from hok]
    refine s_ifeq_t (tgt := 3909) X dL_law_3884 (by omega) (fun _ => ?_) (fun q => absurd rfl q)
    refine s_goto (tgt := 3989) X dL_law_3909 (by omega) ?_
    refine s_loc [2, 3, 4, 5, 6, 7] rfl ?_
    exact s_le (by omega) (by omega) (hnx M2 g3)
set_option maxRecDepth 20000 in
set_option maxHeartbeats 4000000 in
theorem T_checksum {G : Gl} {C : Ct} {b Ls : Nat} {xs : Nat → Int32} {Q : Ct → State → Prop} {Inv : Mem → Mem → Prop} {k n : Nat} {i : Int} {M : Mem} (LC : LawC G C b Ls xs) (hIC : InvC Inv) (hst : ST_checksum Inv) (h0 : 0 ≤ i) (h6 : i + 6 ≤ Ls) (hk : k + 100 ≤ 603072) (hn : n + 600 ≤ 7223402) (hI : Inv M (offM 455 M)) (hnx : ∀ M2 : Mem, Inv M2 (offM 455 M2) → J SHL G room_1 (.inr Q) C (k + 100) (n + 600) 3989 (L0 i) [] M2) : J SHL G room_1 (.inr Q) C k n 3912 (L0 i) [] M := by
  obtain ⟨X, nc, hsc, hz, hL⟩ := LC
  have hL9 : (Ls : Int) ≤ 3072 := by omega
  refine s_ok (fun _ _ hM => ?_)
  refine s_load0 X 1 rfl dL_law_3912 ?_
  obtain ⟨rc, rm, e1, e2, hI2, h1⟩ := hst M (offM 455 M) hI hM (okM_off hM 455)
  refine s_callVH (As := []) X cw_L_353 SHL_0 rfl dL_law_3913 (con_Cr (L_C_checksum G M rc e1)) rfl ⟨Nat.le_of_ble_eq_true rfl, Nat.le_of_ble_eq_true rfl⟩ ⟨by show k + 0 ≤ 603072; omega, by show n + 0 ≤ 7223402; omega⟩ (Nat.le_of_ble_eq_true rfl) noX (kkR ?_)
  refine s_load0 X 2 rfl dL_law_3916 ?_
  refine s_callVH (As := []) X cw_L_357 SHL_455 rfl dL_law_3917 (con_M (As := [VR 0]) nrL (L_M_checksum (offG G 455) (offM 455 M) rm e2)) rfl ⟨Nat.le_of_ble_eq_true rfl, Nat.le_of_ble_eq_true rfl⟩ ⟨by show k + 0 + 0 ≤ 603072; omega, by show n + 0 + 0 ≤ 7223402; omega⟩ (Nat.le_of_ble_eq_true rfl) noX (kkR ?_)
  have g3 := inv_put hIC (M1 := M) hI2 (fun _ _ _ => rfl)
  show J SHL G room_1 (.inr Q) C (k + 0) (n + 0) 3920 [(0, VR 491), (1, VR 0), (2, VR 455), (3, VR 489), (4, VR 490), (5, VI i)] [VL rm.1, VL rc] (putM 455 34 M rm.2)
  rw [h1]
  refine s_lcmp X dL_law_3920 ?_
  refine s_ifeq_t (tgt := 3989) X dL_law_3921 (by omega) (fun _ => ?_) (fun q => absurd ((lcmpI_0 _ _).mpr rfl) q)
  exact s_le (by omega) (by omega) (hnx _ g3)
set_option maxRecDepth 20000 in
set_option maxHeartbeats 4000000 in
theorem T_isSound {G : Gl} {C : Ct} {b Ls : Nat} {xs : Nat → Int32} {Q : Ct → State → Prop} {Inv : Mem → Mem → Prop} {k n : Nat} {i : Int} {M : Mem} (LC : LawC G C b Ls xs) (hIC : InvC Inv) (hst : ST_isSound Inv) (h0 : 0 ≤ i) (h6 : i + 6 ≤ Ls) (hk : k + 100 ≤ 603072) (hn : n + 600 ≤ 7223402) (hI : Inv M (offM 455 M)) (hnx : ∀ M2 : Mem, Inv M2 (offM 455 M2) → J SHL G room_1 (.inr Q) C (k + 100) (n + 600) 3989 (L0 i) [] M2) : J SHL G room_1 (.inr Q) C k n 3926 (L0 i) [] M := by
  obtain ⟨X, nc, hsc, hz, hL⟩ := LC
  have hL9 : (Ls : Int) ≤ 3072 := by omega
  refine s_ok (fun _ _ hM => ?_)
  refine s_load0 X 1 rfl dL_law_3926 ?_
  refine s_load0 X 0 rfl dL_law_3927 ?_
  refine s_iload X 5 rfl dL_law_3928 ?_
  refine s_const X (by unfold InR; omega) dL_law_3930 ?_
  refine s_iadd X (by unfold InR; omega) dL_law_3931 ?_
  refine s_sld X hsc hz (by omega) (by omega) dL_law_3932 ?_
  refine s_load0 X 3 rfl dL_law_3933 ?_
  obtain ⟨rc, rm0, e1, -, -, f1, f2⟩ := hst M (offM 455 M) ((xs (i + 1).toNat).toInt) hI hM (okM_off hM 455) (InR_of _)
  have hH := H_isSound G ((xs (i + 1).toNat).toInt) M rc e1 (fun x hx => (f2 x hx).1)
  rw [hout_eq] at hH
  refine s_callSW (As := [VR 0, VI ((xs (i + 1).toNat).toInt), VR 489]) X nc cwS_L_358 dL_law_3934 hH rfl ⟨Nat.le_of_ble_eq_true rfl, Nat.le_of_ble_eq_true rfl⟩ ⟨by show k + 1 ≤ 603072; omega, by show n + 6 ≤ 7223402; omega⟩ (Nat.le_of_ble_eq_true rfl) noX (kkR ?_)
  obtain ⟨M1, hM1⟩ : ∃ z, z = hmem wrB rc M := ⟨_, rfl⟩
  rw [← hM1]
  obtain ⟨kz, hkz⟩ : ∃ z, z = hcode [0] rc := ⟨_, rfl⟩
  show J SHL G room_1 (.inr Q) C (k + 1) (n + 6) 3937 [(0, VR 491), (1, VR 0), (2, VR 455), (3, VR 489), (4, VR 490), (5, VI i)] [VI (hcode [0] rc)] M1
  refine s_istore X hkz rfl (by omega) dL_law_3937 ?_
  show J SHL G room_1 (.inr Q) C (k + 1) (n + 6) 3939 [(6, VI kz), (0, VR 491), (1, VR 0), (2, VR 455), (3, VR 489), (4, VR 490), (5, VI i)] [] M1
  refine s_ok (fun _ _ hMM => ?_)
  have hI1 : Inv M (offM 455 M1) := inv_mid hIC hI (by rw [hM1]; exact (hmem_lo wrB_lo rc M).2)
  refine s_load0 X 3 rfl dL_law_3939 ?_
  refine s_load0 X 1 rfl dL_law_3940 ?_
  refine s_iload X 6 rfl dL_law_3941 ?_
  refine s_const X (by unfold InR; omega) dL_law_3943 ?_
  refine s_iadd X (by unfold InR; omega) dL_law_3944 ?_
  refine s_sld X hsc hz (by omega) (by omega) dL_law_3945 ?_
  obtain ⟨rc2, rm, e1b, e2, hI2, h1, h2⟩ := hst M (offM 455 M1) ((xs (i + 1).toNat).toInt) hI1 hM (okM_off hMM 455) (InR_of _)
  cases e1.symm.trans e1b
  refine s_callVH (As := [VI ((xs (i + 1).toNat).toInt)]) X cw_L_360 SHL_455 rfl dL_law_3946 (con_M (As := [VR 0, VI ((xs (i + 1).toNat).toInt)]) nrI (L_M_isSound (offG G 455) ((xs (i + 1).toNat).toInt) (offM 455 M1) rm e2)) rfl ⟨Nat.le_of_ble_eq_true rfl, Nat.le_of_ble_eq_true rfl⟩ ⟨by show k + 1 + 0 ≤ 603072; omega, by show n + 6 + 0 ≤ 7223402; omega⟩ (Nat.le_of_ble_eq_true rfl) noX (kkR ?_)
  obtain ⟨g1, g2, g3⟩ := ag_use hIC wrB_lo (M := M) hI2 h1 h2
  rw [← hM1] at g1 g2 g3
  obtain ⟨M2, hM2⟩ : ∃ z, z = putM 455 34 M1 rm.2 := ⟨_, rfl⟩
  rw [← hM2] at g1 g2 g3 ⊢
  rw [← hkz] at g1 g2
  obtain ⟨bz, hbz⟩ : ∃ z, z = rm.1 := ⟨_, rfl⟩
  rw [← hbz] at g2
  show J SHL G room_1 (.inr Q) C (k + 1) (n + 6) 3949 [(6, VI kz), (0, VR 491), (1, VR 0), (2, VR 455), (3, VR 489), (4, VR 490), (5, VI i)] [VI rm.1] M2
  refine s_istore X hbz rfl (by omega) dL_law_3949 ?_
  show J SHL G room_1 (.inr Q) C (k + 1) (n + 6) 3951 [(7, VI bz), (6, VI kz), (0, VR 491), (1, VR 0), (2, VR 455), (3, VR 489), (4, VR 490), (5, VI i)] [] M2
  refine s_load0 X 4 rfl dL_law_3951 ?_
  refine s_callVH (As := []) X cw_L_188 SHL_455 rfl dL_law_3952 (con_Mr (As := [VR 0]) nrI (L_M_thrown (offG G 455) (offM 455 M2) (offM 455 M2 0 0) rfl)) rfl ⟨Nat.le_of_ble_eq_true rfl, Nat.le_of_ble_eq_true rfl⟩ ⟨by show k + 1 + 0 ≤ 603072; omega, by show n + 6 + 0 ≤ 7223402; omega⟩ (Nat.le_of_ble_eq_true rfl) noX (kkR ?_)
  show J SHL G room_1 (.inr Q) C (k + 1) (n + 6) 3955 [(7, VI bz), (6, VI kz), (0, VR 491), (1, VR 0), (2, VR 455), (3, VR 489), (4, VR 490), (5, VI i)] [VI (M2 455 0)] M2
  rw [g1]
  refine s_iload X 1 rfl dL_law_3955 ?_
  refine s_icmpeq_t (tgt := 3962) X dL_law_3957 (by omega) (fun _ => ?_) (fun q => absurd rfl q)
  refine s_iload X 1 rfl dL_law_3962 ?_
  refine s_ifne_t (tgt := 3986) X dL_law_3964 (by omega) (fun _ => ?_) (fun q => ?_)
  · refine s_goto (tgt := 3989) X dL_law_3986 (by omega) ?_
    refine s_loc [2, 3, 4, 5, 6, 7] rfl ?_
    exact s_le (by omega) (by omega) (hnx M2 g3)
  · have hk0 : kz = 0 := by omega
    obtain ⟨hok, hat⟩ := g2 hk0
    refine s_load0 X 5 rfl dL_law_3967 ?_
    refine s_const X (by unfold InR; omega) dL_law_3968 ?_
    refine s_lald X SHL_489 dL_law_3969 ?_
    rw [hat 489 0 (by omega), hat 489 1 (by omega), wrB_at]
    refine s_iload X 0 rfl dL_law_3970 ?_
    refine s_ifeq_t (tgt := 3979) X dL_law_3972 (by omega) (fun c1 => ?_) (fun c1 => ?_)
    · refine s_lconst X dL_law_3979 ?_
      rw [if_pos c1]
      refine s_lcmp X dL_law_3980 ?_
      refine s_ifeq_t (tgt := 3986) X dL_law_3981 (by omega) (fun _ => ?_) (fun q => absurd ((lcmpI_0 _ _).mpr rfl) q)
      refine s_goto (tgt := 3989) X dL_law_3986 (by omega) ?_
      refine s_loc [2, 3, 4, 5, 6, 7] rfl ?_
      exact s_le (by omega) (by omega) (hnx M2 g3)
    · refine s_lconst X dL_law_3975 ?_
      refine s_goto (tgt := 3980) X dL_law_3976 (by omega) ?_
      rw [if_neg c1]
      refine s_lcmp X dL_law_3980 ?_
      refine s_ifeq_t (tgt := 3986) X dL_law_3981 (by omega) (fun _ => ?_) (fun q => absurd ((lcmpI_0 _ _).mpr rfl) q)
      refine s_goto (tgt := 3989) X dL_law_3986 (by omega) ?_
      refine s_loc [2, 3, 4, 5, 6, 7] rfl ?_
      exact s_le (by omega) (by omega) (hnx M2 g3)
