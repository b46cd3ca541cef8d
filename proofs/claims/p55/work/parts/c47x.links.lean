/-! ===== the law's methods, walked (printed by a program) ===== -/
def rm_L_draw : Room := { frames := 0, cells := 0, slots := 0, locals := 0 }
set_option maxRecDepth 20000 in
set_option maxHeartbeats 8000000 in
theorem L_W_draw (G : Gl) (n_ : Int) (m : Mem) (r : (Int × Mem)) (h : W_draw n_ m = some r) : ConM SHL G yL_draw cL_draw 2 (some .int) rm_L_draw [VR 455, VI n_] m (((.inl (some (VI r.1)), r.2) : Res × Mem)) := by
  refine conM_of (own := "LastbusLaw") (by decide) rfl (Nat.le_of_ble_eq_true rfl) (fun C X nc => ?_)
  obtain ⟨O, hO⟩ : ∃ O : Res × Mem, O = (((.inl (some (VI r.1)), r.2) : Res × Mem)) := ⟨_, rfl⟩
  rw [← hO]
  show J SHL G rm_L_draw (.inl O) C 0 0 0 [(0, VR 455), (1, VI n_)] [] m
  unfold W_draw at h
  refine s_load0 X 0 rfl dL_draw_0 ?_
  refine s_const X (by unfold InR; omega) dL_draw_1 ?_
  refine s_ldc (z := 1103515245) X (by unfold InR; omega) kc_L_96 dL_draw_2 ?_
  refine s_load0 X 0 rfl dL_draw_4 ?_
  refine s_const X (by unfold InR; omega) dL_draw_5 ?_
  refine s_iald X SHL_455 (by omega) (by omega) dL_draw_6 ?_
  refine s_imulW X dL_draw_7 ?_
  refine s_sipush X (by omega) dL_draw_8 ?_
  refine s_iaddW X dL_draw_11 ?_
  obtain ⟨m_, e2, h⟩ := ltv_elim h
  refine s_iast X e2 SHL_455 (by omega) (by omega) dL_draw_12 ?_
  obtain ⟨g3, h⟩ := grd_some h
  refine s_load0 X 0 rfl dL_draw_13 ?_
  refine s_const X (by unfold InR; omega) dL_draw_14 ?_
  refine s_iald X SHL_455 (by omega) (by omega) dL_draw_15 ?_
  refine s_bipush X (by omega) dL_draw_16 ?_
  refine s_iushr X dL_draw_18 ?_
  refine s_ldc (z := 65535) X (by unfold InR; omega) kc_L_97 dL_draw_19 ?_
  refine s_iand X dL_draw_21 ?_
  refine s_iload_n X 1 rfl dL_draw_22 ?_
  refine s_irem X g3 dL_draw_23 ?_
  exact s_iret X (Nat.le_of_ble_eq_true rfl) (Nat.le_of_ble_eq_true rfl) (by cases h; exact hO) dL_draw_24
def rm_L_close : Room := { frames := 0, cells := 0, slots := 0, locals := 0 }
set_option maxRecDepth 20000 in
set_option maxHeartbeats 8000000 in
theorem L_W_close (G : Gl) (n_ : Int) (m : Mem) (r : Mem) (h : W_close n_ m = some r) : ConM SHL G yL_close cL_close 6 none rm_L_close [VR 457, VI n_] m (((.inl none, r) : Res × Mem)) := by
  refine conM_of (own := "LastbusLaw") (by decide) rfl (Nat.le_of_ble_eq_true rfl) (fun C X nc => ?_)
  obtain ⟨O, hO⟩ : ∃ O : Res × Mem, O = (((.inl none, r) : Res × Mem)) := ⟨_, rfl⟩
  rw [← hO]
  show J SHL G rm_L_close (.inl O) C 0 0 0 [(0, VR 457), (1, VI n_)] [] m
  unfold W_close at h
  refine s_const X (by unfold InR; omega) dL_close_0 ?_
  obtain ⟨k_, e2, h⟩ := ltv_elim h
  refine s_istore_n X e2 rfl (by omega) dL_close_1 ?_
  obtain ⟨k_4, m_7, hl12, h⟩ := bq2_some h
  obtain ⟨fu30, hl13⟩ := loop_iter hl12
  have KX9 : ∀ q9 : Int × Mem, q9 = (k_4, m_7) → J SHL G rm_L_close (.inl O) C 0 0 98 [(2, VI q9.1), (0, VR 457), (1, VI n_)] [] (q9.2) := by
    intro q9 e9
    subst e9
    show J SHL G rm_L_close (.inl O) C 0 0 98 [(2, VI k_4), (0, VR 457), (1, VI n_)] [] m_7
    exact s_vret X (Nat.le_of_ble_eq_true rfl) (Nat.le_of_ble_eq_true rfl) (by cases h; exact hO) dL_close_98
  have LP8 : ∀ (fu3 : Nat) (k_2 : Int) (m_ : Mem), iter (fun s => W_close_b1 n_ s.1 s.2) fu3 (k_2, m_) = some (k_4, m_7) → J SHL G rm_L_close (.inl O) C 0 0 2 [(2, VI k_2), (0, VR 457), (1, VI n_)] [] m_ := by
    intro fu3
    induction fu3 with
    | zero => intro k_2 m_ hn4; exact absurd hn4 (by simp [iter])
    | succ fu3 ih7 =>
      intro k_2 m_ hn4
      obtain ⟨x5, h, hc6⟩ := iter_succ hn4
      replace h : W_close_b1 n_ k_2 m_ = some x5 := h
      unfold W_close_b1 at h
      refine s_iload_n X 0 rfl dL_close_2 ?_
      refine s_iload_n X 2 rfl dL_close_3 ?_
      refine s_icmpge_f (tgt := 98) X dL_close_4 (by omega) (fun c17 => ?_) (fun c18 => ?_)
      · replace h := ite_neg h c17
        exact KX9 _ (iter_exit h hc6)
      · replace h := ite_pos h c18
        refine s_const X (by unfold InR; omega) dL_close_7 ?_
        obtain ⟨a_, e20, h⟩ := ltv_elim h
        refine s_istore_n X e20 rfl (by omega) dL_close_8 ?_
        obtain ⟨a_4, m_6, hl30, h⟩ := bq2_some h
        obtain ⟨fu210, hl31⟩ := loop_iter hl30
        have KX27 : ∀ q9 : Int × Mem, q9 = (a_4, m_6) → J SHL G rm_L_close (.inl O) C 0 0 92 [(3, VI q9.1), (2, VI k_2), (0, VR 457), (1, VI n_)] [] (q9.2) := by
          intro q9 e9
          subst e9
          show J SHL G rm_L_close (.inl O) C 0 0 92 [(3, VI a_4), (2, VI k_2), (0, VR 457), (1, VI n_)] [] m_6
          obtain ⟨g66, h⟩ := grd_some h
          obtain ⟨k_3, e67, h⟩ := ltv_elim h
          refine s_iinc X 1 rfl g66 e67 rfl (by omega) dL_close_92 ?_
          refine s_goto (tgt := 2) X dL_close_95 (by omega) ?_
          refine s_loc [0, 2, 3] rfl ?_
          exact ih7 _ _ (iter_next h hc6)
        have LP26 : ∀ (fu21 : Nat) (a_2 : Int) (m_2 : Mem), iter (fun s => W_close_b2 n_ k_2 s.1 s.2) fu21 (a_2, m_2) = some (a_4, m_6) → J SHL G rm_L_close (.inl O) C 0 0 9 [(3, VI a_2), (2, VI k_2), (0, VR 457), (1, VI n_)] [] m_2 := by
          intro fu21
          induction fu21 with
          | zero => intro a_2 m_2 hn22; exact absurd hn22 (by simp [iter])
          | succ fu21 ih25 =>
            intro a_2 m_2 hn22
            obtain ⟨x23, h, hc24⟩ := iter_succ hn22
            replace h : W_close_b2 n_ k_2 a_2 m_2 = some x23 := h
            unfold W_close_b2 at h
            refine s_iload_n X 0 rfl dL_close_9 ?_
            refine s_iload_n X 3 rfl dL_close_10 ?_
            refine s_icmpge_f (tgt := 92) X dL_close_11 (by omega) (fun c35 => ?_) (fun c36 => ?_)
            · replace h := ite_neg h c35
              exact KX27 _ (iter_exit h hc24)
            · replace h := ite_pos h c36
              refine s_const X (by unfold InR; omega) dL_close_14 ?_
              obtain ⟨b_, e38, h⟩ := ltv_elim h
              refine s_istore X e38 rfl (by omega) dL_close_15 ?_
              obtain ⟨b_4, m_5, hl48, h⟩ := bq2_some h
              obtain ⟨fu390, hl49⟩ := loop_iter hl48
              have KX45 : ∀ q9 : Int × Mem, q9 = (b_4, m_5) → J SHL G rm_L_close (.inl O) C 0 0 86 [(4, VI q9.1), (3, VI a_2), (2, VI k_2), (0, VR 457), (1, VI n_)] [] (q9.2) := by
                intro q9 e9
                subst e9
                show J SHL G rm_L_close (.inl O) C 0 0 86 [(4, VI b_4), (3, VI a_2), (2, VI k_2), (0, VR 457), (1, VI n_)] [] m_5
                obtain ⟨g64, h⟩ := grd_some h
                obtain ⟨a_3, e65, h⟩ := ltv_elim h
                refine s_iinc X 1 rfl g64 e65 rfl (by omega) dL_close_86 ?_
                refine s_goto (tgt := 9) X dL_close_89 (by omega) ?_
                refine s_loc [0, 2, 3, 4] rfl ?_
                exact ih25 _ _ (iter_next h hc24)
              have LP44 : ∀ (fu39 : Nat) (b_2 : Int) (m_3 : Mem), iter (fun s => W_close_b3 n_ k_2 a_2 s.1 s.2) fu39 (b_2, m_3) = some (b_4, m_5) → J SHL G rm_L_close (.inl O) C 0 0 17 [(4, VI b_2), (3, VI a_2), (2, VI k_2), (0, VR 457), (1, VI n_)] [] m_3 := by
                intro fu39
                induction fu39 with
                | zero => intro b_2 m_3 hn40; exact absurd hn40 (by simp [iter])
                | succ fu39 ih43 =>
                  intro b_2 m_3 hn40
                  obtain ⟨x41, h, hc42⟩ := iter_succ hn40
                  replace h : W_close_b3 n_ k_2 a_2 b_2 m_3 = some x41 := h
                  unfold W_close_b3 at h
                  refine s_iload X 0 rfl dL_close_17 ?_
                  refine s_iload_n X 4 rfl dL_close_19 ?_
                  refine s_icmpge_f (tgt := 86) X dL_close_20 (by omega) (fun c53 => ?_) (fun c54 => ?_)
                  · replace h := ite_neg h c53
                    exact KX45 _ (iter_exit h hc42)
                  · replace h := ite_pos h c54
                    obtain ⟨g55, h⟩ := grd_some h
                    refine s_load0 X 3 rfl dL_close_23 ?_
                    refine s_bipush X (by omega) dL_close_24 ?_
                    refine s_iload_n X 1 rfl dL_close_26 ?_
                    refine s_imul X g55.1 dL_close_27 ?_
                    refine s_iload_n X 2 rfl dL_close_28 ?_
                    refine s_iadd X g55.2.1 dL_close_29 ?_
                    refine s_iald X SHL_457 g55.2.2.1 g55.2.2.2.1 dL_close_30 ?_
                    refine s_load0 X 3 rfl dL_close_31 ?_
                    refine s_bipush X (by omega) dL_close_32 ?_
                    refine s_iload_n X 2 rfl dL_close_34 ?_
                    refine s_imul X g55.2.2.2.2.1 dL_close_35 ?_
                    refine s_iload X 0 rfl dL_close_36 ?_
                    refine s_iadd X g55.2.2.2.2.2.1 dL_close_38 ?_
                    refine s_iald X SHL_457 g55.2.2.2.2.2.2.1 g55.2.2.2.2.2.2.2.1 dL_close_39 ?_
                    refine s_iadd X g55.2.2.2.2.2.2.2.2 dL_close_40 ?_
                    obtain ⟨sum_, e56, h⟩ := ltv_elim h
                    refine s_istore X e56 rfl (by omega) dL_close_41 ?_
                    obtain ⟨g57, h⟩ := grd_some h
                    refine s_load0 X 4 rfl dL_close_43 ?_
                    refine s_bipush X (by omega) dL_close_44 ?_
                    refine s_iload_n X 2 rfl dL_close_46 ?_
                    refine s_imul X g55.1 dL_close_47 ?_
                    refine s_iload X 1 rfl dL_close_48 ?_
                    refine s_iadd X g57.1 dL_close_50 ?_
                    have kM58 : J SHL G rm_L_close (.inl O) C 0 0 79 [(5, VI sum_), (4, VI b_2), (3, VI a_2), (2, VI k_2), (0, VR 457), (1, VI n_)] [VI (if sum_ < m_3 457 (6 * a_2 + b_2).toNat then sum_ else m_3 457 (6 * a_2 + b_2).toNat), VI (6 * a_2 + b_2), VR 457] m_3 := by
                      obtain ⟨m_4, e61, h⟩ := ltv_elim h
                      refine s_iast X e61 SHL_457 g57.2.1 g57.2.2 dL_close_79 ?_
                      obtain ⟨g62, h⟩ := grd_some h
                      obtain ⟨b_3, e63, h⟩ := ltv_elim h
                      refine s_iinc X 1 rfl g62 e63 rfl (by omega) dL_close_80 ?_
                      refine s_goto (tgt := 17) X dL_close_83 (by omega) ?_
                      refine s_loc [0, 2, 3, 4, 5] rfl ?_
                      exact ih43 _ _ (iter_next h hc42)
                    refine s_iload X 0 rfl dL_close_51 ?_
                    refine s_load0 X 4 rfl dL_close_53 ?_
                    refine s_bipush X (by omega) dL_close_54 ?_
                    refine s_iload_n X 2 rfl dL_close_56 ?_
                    refine s_imul X g55.1 dL_close_57 ?_
                    refine s_iload X 1 rfl dL_close_58 ?_
                    refine s_iadd X g57.1 dL_close_60 ?_
                    refine s_iald X SHL_457 g57.2.1 g57.2.2 dL_close_61 ?_
                    refine s_icmpge_f (tgt := 70) X dL_close_62 (by omega) (fun c59 => ?_) (fun c60 => ?_)
                    · refine s_load0 X 4 rfl dL_close_70 ?_
                      refine s_bipush X (by omega) dL_close_71 ?_
                      refine s_iload_n X 2 rfl dL_close_73 ?_
                      refine s_imul X g55.1 dL_close_74 ?_
                      refine s_iload X 1 rfl dL_close_75 ?_
                      refine s_iadd X g57.1 dL_close_77 ?_
                      refine s_iald X SHL_457 g57.2.1 g57.2.2 dL_close_78 ?_
                      exact s_eqt (if_neg c59) kM58
                    · refine s_iload X 0 rfl dL_close_65 ?_
                      refine s_goto (tgt := 79) X dL_close_67 (by omega) ?_
                      exact s_eqt (if_pos c60) kM58
              exact LP44 _ _ _ hl49
        exact LP26 _ _ _ hl31
  exact LP8 _ _ _ hl13
def rm_L_least : Room := { frames := 0, cells := 0, slots := 0, locals := 0 }
set_option maxRecDepth 20000 in
set_option maxHeartbeats 8000000 in
theorem L_W_least (G : Gl) (a_ : Int) (b_ : Int) (m : Mem) : ConM SHL G yL_least cL_least 2 (some .int) rm_L_least [VI a_, VI b_] m ((.inl (some (VI (W_least a_ b_))), m) : Res × Mem) := by
  refine conM_of (own := "LastbusLaw") (by decide) rfl (Nat.le_of_ble_eq_true rfl) (fun C X nc => ?_)
  obtain ⟨O, hO⟩ : ∃ O : Res × Mem, O = ((.inl (some (VI (W_least a_ b_))), m) : Res × Mem) := ⟨_, rfl⟩
  rw [← hO]
  show J SHL G rm_L_least (.inl O) C 0 0 0 [(0, VI a_), (1, VI b_)] [] m
  have kM2 : J SHL G rm_L_least (.inl O) C 0 0 10 [(0, VI a_), (1, VI b_)] [VI (if a_ < b_ then a_ else b_)] m := by
    exact s_iret X (Nat.le_of_ble_eq_true rfl) (Nat.le_of_ble_eq_true rfl) (by rw [hO]; rfl) dL_least_10
  refine s_iload_n X 0 rfl dL_least_0 ?_
  refine s_iload_n X 1 rfl dL_least_1 ?_
  refine s_icmpge_f (tgt := 9) X dL_least_2 (by omega) (fun c3 => ?_) (fun c4 => ?_)
  · refine s_iload_n X 1 rfl dL_least_9 ?_
    exact s_eqt (if_neg c3) kM2
  · refine s_iload_n X 0 rfl dL_least_5 ?_
    refine s_goto (tgt := 10) X dL_least_6 (by omega) ?_
    exact s_eqt (if_pos c4) kM2
def rm_L_along : Room := { frames := 8, cells := 104, slots := 624, locals := 127 }
set_option maxRecDepth 20000 in
set_option maxHeartbeats 8000000 in
theorem L_W_along (G : Gl) (rides_ : Int) (from_ : Int) (to_ : Int) (minute_ : Int) (m : Mem) (r : (Int × Mem)) (h : W_along rides_ from_ to_ minute_ m = some r) : ConM SHL G yL_along cL_along 19 (some .int) rm_L_along [VR 0, VI rides_, VI from_, VI to_, VI minute_, VR 456, VR 457, VR 458] m (((.inl (some (VI r.1)), r.2) : Res × Mem)) := by
  refine conM_of (own := "LastbusLaw") (by decide) rfl (Nat.le_of_ble_eq_true rfl) (fun C X nc => ?_)
  obtain ⟨O, hO⟩ : ∃ O : Res × Mem, O = (((.inl (some (VI r.1)), r.2) : Res × Mem)) := ⟨_, rfl⟩
  rw [← hO]
  show J SHL G rm_L_along (.inl O) C 0 0 0 [(0, VR 0), (1, VI rides_), (2, VI from_), (3, VI to_), (4, VI minute_), (5, VR 456), (6, VR 457), (7, VR 458)] [] m
  unfold W_along at h
  refine s_iload_n X 2 rfl dL_along_0 ?_
  obtain ⟨stop_, e2, h⟩ := ltv_elim h
  refine s_istore X e2 rfl (by omega) dL_along_1 ?_
  refine s_iload X 5 rfl dL_along_3 ?_
  obtain ⟨time_, e4, h⟩ := ltv_elim h
  refine s_istore X e4 rfl (by omega) dL_along_5 ?_
  refine s_const X (by unfold InR; omega) dL_along_7 ?_
  obtain ⟨isRide_, e6, h⟩ := ltv_elim h
  refine s_istore X e6 rfl (by omega) dL_along_8 ?_
  refine s_const X (by unfold InR; omega) dL_along_10 ?_
  obtain ⟨k_, e8, h⟩ := ltv_elim h
  refine s_istore X e8 rfl (by omega) dL_along_11 ?_
  obtain ⟨s16, hl18, h⟩ := br5_some h
  obtain ⟨fu90, hl19⟩ := loop_iter hl18
  have KR17 : ∀ q9 : (Int × Mem), .inr q9 = s16 → O = ((.inl (some (VI q9.1)), q9.2) : Res × Mem) := by
    intro q9 e9
    subst e9
    replace h := brm5_inr h
    exact (by cases h; exact hO)
  have KX15 : ∀ q9 : Int × Int × Int × Int × Mem, .inl q9 = s16 → J SHL G rm_L_along (.inl O) C 96 576 215 [(11, VI q9.2.2.2.1), (10, VI q9.2.2.1), (9, VI q9.2.1), (8, VI q9.1), (0, VR 0), (1, VI rides_), (2, VI from_), (3, VI to_), (4, VI minute_), (5, VR 456), (6, VR 457), (7, VR 458)] [] (q9.2.2.2.2) := by
    intro q9 e9
    subst e9
    obtain ⟨stop_4, time_4, isRide_4, k_4, m_6⟩ := q9
    replace h := brm5_inl h
    show J SHL G rm_L_along (.inl O) C 96 576 215 [(11, VI k_4), (10, VI isRide_4), (9, VI time_4), (8, VI stop_4), (0, VR 0), (1, VI rides_), (2, VI from_), (3, VI to_), (4, VI minute_), (5, VR 456), (6, VR 457), (7, VR 458)] [] m_6
    obtain ⟨g81, h⟩ := grd_some h
    refine s_iload X 2 rfl dL_along_215 ?_
    refine s_loadR X 10 rfl dL_along_217 ?_
    refine s_bipush X (by omega) dL_along_219 ?_
    refine s_iload X 3 rfl dL_along_221 ?_
    refine s_imul X g81.1 dL_along_223 ?_
    refine s_iload_n X 7 rfl dL_along_224 ?_
    refine s_iadd X g81.2.1 dL_along_225 ?_
    refine s_iald X SHL_457 g81.2.2.1 g81.2.2.2.1 dL_along_226 ?_
    refine s_iadd X g81.2.2.2.2 dL_along_227 ?_
    exact s_iret X (Nat.le_of_ble_eq_true rfl) (Nat.le_of_ble_eq_true rfl) (by cases h; exact hO) dL_along_228
  have LP14 : ∀ (fu9 : Nat) (stop_2 : Int) (time_2 : Int) (isRide_2 : Int) (k_2 : Int) (m_ : Mem), iter (fun s => W_along_b1 rides_ s.1 s.2.1 s.2.2.1 s.2.2.2.1 s.2.2.2.2) fu9 (stop_2, time_2, isRide_2, k_2, m_) = some s16 → J SHL G rm_L_along (.inl O) C (0 + 8 * k_2.toNat) (0 + 48 * k_2.toNat) 13 [(11, VI k_2), (10, VI isRide_2), (9, VI time_2), (8, VI stop_2), (0, VR 0), (1, VI rides_), (2, VI from_), (3, VI to_), (4, VI minute_), (5, VR 456), (6, VR 457), (7, VR 458)] [] m_ := by
    intro fu9
    induction fu9 with
    | zero => intro stop_2 time_2 isRide_2 k_2 m_ hn10; exact absurd hn10 (by simp [iter])
    | succ fu9 ih13 =>
      intro stop_2 time_2 isRide_2 k_2 m_ hn10
      obtain ⟨x11, h, hc12⟩ := iter_succ hn10
      replace h : W_along_b1 rides_ stop_2 time_2 isRide_2 k_2 m_ = some x11 := h
      unfold W_along_b1 at h
      obtain ⟨g20, h⟩ := grd_some h
      have b0k_2 : 0 ≤ k_2 := g20.1
      have b1k_2 : k_2 ≤ 12 := g20.2
      refine s_iload X 0 rfl dL_along_13 ?_
      refine s_iload_n X 5 rfl dL_along_15 ?_
      refine s_icmpge_f (tgt := 215) X dL_along_16 (by omega) (fun c23 => ?_) (fun c24 => ?_)
      · replace h := ite_neg h c23
        exact s_le (by omega) (by omega) (KX15 _ (iter_exit h hc12))
      · replace h := ite_pos h c24
        refine s_load0 X 4 rfl dL_along_19 ?_
        refine s_iload X 0 rfl dL_along_20 ?_
        refine s_bipush X (by omega) dL_along_22 ?_
        obtain ⟨r_, m_2, hq26, h⟩ := bq2_some h
        refine s_callSW (As := [VR 0, VI k_2, VI 116]) X nc cwS_L_124 dL_along_24 (H_ride G k_2 116 m_ (r_, m_2) hq26) rfl ⟨Nat.le_of_ble_eq_true rfl, Nat.le_of_ble_eq_true rfl⟩ ⟨by rw [show rm_L_ride.cells = 2 from rfl, show rm_L_along.cells = 104 from rfl]; omega, by rw [show rm_L_ride.slots = 12 from rfl, show rm_L_along.slots = 624 from rfl]; omega⟩ (Nat.le_of_ble_eq_true rfl) noX (kkR ?_)
        refine s_le (k' := (2 + 8 * k_2.toNat)) (n' := (12 + 48 * k_2.toNat)) (by rw [show rm_L_ride.cells = 2 from rfl]; omega) (by rw [show rm_L_ride.slots = 12 from rfl]; omega) ?_
        obtain ⟨trip_, e28, h⟩ := ltv_elim h
        refine s_istore X e28 rfl (by omega) dL_along_27 ?_
        refine s_sipush X (by omega) dL_along_29 ?_
        refine s_load0 X 5 rfl dL_along_32 ?_
        refine s_iload X 1 rfl dL_along_33 ?_
        refine s_bipush X (by omega) dL_along_35 ?_
        obtain ⟨r_2, m_3, hq30, h⟩ := bq2_some h
        refine s_callSW (As := [VR 0, VI k_2, VI 100]) X nc cwS_L_124 dL_along_37 (H_ride G k_2 100 m_2 (r_2, m_3) hq30) rfl ⟨Nat.le_of_ble_eq_true rfl, Nat.le_of_ble_eq_true rfl⟩ ⟨by rw [show rm_L_ride.cells = 2 from rfl, show rm_L_along.cells = 104 from rfl]; omega, by rw [show rm_L_ride.slots = 12 from rfl, show rm_L_along.slots = 624 from rfl]; omega⟩ (Nat.le_of_ble_eq_true rfl) noX (kkR ?_)
        refine s_le (k' := (4 + 8 * k_2.toNat)) (n' := (24 + 48 * k_2.toNat)) (by rw [show rm_L_ride.cells = 2 from rfl]; omega) (by rw [show rm_L_ride.slots = 12 from rfl]; omega) ?_
        obtain ⟨g31, h⟩ := grd_some h
        refine s_imul X g31 dL_along_40 ?_
        obtain ⟨by_, e32, h⟩ := ltv_elim h
        refine s_istore X e32 rfl (by omega) dL_along_41 ?_
        refine s_load0 X 6 rfl dL_along_43 ?_
        refine s_iload X 2 rfl dL_along_44 ?_
        refine s_bipush X (by omega) dL_along_46 ?_
        obtain ⟨r_3, m_4, hq34, h⟩ := bq2_some h
        refine s_callSW (As := [VR 0, VI k_2, VI 111]) X nc cwS_L_124 dL_along_48 (H_ride G k_2 111 m_3 (r_3, m_4) hq34) rfl ⟨Nat.le_of_ble_eq_true rfl, Nat.le_of_ble_eq_true rfl⟩ ⟨by rw [show rm_L_ride.cells = 2 from rfl, show rm_L_along.cells = 104 from rfl]; omega, by rw [show rm_L_ride.slots = 12 from rfl, show rm_L_along.slots = 624 from rfl]; omega⟩ (Nat.le_of_ble_eq_true rfl) noX (kkR ?_)
        refine s_le (k' := (6 + 8 * k_2.toNat)) (n' := (36 + 48 * k_2.toNat)) (by rw [show rm_L_ride.cells = 2 from rfl]; omega) (by rw [show rm_L_ride.slots = 12 from rfl]; omega) ?_
        obtain ⟨on_, e36, h⟩ := ltv_elim h
        refine s_istore X e36 rfl (by omega) dL_along_51 ?_
        refine s_load0 X 7 rfl dL_along_53 ?_
        refine s_iload X 3 rfl dL_along_54 ?_
        refine s_bipush X (by omega) dL_along_56 ?_
        obtain ⟨r_4, m_5, hq38, h⟩ := bq2_some h
        refine s_callSW (As := [VR 0, VI k_2, VI 102]) X nc cwS_L_124 dL_along_58 (H_ride G k_2 102 m_4 (r_4, m_5) hq38) rfl ⟨Nat.le_of_ble_eq_true rfl, Nat.le_of_ble_eq_true rfl⟩ ⟨by rw [show rm_L_ride.cells = 2 from rfl, show rm_L_along.cells = 104 from rfl]; omega, by rw [show rm_L_ride.slots = 12 from rfl, show rm_L_along.slots = 624 from rfl]; omega⟩ (Nat.le_of_ble_eq_true rfl) noX (kkR ?_)
        refine s_le (k' := (8 + 8 * k_2.toNat)) (n' := (48 + 48 * k_2.toNat)) (by rw [show rm_L_ride.cells = 2 from rfl]; omega) (by rw [show rm_L_ride.slots = 12 from rfl]; omega) ?_
        obtain ⟨off_, e40, h⟩ := ltv_elim h
        refine s_istore X e40 rfl (by omega) dL_along_61 ?_
        obtain ⟨g41, h⟩ := grd_some h
        refine s_const X (by unfold InR; omega) dL_along_63 ?_
        refine s_bipush X (by omega) dL_along_64 ?_
        refine s_iload X 3 rfl dL_along_66 ?_
        refine s_imul X g41.1 dL_along_68 ?_
        refine s_iadd X g41.2 dL_along_69 ?_
        obtain ⟨at_, e42, h⟩ := ltv_elim h
        refine s_istore X e42 rfl (by omega) dL_along_70 ?_
        obtain ⟨g43, h⟩ := grd_some h
        have kT44 : (off_ ≤ on_) ∨ ((m_5 458 at_.toNat = 1) ∧ (¬ by_ = 0)) → J SHL G rm_L_along (.inl O) C (8 + 8 * k_2.toNat) (48 + 48 * k_2.toNat) 93 [(16, VI at_), (15, VI off_), (14, VI on_), (13, VI by_), (12, VI trip_), (11, VI k_2), (10, VI isRide_2), (9, VI time_2), (8, VI stop_2), (0, VR 0), (1, VI rides_), (2, VI from_), (3, VI to_), (4, VI minute_), (5, VR 456), (6, VR 457), (7, VR 458)] [] m_5 := by
          intro c49
          replace h := ite_pos h c49
          refine s_const X (by unfold InR; omega) dL_along_93 ?_
          exact s_iret X (by rw [show rm_L_along.cells = 104 from rfl]; omega) (by rw [show rm_L_along.slots = 624 from rfl]; omega) (KR17 _ (iter_exit h hc12)) dL_along_94
        have kF45 : ¬ ((off_ ≤ on_) ∨ ((m_5 458 at_.toNat = 1) ∧ (¬ by_ = 0))) → J SHL G rm_L_along (.inl O) C (8 + 8 * k_2.toNat) (48 + 48 * k_2.toNat) 95 [(16, VI at_), (15, VI off_), (14, VI on_), (13, VI by_), (12, VI trip_), (11, VI k_2), (10, VI isRide_2), (9, VI time_2), (8, VI stop_2), (0, VR 0), (1, VI rides_), (2, VI from_), (3, VI to_), (4, VI minute_), (5, VR 456), (6, VR 457), (7, VR 458)] [] m_5 := by
          intro c77
          replace h := ite_neg h c77
          obtain ⟨g53, h⟩ := grd_some h
          refine s_loadR X 16 rfl dL_along_95 ?_
          refine s_iload X 0 rfl dL_along_97 ?_
          refine s_const X (by unfold InR; omega) dL_along_99 ?_
          refine s_iadd X g53.1 dL_along_100 ?_
          refine s_const X (by unfold InR; omega) dL_along_101 ?_
          refine s_iload X 2 rfl dL_along_102 ?_
          refine s_imul X g53.2.1 dL_along_104 ?_
          refine s_iadd X g53.2.2.1 dL_along_105 ?_
          refine s_iald X SHL_458 g53.2.2.2.1 g53.2.2.2.2 dL_along_106 ?_
          obtain ⟨v_, e54, h⟩ := ltv_elim h
          refine s_istore X e54 rfl (by omega) dL_along_107 ?_
          obtain ⟨g55, h⟩ := grd_some h
          have kM56 : J SHL G rm_L_along (.inl O) C (8 + 8 * k_2.toNat) (48 + 48 * k_2.toNat) 151 [(17, VI v_), (16, VI at_), (15, VI off_), (14, VI on_), (13, VI by_), (12, VI trip_), (11, VI k_2), (10, VI isRide_2), (9, VI time_2), (8, VI stop_2), (0, VR 0), (1, VI rides_), (2, VI from_), (3, VI to_), (4, VI minute_), (5, VR 456), (6, VR 457), (7, VR 458)] [VI (if ¬ v_ = stop_2 then time_2 + (m_5 457 (6 * stop_2 + v_).toNat) else (if ¬ isRide_2 = 0 then time_2 + m_5 456 v_.toNat else time_2))] m_5 := by
            obtain ⟨ready_, e62, h⟩ := ltv_elim h
            refine s_istore X e62 rfl (by omega) dL_along_151 ?_
            obtain ⟨g63, h⟩ := grd_some h
            refine s_iload X 0 rfl dL_along_153 ?_
            refine s_loadR X 18 rfl dL_along_155 ?_
            refine s_iload X 2 rfl dL_along_157 ?_
            refine s_const X (by unfold InR; omega) dL_along_159 ?_
            refine s_iadd X g63.1 dL_along_160 ?_
            refine s_const X (by unfold InR; omega) dL_along_161 ?_
            refine s_iload X 4 rfl dL_along_162 ?_
            refine s_imul X g53.2.1 dL_along_164 ?_
            refine s_iadd X g63.2.1 dL_along_165 ?_
            refine s_iald X SHL_458 g63.2.2.1 g63.2.2.2.1 dL_along_166 ?_
            refine s_iload X 5 rfl dL_along_167 ?_
            refine s_iadd X g63.2.2.2.2 dL_along_169 ?_
            refine s_icmple_f (tgt := 175) X dL_along_170 (by omega) (fun c66 => ?_) (fun c67 => ?_)
            · replace h := ite_neg h c66
              obtain ⟨g68, h⟩ := grd_some h
              refine s_loadR X 18 rfl dL_along_175 ?_
              refine s_iload X 2 rfl dL_along_177 ?_
              refine s_const X (by unfold InR; omega) dL_along_179 ?_
              refine s_iadd X g53.1 dL_along_180 ?_
              refine s_const X (by unfold InR; omega) dL_along_181 ?_
              refine s_iload X 3 rfl dL_along_182 ?_
              refine s_imul X g68.1 dL_along_184 ?_
              refine s_iadd X g68.2.1 dL_along_185 ?_
              refine s_iald X SHL_458 g68.2.2.1 g68.2.2.2 dL_along_186 ?_
              obtain ⟨stop_3, e69, h⟩ := ltv_elim h
              refine s_istore X e69 rfl (by omega) dL_along_187 ?_
              obtain ⟨g70, h⟩ := grd_some h
              refine s_loadR X 18 rfl dL_along_189 ?_
              refine s_iload X 3 rfl dL_along_191 ?_
              refine s_const X (by unfold InR; omega) dL_along_193 ?_
              refine s_iadd X g70.1 dL_along_194 ?_
              refine s_const X (by unfold InR; omega) dL_along_195 ?_
              refine s_iload X 4 rfl dL_along_196 ?_
              refine s_imul X g68.1 dL_along_198 ?_
              refine s_iadd X g70.2.1 dL_along_199 ?_
              refine s_iald X SHL_458 g70.2.2.1 g70.2.2.2.1 dL_along_200 ?_
              refine s_iload X 6 rfl dL_along_201 ?_
              refine s_iadd X g70.2.2.2.2 dL_along_203 ?_
              obtain ⟨time_3, e71, h⟩ := ltv_elim h
              refine s_istore X e71 rfl (by omega) dL_along_204 ?_
              refine s_const X (by unfold InR; omega) dL_along_206 ?_
              obtain ⟨isRide_3, e73, h⟩ := ltv_elim h
              refine s_istore X e73 rfl (by omega) dL_along_207 ?_
              obtain ⟨g74, h⟩ := grd_some h
              obtain ⟨k_3, e75, h⟩ := ltv_elim h
              refine s_iinc X 10 rfl g74 e75 rfl (by omega) dL_along_209 ?_
              refine s_goto (tgt := 13) X dL_along_212 (by omega) ?_
              refine s_loc [0, 1, 2, 3, 11, 12, 13, 14, 15, 16, 17, 18] rfl ?_
              exact s_le (by omega) (by omega) (ih13 _ _ _ _ _ (iter_next h hc12))
            · replace h := ite_pos h c67
              refine s_const X (by unfold InR; omega) dL_along_173 ?_
              exact s_iret X (by rw [show rm_L_along.cells = 104 from rfl]; omega) (by rw [show rm_L_along.slots = 624 from rfl]; omega) (KR17 _ (iter_exit h hc12)) dL_along_174
          refine s_iload X 0 rfl dL_along_109 ?_
          refine s_iload X 9 rfl dL_along_111 ?_
          refine s_icmpeq_f (tgt := 133) X dL_along_113 (by omega) (fun c57 => ?_) (fun c58 => ?_)
          · have kM59 : J SHL G rm_L_along (.inl O) C (8 + 8 * k_2.toNat) (48 + 48 * k_2.toNat) 151 [(17, VI v_), (16, VI at_), (15, VI off_), (14, VI on_), (13, VI by_), (12, VI trip_), (11, VI k_2), (10, VI isRide_2), (9, VI time_2), (8, VI stop_2), (0, VR 0), (1, VI rides_), (2, VI from_), (3, VI to_), (4, VI minute_), (5, VR 456), (6, VR 457), (7, VR 458)] [VI (if ¬ isRide_2 = 0 then time_2 + m_5 456 v_.toNat else time_2)] m_5 := by
              exact s_eqt (if_neg c57) kM56
            refine s_iload X 7 rfl dL_along_133 ?_
            refine s_ifeq_f (tgt := 149) X dL_along_135 (by omega) (fun c60 => ?_) (fun c61 => ?_)
            · refine s_iload X 8 rfl dL_along_149 ?_
              exact s_eqt (if_neg c60) kM59
            · refine s_iload X 8 rfl dL_along_138 ?_
              refine s_loadR X 15 rfl dL_along_140 ?_
              refine s_iload X 0 rfl dL_along_142 ?_
              refine s_iald X SHL_456 (g55.1 c57 c61) (g55.2.1 c57 c61) dL_along_144 ?_
              refine s_iadd X (g55.2.2.1 c57 c61) dL_along_145 ?_
              refine s_goto (tgt := 151) X dL_along_146 (by omega) ?_
              exact s_eqt (if_pos c61) kM59
          · refine s_iload X 8 rfl dL_along_116 ?_
            refine s_loadR X 16 rfl dL_along_118 ?_
            refine s_bipush X (by omega) dL_along_120 ?_
            refine s_iload X 9 rfl dL_along_122 ?_
            refine s_imul X (g55.2.2.2.1 c58) dL_along_124 ?_
            refine s_iload X 0 rfl dL_along_125 ?_
            refine s_iadd X (g55.2.2.2.2.1 c58) dL_along_127 ?_
            refine s_iald X SHL_457 (g55.2.2.2.2.2.1 c58) (g55.2.2.2.2.2.2.1 c58) dL_along_128 ?_
            refine s_iadd X (g55.2.2.2.2.2.2.2 c58) dL_along_129 ?_
            refine s_goto (tgt := 151) X dL_along_130 (by omega) ?_
            exact s_eqt (if_pos c58) kM56
        refine s_iload X 1 rfl dL_along_72 ?_
        refine s_iload X 2 rfl dL_along_74 ?_
        refine s_icmple_t (tgt := 93) X dL_along_76 (by omega) (fun c46 => ?_) (fun c47 => ?_)
        · exact kT44 (Or.inl c46)
        · have a50 : ¬ (off_ ≤ on_) := c47
          refine s_loadR X 16 rfl dL_along_79 ?_
          refine s_iload X 0 rfl dL_along_81 ?_
          refine s_iald X SHL_458 (g43.1 a50) (g43.2 a50) dL_along_83 ?_
          refine s_const X (by unfold InR; omega) dL_along_84 ?_
          refine s_icmpne_f (tgt := 95) X dL_along_85 (by omega) (fun c51 => ?_) (fun c52 => ?_)
          · exact kF45 (fun q => q.elim a50 (fun q => c51 q.1))
          · have a78 : m_5 458 at_.toNat = 1 := c52
            refine s_iload X 3 rfl dL_along_88 ?_
            refine s_ifeq_f (tgt := 95) X dL_along_90 (by omega) (fun c79 => ?_) (fun c80 => ?_)
            · exact kF45 (fun q => q.elim a50 (fun q => c79 q.2))
            · exact kT44 (Or.inr ⟨a78, c80⟩)
  exact s_le (by first | omega | exact Nat.le_of_ble_eq_true rfl | (simp only [rm_L_draw, rm_L_isSound, rm_L_vehicles, rm_L_vehiclesByMatching, rm_L_stop, rm_L_walk, rm_L_service, rm_L_week, rm_L_putDay, rm_L_trip, rm_L_call, rm_L_close, rm_L_drawn]; omega)) (by first | omega | exact Nat.le_of_ble_eq_true rfl | (simp only [rm_L_draw, rm_L_isSound, rm_L_vehicles, rm_L_vehiclesByMatching, rm_L_stop, rm_L_walk, rm_L_service, rm_L_week, rm_L_putDay, rm_L_trip, rm_L_call, rm_L_close, rm_L_drawn]; omega)) (LP14 _ _ _ _ _ _ hl19)
def rm_L_reach : Room := { frames := 0, cells := 0, slots := 0, locals := 0 }
set_option maxRecDepth 20000 in
set_option maxHeartbeats 8000000 in
theorem L_W_reach (G : Gl) (from_ : Int) (minute_ : Int) (cut_ : Int) (m : Mem) (r : Mem) (h : W_reach from_ minute_ cut_ m = some r) : ConM SHL G yL_reach cL_reach 20 none rm_L_reach [VI from_, VI minute_, VI cut_, VR 456, VR 457, VR 458, VR 459, VR 460] m (((.inl none, r) : Res × Mem)) := by
  refine conM_of (own := "LastbusLaw") (by decide) rfl (Nat.le_of_ble_eq_true rfl) (fun C X nc => ?_)
  obtain ⟨O, hO⟩ : ∃ O : Res × Mem, O = (((.inl none, r) : Res × Mem)) := ⟨_, rfl⟩
  rw [← hO]
  show J SHL G rm_L_reach (.inl O) C 0 0 0 [(0, VI from_), (1, VI minute_), (2, VI cut_), (3, VR 456), (4, VR 457), (5, VR 458), (6, VR 459), (7, VR 460)] [] m
  unfold W_reach at h
  refine s_load0 X 3 rfl dL_reach_0 ?_
  refine s_bipush X (by omega) dL_reach_1 ?_
  refine s_iald X SHL_456 (by omega) (by omega) dL_reach_3 ?_
  obtain ⟨n_, e2, h⟩ := ltv_elim h
  refine s_istore X e2 rfl (by omega) dL_reach_4 ?_
  refine s_const X (by unfold InR; omega) dL_reach_6 ?_
  obtain ⟨v_, e4, h⟩ := ltv_elim h
  refine s_istore X e4 rfl (by omega) dL_reach_7 ?_
  obtain ⟨v_4, m_4, hl14, h⟩ := bq2_some h
  obtain ⟨fu50, hl15⟩ := loop_iter hl14
  have KX11 : ∀ q9 : Int × Mem, q9 = (v_4, m_4) → J SHL G rm_L_reach (.inl O) C 0 0 46 [(9, VI q9.1), (8, VI n_), (0, VI from_), (1, VI minute_), (2, VI cut_), (3, VR 456), (4, VR 457), (5, VR 458), (6, VR 459), (7, VR 460)] [] (q9.2) := by
    intro q9 e9
    subst e9
    show J SHL G rm_L_reach (.inl O) C 0 0 46 [(9, VI v_4), (8, VI n_), (0, VI from_), (1, VI minute_), (2, VI cut_), (3, VR 456), (4, VR 457), (5, VR 458), (6, VR 459), (7, VR 460)] [] m_4
    refine s_const X (by unfold InR; omega) dL_reach_46 ?_
    obtain ⟨goesOn_, e28, h⟩ := ltv_elim h
    refine s_istore X e28 rfl (by omega) dL_reach_47 ?_
    obtain ⟨goesOn_10, m_15, hl38, h⟩ := bq2_some h
    obtain ⟨fu290, hl39⟩ := loop_iter hl38
    have KX35 : ∀ q9 : Int × Mem, q9 = (goesOn_10, m_15) → J SHL G rm_L_reach (.inl O) C 0 0 331 [(9, VI q9.1), (8, VI n_), (0, VI from_), (1, VI minute_), (2, VI cut_), (3, VR 456), (4, VR 457), (5, VR 458), (6, VR 459), (7, VR 460)] [] (q9.2) := by
      intro q9 e9
      subst e9
      show J SHL G rm_L_reach (.inl O) C 0 0 331 [(9, VI goesOn_10), (8, VI n_), (0, VI from_), (1, VI minute_), (2, VI cut_), (3, VR 456), (4, VR 457), (5, VR 458), (6, VR 459), (7, VR 460)] [] m_15
      exact s_vret X (Nat.le_of_ble_eq_true rfl) (Nat.le_of_ble_eq_true rfl) (by cases h; exact hO) dL_reach_331
    have LP34 : ∀ (fu29 : Nat) (goesOn_2 : Int) (m_5 : Mem), iter (fun s => W_reach_b2 cut_ n_ s.1 s.2) fu29 (goesOn_2, m_5) = some (goesOn_10, m_15) → J SHL G rm_L_reach (.inl O) C 0 0 49 [(9, VI goesOn_2), (8, VI n_), (0, VI from_), (1, VI minute_), (2, VI cut_), (3, VR 456), (4, VR 457), (5, VR 458), (6, VR 459), (7, VR 460)] [] m_5 := by
      intro fu29
      induction fu29 with
      | zero => intro goesOn_2 m_5 hn30; exact absurd hn30 (by simp [iter])
      | succ fu29 ih33 =>
        intro goesOn_2 m_5 hn30
        obtain ⟨x31, h, hc32⟩ := iter_succ hn30
        replace h : W_reach_b2 cut_ n_ goesOn_2 m_5 = some x31 := h
        unfold W_reach_b2 at h
        refine s_iload X 0 rfl dL_reach_49 ?_
        refine s_ifeq_f (tgt := 331) X dL_reach_51 (by omega) (fun c43 => ?_) (fun c44 => ?_)
        · replace h := ite_neg h c43
          exact KX35 _ (iter_exit h hc32)
        · replace h := ite_pos h c44
          refine s_const X (by unfold InR; omega) dL_reach_54 ?_
          obtain ⟨goesOn_3, e46, h⟩ := ltv_elim h
          refine s_istore X e46 rfl (by omega) dL_reach_55 ?_
          refine s_const X (by unfold InR; omega) dL_reach_57 ?_
          obtain ⟨k_, e48, h⟩ := ltv_elim h
          refine s_istore X e48 rfl (by omega) dL_reach_58 ?_
          obtain ⟨goesOn_9, k_4, m_14, hl58, h⟩ := bq3_some h
          obtain ⟨fu490, hl59⟩ := loop_iter hl58
          have KX55 : ∀ q9 : Int × Int × Mem, q9 = (goesOn_9, k_4, m_14) → J SHL G rm_L_reach (.inl O) C 0 0 328 [(10, VI q9.2.1), (9, VI q9.1), (8, VI n_), (0, VI from_), (1, VI minute_), (2, VI cut_), (3, VR 456), (4, VR 457), (5, VR 458), (6, VR 459), (7, VR 460)] [] (q9.2.2) := by
            intro q9 e9
            subst e9
            show J SHL G rm_L_reach (.inl O) C 0 0 328 [(10, VI k_4), (9, VI goesOn_9), (8, VI n_), (0, VI from_), (1, VI minute_), (2, VI cut_), (3, VR 456), (4, VR 457), (5, VR 458), (6, VR 459), (7, VR 460)] [] m_14
            refine s_goto (tgt := 49) X dL_reach_328 (by omega) ?_
            refine s_loc [1, 2, 3, 4, 5, 6, 7, 8, 9, 10] rfl ?_
            exact ih33 _ _ (iter_next h hc32)
          have LP54 : ∀ (fu49 : Nat) (goesOn_4 : Int) (k_2 : Int) (m_6 : Mem), iter (fun s => W_reach_b3 cut_ n_ s.1 s.2.1 s.2.2) fu49 (goesOn_4, k_2, m_6) = some (goesOn_9, k_4, m_14) → J SHL G rm_L_reach (.inl O) C 0 0 60 [(10, VI k_2), (9, VI goesOn_4), (8, VI n_), (0, VI from_), (1, VI minute_), (2, VI cut_), (3, VR 456), (4, VR 457), (5, VR 458), (6, VR 459), (7, VR 460)] [] m_6 := by
            intro fu49
            induction fu49 with
            | zero => intro goesOn_4 k_2 m_6 hn50; exact absurd hn50 (by simp [iter])
            | succ fu49 ih53 =>
              intro goesOn_4 k_2 m_6 hn50
              obtain ⟨x51, h, hc52⟩ := iter_succ hn50
              replace h : W_reach_b3 cut_ n_ goesOn_4 k_2 m_6 = some x51 := h
              unfold W_reach_b3 at h
              obtain ⟨g60, h⟩ := grd_some h
              refine s_iload X 0 rfl dL_reach_60 ?_
              refine s_const X (by unfold InR; omega) dL_reach_62 ?_
              refine s_loadR X 8 rfl dL_reach_63 ?_
              refine s_const X (by unfold InR; omega) dL_reach_65 ?_
              refine s_iald X SHL_458 (by omega) (by omega) dL_reach_66 ?_
              refine s_imul X g60 dL_reach_67 ?_
              refine s_icmpge_f (tgt := 328) X dL_reach_68 (by omega) (fun c63 => ?_) (fun c64 => ?_)
              · replace h := ite_neg h c63
                exact KX55 _ (iter_exit h hc52)
              · replace h := ite_pos h c64
                obtain ⟨g65, h⟩ := grd_some h
                refine s_const X (by unfold InR; omega) dL_reach_71 ?_
                refine s_bipush X (by omega) dL_reach_72 ?_
                refine s_iload X 0 rfl dL_reach_74 ?_
                refine s_const X (by unfold InR; omega) dL_reach_76 ?_
                refine s_idiv X (by omega) dL_reach_77 ?_
                refine s_imul X g65.1 dL_reach_78 ?_
                refine s_iadd X g65.2 dL_reach_79 ?_
                obtain ⟨at_, e66, h⟩ := ltv_elim h
                refine s_istore X e66 rfl (by omega) dL_reach_80 ?_
                obtain ⟨g67, h⟩ := grd_some h
                refine s_sipush X (by omega) dL_reach_82 ?_
                refine s_iload X 1 rfl dL_reach_85 ?_
                refine s_const X (by unfold InR; omega) dL_reach_87 ?_
                refine s_irem X (by omega) dL_reach_88 ?_
                refine s_const X (by unfold InR; omega) dL_reach_89 ?_
                refine s_isub X g67.1 dL_reach_90 ?_
                refine s_imul X g67.2 dL_reach_91 ?_
                obtain ⟨by_, e68, h⟩ := ltv_elim h
                refine s_istore X e68 rfl (by omega) dL_reach_92 ?_
                refine s_const X (by unfold InR; omega) dL_reach_94 ?_
                obtain ⟨isOn_, e70, h⟩ := ltv_elim h
                refine s_istore X e70 rfl (by omega) dL_reach_95 ?_
                refine s_const X (by unfold InR; omega) dL_reach_97 ?_
                obtain ⟨c_, e72, h⟩ := ltv_elim h
                refine s_istore X e72 rfl (by omega) dL_reach_98 ?_
                obtain ⟨goesOn_8, isOn_4, c_4, m_13, hl82, h⟩ := bq4_some h
                obtain ⟨fu730, hl83⟩ := loop_iter hl82
                have KX79 : ∀ q9 : Int × Int × Int × Mem, q9 = (goesOn_8, isOn_4, c_4, m_13) → J SHL G rm_L_reach (.inl O) C 0 0 322 [(14, VI q9.2.2.1), (13, VI q9.2.1), (12, VI by_), (11, VI at_), (10, VI k_2), (9, VI q9.1), (8, VI n_), (0, VI from_), (1, VI minute_), (2, VI cut_), (3, VR 456), (4, VR 457), (5, VR 458), (6, VR 459), (7, VR 460)] [] (q9.2.2.2) := by
                  intro q9 e9
                  subst e9
                  show J SHL G rm_L_reach (.inl O) C 0 0 322 [(14, VI c_4), (13, VI isOn_4), (12, VI by_), (11, VI at_), (10, VI k_2), (9, VI goesOn_8), (8, VI n_), (0, VI from_), (1, VI minute_), (2, VI cut_), (3, VR 456), (4, VR 457), (5, VR 458), (6, VR 459), (7, VR 460)] [] m_13
                  obtain ⟨g173, h⟩ := grd_some h
                  obtain ⟨k_3, e174, h⟩ := ltv_elim h
                  refine s_iinc X 4 rfl g173 e174 rfl (by omega) dL_reach_322 ?_
                  refine s_goto (tgt := 60) X dL_reach_325 (by omega) ?_
                  refine s_loc [0, 5, 6, 7, 8, 9, 10, 11, 12, 13, 14] rfl ?_
                  exact ih53 _ _ _ (iter_next h hc52)
                have LP78 : ∀ (fu73 : Nat) (goesOn_5 : Int) (isOn_2 : Int) (c_2 : Int) (m_7 : Mem), iter (fun s => W_reach_b4 cut_ n_ at_ by_ s.1 s.2.1 s.2.2.1 s.2.2.2) fu73 (goesOn_5, isOn_2, c_2, m_7) = some (goesOn_8, isOn_4, c_4, m_13) → J SHL G rm_L_reach (.inl O) C 0 0 100 [(14, VI c_2), (13, VI isOn_2), (12, VI by_), (11, VI at_), (10, VI k_2), (9, VI goesOn_5), (8, VI n_), (0, VI from_), (1, VI minute_), (2, VI cut_), (3, VR 456), (4, VR 457), (5, VR 458), (6, VR 459), (7, VR 460)] [] m_7 := by
                  intro fu73
                  induction fu73 with
                  | zero => intro goesOn_5 isOn_2 c_2 m_7 hn74; exact absurd hn74 (by simp [iter])
                  | succ fu73 ih77 =>
                    intro goesOn_5 isOn_2 c_2 m_7 hn74
                    obtain ⟨x75, h, hc76⟩ := iter_succ hn74
                    replace h : W_reach_b4 cut_ n_ at_ by_ goesOn_5 isOn_2 c_2 m_7 = some x75 := h
                    unfold W_reach_b4 at h
                    obtain ⟨g84, h⟩ := grd_some h
                    have kF86 : ¬ (((m_7 458 at_.toNat = 0) ∨ (by_ = 0)) ∧ (c_2 < m_7 458 (at_ + 1).toNat)) → J SHL G rm_L_reach (.inl O) C 0 0 322 [(14, VI c_2), (13, VI isOn_2), (12, VI by_), (11, VI at_), (10, VI k_2), (9, VI goesOn_5), (8, VI n_), (0, VI from_), (1, VI minute_), (2, VI cut_), (3, VR 456), (4, VR 457), (5, VR 458), (6, VR 459), (7, VR 460)] [] m_7 := by
                      intro c92
                      replace h := ite_neg h c92
                      exact KX79 _ (iter_exit h hc76)
                    have kT85 : ((m_7 458 at_.toNat = 0) ∨ (by_ = 0)) ∧ (c_2 < m_7 458 (at_ + 1).toNat) → J SHL G rm_L_reach (.inl O) C 0 0 125 [(14, VI c_2), (13, VI isOn_2), (12, VI by_), (11, VI at_), (10, VI k_2), (9, VI goesOn_5), (8, VI n_), (0, VI from_), (1, VI minute_), (2, VI cut_), (3, VR 456), (4, VR 457), (5, VR 458), (6, VR 459), (7, VR 460)] [] m_7 := by
                      intro c166
                      replace h := ite_pos h c166
                      obtain ⟨g93, h⟩ := grd_some h
                      refine s_loadR X 12 rfl dL_reach_125 ?_
                      refine s_iload X 3 rfl dL_reach_127 ?_
                      refine s_const X (by unfold InR; omega) dL_reach_129 ?_
                      refine s_iadd X g93.1 dL_reach_130 ?_
                      refine s_const X (by unfold InR; omega) dL_reach_131 ?_
                      refine s_iload X 0 rfl dL_reach_132 ?_
                      refine s_imul X g93.2.1 dL_reach_134 ?_
                      refine s_iadd X g93.2.2.1 dL_reach_135 ?_
                      refine s_iald X SHL_458 g93.2.2.2.1 g93.2.2.2.2 dL_reach_136 ?_
                      obtain ⟨v_5, e94, h⟩ := ltv_elim h
                      refine s_istore X e94 rfl (by omega) dL_reach_137 ?_
                      obtain ⟨g95, h⟩ := grd_some h
                      refine s_loadR X 13 rfl dL_reach_139 ?_
                      refine s_iload X 4 rfl dL_reach_141 ?_
                      refine s_const X (by unfold InR; omega) dL_reach_143 ?_
                      refine s_iadd X g95.1 dL_reach_144 ?_
                      refine s_const X (by unfold InR; omega) dL_reach_145 ?_
                      refine s_iload X 1 rfl dL_reach_146 ?_
                      refine s_imul X g93.2.1 dL_reach_148 ?_
                      refine s_iadd X g95.2.1 dL_reach_149 ?_
                      refine s_iald X SHL_458 g95.2.2.1 g95.2.2.2.1 dL_reach_150 ?_
                      refine s_iload X 3 rfl dL_reach_151 ?_
                      refine s_iadd X g95.2.2.2.2 dL_reach_153 ?_
                      obtain ⟨comes_, e96, h⟩ := ltv_elim h
                      refine s_istore X e96 rfl (by omega) dL_reach_154 ?_
                      obtain ⟨g97, h⟩ := grd_some h
                      refine s_loadR X 14 rfl dL_reach_156 ?_
                      refine s_iload X 5 rfl dL_reach_158 ?_
                      refine s_const X (by unfold InR; omega) dL_reach_160 ?_
                      refine s_iadd X g97.1 dL_reach_161 ?_
                      refine s_const X (by unfold InR; omega) dL_reach_162 ?_
                      refine s_iload X 2 rfl dL_reach_163 ?_
                      refine s_imul X g93.2.1 dL_reach_165 ?_
                      refine s_iadd X g97.2.1 dL_reach_166 ?_
                      refine s_iald X SHL_458 g97.2.2.1 g97.2.2.2.1 dL_reach_167 ?_
                      refine s_iload X 4 rfl dL_reach_168 ?_
                      refine s_iadd X g97.2.2.2.2 dL_reach_170 ?_
                      obtain ⟨goes_, e98, h⟩ := ltv_elim h
                      refine s_istore X e98 rfl (by omega) dL_reach_171 ?_
                      obtain ⟨kj_, hk99, h⟩ := ltv_elim h
                      have K100 : ∀ (goesOn_6 : Int) (m_8 : Mem), kj_ goesOn_6 m_8 = some x75 → J SHL G rm_L_reach (.inl O) C 0 0 268 [(17, VI goes_), (16, VI comes_), (15, VI v_5), (14, VI c_2), (13, VI isOn_2), (12, VI by_), (11, VI at_), (10, VI k_2), (9, VI goesOn_6), (8, VI n_), (0, VI from_), (1, VI minute_), (2, VI cut_), (3, VR 456), (4, VR 457), (5, VR 458), (6, VR 459), (7, VR 460)] [] m_8 := by
                        intro goesOn_6 m_8 h
                        subst hk99
                        dsimp only at h
                        obtain ⟨g147, h⟩ := grd_some h
                        have kM148 : J SHL G rm_L_reach (.inl O) C 0 0 314 [(17, VI goes_), (16, VI comes_), (15, VI v_5), (14, VI c_2), (13, VI isOn_2), (12, VI by_), (11, VI at_), (10, VI k_2), (9, VI goesOn_6), (8, VI n_), (0, VI from_), (1, VI minute_), (2, VI cut_), (3, VR 456), (4, VR 457), (5, VR 458), (6, VR 459), (7, VR 460)] [VI (if (¬ isOn_2 = 0) ∨ (((0 ≤ goes_) ∧ (¬ v_5 = cut_)) ∧ ((m_8 459 v_5.toNat ≤ goes_) ∨ (m_8 460 v_5.toNat + m_8 456 v_5.toNat ≤ goes_))) then 1 else 0)] m_8 := by
                          obtain ⟨isOn_3, e163, h⟩ := ltv_elim h
                          refine s_istore X e163 rfl (by omega) dL_reach_314 ?_
                          obtain ⟨g164, h⟩ := grd_some h
                          obtain ⟨c_3, e165, h⟩ := ltv_elim h
                          refine s_iinc X 4 rfl g164 e165 rfl (by omega) dL_reach_316 ?_
                          refine s_goto (tgt := 100) X dL_reach_319 (by omega) ?_
                          refine s_loc [0, 1, 5, 6, 7, 8, 9, 10, 11, 12, 13, 14, 15, 16, 17] rfl ?_
                          exact ih77 _ _ _ _ (iter_next h hc76)
                        refine s_iload X 4 rfl dL_reach_268 ?_
                        refine s_ifne_t (tgt := 309) X dL_reach_270 (by omega) (fun c149 => ?_) (fun c150 => ?_)
                        · refine s_const X (by unfold InR; omega) dL_reach_309 ?_
                          refine s_goto (tgt := 314) X dL_reach_310 (by omega) ?_
                          exact s_eqt (if_pos (Or.inl c149)) kM148
                        · have a151 : ¬ (¬ isOn_2 = 0) := c150
                          refine s_iload X 0 rfl dL_reach_273 ?_
                          refine s_iflt_f (tgt := 313) X dL_reach_275 (by omega) (fun c152 => ?_) (fun c153 => ?_)
                          · refine s_const X (by unfold InR; omega) dL_reach_313 ?_
                            exact s_eqt (if_neg (fun q => q.elim a151 (fun q => (fun q => c152 q.1) q.1))) kM148
                          · have a154 : 0 ≤ goes_ := c153
                            refine s_iload X 2 rfl dL_reach_278 ?_
                            refine s_iload_n X 12 rfl dL_reach_280 ?_
                            refine s_icmpeq_f (tgt := 313) X dL_reach_281 (by omega) (fun c155 => ?_) (fun c156 => ?_)
                            · refine s_const X (by unfold InR; omega) dL_reach_313 ?_
                              exact s_eqt (if_neg (fun q => q.elim a151 (fun q => (fun q => c155 q.2) q.1))) kM148
                            · have a157 : (0 ≤ goes_) ∧ (¬ v_5 = cut_) := ⟨a154, c156⟩
                              refine s_loadR X 16 rfl dL_reach_284 ?_
                              refine s_iload X 2 rfl dL_reach_286 ?_
                              refine s_iald X SHL_459 (g147.1 a151 a157) (g147.2.1 a151 a157) dL_reach_288 ?_
                              refine s_iload X 0 rfl dL_reach_289 ?_
                              refine s_icmple_t (tgt := 309) X dL_reach_291 (by omega) (fun c158 => ?_) (fun c159 => ?_)
                              · refine s_const X (by unfold InR; omega) dL_reach_309 ?_
                                refine s_goto (tgt := 314) X dL_reach_310 (by omega) ?_
                                exact s_eqt (if_pos (Or.inr ⟨a157, (Or.inl c158)⟩)) kM148
                              · have a160 : ¬ (m_8 459 v_5.toNat ≤ goes_) := c159
                                refine s_loadR X 17 rfl dL_reach_294 ?_
                                refine s_iload X 2 rfl dL_reach_296 ?_
                                refine s_iald X SHL_460 (g147.2.2.1 a151 a157 a160) (g147.2.2.2.1 a151 a157 a160) dL_reach_298 ?_
                                refine s_load0 X 13 rfl dL_reach_299 ?_
                                refine s_iload X 2 rfl dL_reach_300 ?_
                                refine s_iald X SHL_456 (g147.2.2.1 a151 a157 a160) (g147.2.2.2.2.1 a151 a157 a160) dL_reach_302 ?_
                                refine s_iadd X (g147.2.2.2.2.2 a151 a157 a160) dL_reach_303 ?_
                                refine s_iload X 0 rfl dL_reach_304 ?_
                                refine s_icmpgt_f (tgt := 313) X dL_reach_306 (by omega) (fun c161 => ?_) (fun c162 => ?_)
                                · refine s_const X (by unfold InR; omega) dL_reach_313 ?_
                                  exact s_eqt (if_neg (fun q => q.elim a151 (fun q => (fun q => q.elim a160 c161) q.2))) kM148
                                · refine s_const X (by unfold InR; omega) dL_reach_309 ?_
                                  refine s_goto (tgt := 314) X dL_reach_310 (by omega) ?_
                                  exact s_eqt (if_pos (Or.inr ⟨a157, (Or.inr c162)⟩)) kM148
                      obtain ⟨g101, h⟩ := grd_some h
                      have kF103 : ¬ (((¬ isOn_2 = 0) ∧ (¬ v_5 = cut_)) ∧ (comes_ < m_7 460 v_5.toNat)) → J SHL G rm_L_reach (.inl O) C 0 0 268 [(17, VI goes_), (16, VI comes_), (15, VI v_5), (14, VI c_2), (13, VI isOn_2), (12, VI by_), (11, VI at_), (10, VI k_2), (9, VI goesOn_5), (8, VI n_), (0, VI from_), (1, VI minute_), (2, VI cut_), (3, VR 456), (4, VR 457), (5, VR 458), (6, VR 459), (7, VR 460)] [] m_7 := by
                        intro c106
                        replace h := ite_neg h c106
                        exact s_kn rfl rfl (K100 _ _ h)
                      refine s_iload X 4 rfl dL_reach_173 ?_
                      refine s_ifeq_f (tgt := 268) X dL_reach_175 (by omega) (fun c104 => ?_) (fun c105 => ?_)
                      · exact kF103 (fun q => (fun q => c104 q.1) q.1)
                      · have a107 : ¬ isOn_2 = 0 := c105
                        refine s_iload X 2 rfl dL_reach_178 ?_
                        refine s_iload_n X 12 rfl dL_reach_180 ?_
                        refine s_icmpeq_f (tgt := 268) X dL_reach_181 (by omega) (fun c108 => ?_) (fun c109 => ?_)
                        · exact kF103 (fun q => (fun q => c108 q.2) q.1)
                        · have a110 : (¬ isOn_2 = 0) ∧ (¬ v_5 = cut_) := ⟨a107, c109⟩
                          refine s_iload X 1 rfl dL_reach_184 ?_
                          refine s_loadR X 17 rfl dL_reach_186 ?_
                          refine s_iload X 2 rfl dL_reach_188 ?_
                          refine s_iald X SHL_460 (g101.1 a110) (g101.2 a110) dL_reach_190 ?_
                          refine s_icmpge_f (tgt := 268) X dL_reach_191 (by omega) (fun c111 => ?_) (fun c112 => ?_)
                          · exact kF103 (fun q => c111 q.2)
                          · replace h := ite_pos h ⟨a110, c112⟩
                            obtain ⟨g113, h⟩ := grd_some h
                            refine s_loadR X 17 rfl dL_reach_194 ?_
                            refine s_iload X 2 rfl dL_reach_196 ?_
                            refine s_iload X 1 rfl dL_reach_198 ?_
                            obtain ⟨m_9, e114, h⟩ := ltv_elim h
                            refine s_iast X e114 SHL_460 g113.1 g113.2 dL_reach_200 ?_
                            refine s_const X (by unfold InR; omega) dL_reach_201 ?_
                            obtain ⟨goesOn_7, e116, h⟩ := ltv_elim h
                            refine s_istore X e116 rfl (by omega) dL_reach_202 ?_
                            refine s_const X (by unfold InR; omega) dL_reach_204 ?_
                            obtain ⟨w_, e118, h⟩ := ltv_elim h
                            refine s_istore X e118 rfl (by omega) dL_reach_205 ?_
                            obtain ⟨w_4, m_12, hl128, h⟩ := bq2_some h
                            obtain ⟨fu1190, hl129⟩ := loop_iter hl128
                            have KX125 : ∀ q9 : Int × Mem, q9 = (w_4, m_12) → J SHL G rm_L_reach (.inl O) C 0 0 268 [(18, VI q9.1), (9, VI goesOn_7), (17, VI goes_), (16, VI comes_), (15, VI v_5), (14, VI c_2), (13, VI isOn_2), (12, VI by_), (11, VI at_), (10, VI k_2), (8, VI n_), (0, VI from_), (1, VI minute_), (2, VI cut_), (3, VR 456), (4, VR 457), (5, VR 458), (6, VR 459), (7, VR 460)] [] (q9.2) := by
                              intro q9 e9
                              subst e9
                              show J SHL G rm_L_reach (.inl O) C 0 0 268 [(18, VI w_4), (9, VI goesOn_7), (17, VI goes_), (16, VI comes_), (15, VI v_5), (14, VI c_2), (13, VI isOn_2), (12, VI by_), (11, VI at_), (10, VI k_2), (8, VI n_), (0, VI from_), (1, VI minute_), (2, VI cut_), (3, VR 456), (4, VR 457), (5, VR 458), (6, VR 459), (7, VR 460)] [] m_12
                              refine s_loc [2, 3, 4, 5, 6, 7, 8, 9, 1, 10, 11, 12, 13, 14, 15, 16, 17, 18] rfl ?_
                              exact s_kn rfl rfl (K100 _ _ h)
                            have LP124 : ∀ (fu119 : Nat) (w_2 : Int) (m_10 : Mem), iter (fun s => W_reach_b5 n_ v_5 comes_ s.1 s.2) fu119 (w_2, m_10) = some (w_4, m_12) → J SHL G rm_L_reach (.inl O) C 0 0 207 [(18, VI w_2), (9, VI goesOn_7), (17, VI goes_), (16, VI comes_), (15, VI v_5), (14, VI c_2), (13, VI isOn_2), (12, VI by_), (11, VI at_), (10, VI k_2), (8, VI n_), (0, VI from_), (1, VI minute_), (2, VI cut_), (3, VR 456), (4, VR 457), (5, VR 458), (6, VR 459), (7, VR 460)] [] m_10 := by
                              intro fu119
                              induction fu119 with
                              | zero => intro w_2 m_10 hn120; exact absurd hn120 (by simp [iter])
                              | succ fu119 ih123 =>
                                intro w_2 m_10 hn120
                                obtain ⟨x121, h, hc122⟩ := iter_succ hn120
                                replace h : W_reach_b5 n_ v_5 comes_ w_2 m_10 = some x121 := h
                                unfold W_reach_b5 at h
                                refine s_iload X 0 rfl dL_reach_207 ?_
                                refine s_iload X 10 rfl dL_reach_209 ?_
                                refine s_icmpge_f (tgt := 268) X dL_reach_211 (by omega) (fun c133 => ?_) (fun c134 => ?_)
                                · replace h := ite_neg h c133
                                  exact KX125 _ (iter_exit h hc122)
                                · replace h := ite_pos h c134
                                  obtain ⟨g135, h⟩ := grd_some h
                                  refine s_iload X 3 rfl dL_reach_214 ?_
                                  refine s_loadR X 15 rfl dL_reach_216 ?_
                                  refine s_bipush X (by omega) dL_reach_218 ?_
                                  refine s_iload X 4 rfl dL_reach_220 ?_
                                  refine s_imul X g135.1 dL_reach_222 ?_
                                  refine s_iload X 0 rfl dL_reach_223 ?_
                                  refine s_iadd X g135.2.1 dL_reach_225 ?_
                                  refine s_iald X SHL_457 g135.2.2.1 g135.2.2.2.1 dL_reach_226 ?_
                                  refine s_iadd X g135.2.2.2.2 dL_reach_227 ?_
                                  obtain ⟨walked_, e136, h⟩ := ltv_elim h
                                  refine s_istore X e136 rfl (by omega) dL_reach_228 ?_
                                  obtain ⟨g137, h⟩ := grd_some h
                                  refine s_loadR X 18 rfl dL_reach_230 ?_
                                  refine s_iload X 1 rfl dL_reach_232 ?_
                                  have kM138 : J SHL G rm_L_reach (.inl O) C 0 0 261 [(19, VI walked_), (18, VI w_2), (9, VI goesOn_7), (17, VI goes_), (16, VI comes_), (15, VI v_5), (14, VI c_2), (13, VI isOn_2), (12, VI by_), (11, VI at_), (10, VI k_2), (8, VI n_), (0, VI from_), (1, VI minute_), (2, VI cut_), (3, VR 456), (4, VR 457), (5, VR 458), (6, VR 459), (7, VR 460)] [VI (if (¬ w_2 = v_5) ∧ (walked_ < m_10 459 w_2.toNat) then walked_ else m_10 459 w_2.toNat), VI w_2, VR 459] m_10 := by
                                    obtain ⟨m_11, e144, h⟩ := ltv_elim h
                                    refine s_iast X e144 SHL_459 g137.1 g137.2 dL_reach_261 ?_
                                    obtain ⟨g145, h⟩ := grd_some h
                                    obtain ⟨w_3, e146, h⟩ := ltv_elim h
                                    refine s_iinc X 1 rfl g145 e146 rfl (by omega) dL_reach_262 ?_
                                    refine s_goto (tgt := 207) X dL_reach_265 (by omega) ?_
                                    refine s_loc [0, 2, 3, 4, 5, 6, 7, 8, 9, 10, 11, 12, 13, 14, 15, 16, 17, 18, 19] rfl ?_
                                    exact ih123 _ _ (iter_next h hc122)
                                  refine s_iload X 1 rfl dL_reach_234 ?_
                                  refine s_iload X 5 rfl dL_reach_236 ?_
                                  refine s_icmpeq_f (tgt := 256) X dL_reach_238 (by omega) (fun c139 => ?_) (fun c140 => ?_)
                                  · refine s_loadR X 18 rfl dL_reach_256 ?_
                                    refine s_iload X 1 rfl dL_reach_258 ?_
                                    refine s_iald X SHL_459 g137.1 g137.2 dL_reach_260 ?_
                                    exact s_eqt (if_neg (fun q => c139 q.1)) kM138
                                  · have a141 : ¬ w_2 = v_5 := c140
                                    refine s_iload X 0 rfl dL_reach_241 ?_
                                    refine s_loadR X 18 rfl dL_reach_243 ?_
                                    refine s_iload X 1 rfl dL_reach_245 ?_
                                    refine s_iald X SHL_459 g137.1 g137.2 dL_reach_247 ?_
                                    refine s_icmpge_f (tgt := 256) X dL_reach_248 (by omega) (fun c142 => ?_) (fun c143 => ?_)
                                    · refine s_loadR X 18 rfl dL_reach_256 ?_
                                      refine s_iload X 1 rfl dL_reach_258 ?_
                                      refine s_iald X SHL_459 g137.1 g137.2 dL_reach_260 ?_
                                      exact s_eqt (if_neg (fun q => c142 q.2)) kM138
                                    · refine s_iload X 0 rfl dL_reach_251 ?_
                                      refine s_goto (tgt := 261) X dL_reach_253 (by omega) ?_
                                      exact s_eqt (if_pos ⟨a141, c143⟩) kM138
                            exact LP124 _ _ _ hl129
                    refine s_loadR X 12 rfl dL_reach_100 ?_
                    refine s_iload X 3 rfl dL_reach_102 ?_
                    refine s_iald X SHL_458 g84.1 g84.2.1 dL_reach_104 ?_
                    refine s_ifeq_t (tgt := 113) X dL_reach_105 (by omega) (fun c87 => ?_) (fun c88 => ?_)
                    · have a89 : (m_7 458 at_.toNat = 0) ∨ (by_ = 0) := (Or.inl c87)
                      refine s_iload X 0 rfl dL_reach_113 ?_
                      refine s_loadR X 12 rfl dL_reach_115 ?_
                      refine s_iload X 3 rfl dL_reach_117 ?_
                      refine s_const X (by unfold InR; omega) dL_reach_119 ?_
                      refine s_iadd X (g84.2.2.1 a89) dL_reach_120 ?_
                      refine s_iald X SHL_458 (g84.2.2.2.1 a89) (g84.2.2.2.2 a89) dL_reach_121 ?_
                      refine s_icmpge_f (tgt := 322) X dL_reach_122 (by omega) (fun c90 => ?_) (fun c91 => ?_)
                      · exact kF86 (fun q => c90 q.2)
                      · exact kT85 ⟨a89, c91⟩
                    · have a167 : ¬ (m_7 458 at_.toNat = 0) := c88
                      refine s_iload X 2 rfl dL_reach_108 ?_
                      refine s_ifne_f (tgt := 322) X dL_reach_110 (by omega) (fun c168 => ?_) (fun c169 => ?_)
                      · exact kF86 (fun q => (fun q => q.elim a167 c168) q.1)
                      · have a170 : (m_7 458 at_.toNat = 0) ∨ (by_ = 0) := (Or.inr c169)
                        refine s_iload X 0 rfl dL_reach_113 ?_
                        refine s_loadR X 12 rfl dL_reach_115 ?_
                        refine s_iload X 3 rfl dL_reach_117 ?_
                        refine s_const X (by unfold InR; omega) dL_reach_119 ?_
                        refine s_iadd X (g84.2.2.1 a170) dL_reach_120 ?_
                        refine s_iald X SHL_458 (g84.2.2.2.1 a170) (g84.2.2.2.2 a170) dL_reach_121 ?_
                        refine s_icmpge_f (tgt := 322) X dL_reach_122 (by omega) (fun c171 => ?_) (fun c172 => ?_)
                        · exact kF86 (fun q => c171 q.2)
                        · exact kT85 ⟨a170, c172⟩
                exact LP78 _ _ _ _ _ hl83
          exact LP54 _ _ _ _ hl59
    exact LP34 _ _ _ hl39
  have LP10 : ∀ (fu5 : Nat) (v_2 : Int) (m_ : Mem), iter (fun s => W_reach_b1 from_ minute_ n_ s.1 s.2) fu5 (v_2, m_) = some (v_4, m_4) → J SHL G rm_L_reach (.inl O) C 0 0 9 [(9, VI v_2), (8, VI n_), (0, VI from_), (1, VI minute_), (2, VI cut_), (3, VR 456), (4, VR 457), (5, VR 458), (6, VR 459), (7, VR 460)] [] m_ := by
    intro fu5
    induction fu5 with
    | zero => intro v_2 m_ hn6; exact absurd hn6 (by simp [iter])
    | succ fu5 ih9 =>
      intro v_2 m_ hn6
      obtain ⟨x7, h, hc8⟩ := iter_succ hn6
      replace h : W_reach_b1 from_ minute_ n_ v_2 m_ = some x7 := h
      unfold W_reach_b1 at h
      refine s_iload X 0 rfl dL_reach_9 ?_
      refine s_iload X 1 rfl dL_reach_11 ?_
      refine s_icmpge_f (tgt := 46) X dL_reach_13 (by omega) (fun c19 => ?_) (fun c20 => ?_)
      · replace h := ite_neg h c19
        exact KX11 _ (iter_exit h hc8)
      · replace h := ite_pos h c20
        obtain ⟨g21, h⟩ := grd_some h
        refine s_loadR X 8 rfl dL_reach_16 ?_
        refine s_iload X 0 rfl dL_reach_18 ?_
        refine s_iload_n X 3 rfl dL_reach_20 ?_
        refine s_loadR X 6 rfl dL_reach_21 ?_
        refine s_bipush X (by omega) dL_reach_23 ?_
        refine s_iload_n X 2 rfl dL_reach_25 ?_
        refine s_imul X g21.2.2.1 dL_reach_26 ?_
        refine s_iload X 0 rfl dL_reach_27 ?_
        refine s_iadd X g21.2.2.2.1 dL_reach_29 ?_
        refine s_iald X SHL_457 g21.2.2.2.2.1 g21.2.2.2.2.2.1 dL_reach_30 ?_
        refine s_iadd X g21.2.2.2.2.2.2 dL_reach_31 ?_
        obtain ⟨m_2, e22, h⟩ := ltv_elim h
        refine s_iast X e22 SHL_459 g21.1 g21.2.1 dL_reach_32 ?_
        refine s_loadR X 9 rfl dL_reach_33 ?_
        refine s_iload X 0 rfl dL_reach_35 ?_
        refine s_ldc (z := 1000000) X (by unfold InR; omega) kc_L_116 dL_reach_37 ?_
        obtain ⟨m_3, e24, h⟩ := ltv_elim h
        refine s_iast X e24 SHL_460 g21.1 g21.2.1 dL_reach_39 ?_
        obtain ⟨g25, h⟩ := grd_some h
        obtain ⟨v_3, e26, h⟩ := ltv_elim h
        refine s_iinc X 0 rfl g25 e26 rfl (by omega) dL_reach_40 ?_
        refine s_goto (tgt := 9) X dL_reach_43 (by omega) ?_
        exact ih9 _ _ (iter_next h hc8)
  exact LP10 _ _ _ hl15
