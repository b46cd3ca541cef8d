/-! ===== THE LAW FROM ITS START ===== -/
theorem no_L_8 : Cond.classLink "LastbusLaw" 8 "Lastbus" ∈ lw_U ∧ Cond.instantiable "Lastbus" 11 ∈ lw_U ∧ Cond.initialized "Lastbus" ∈ lw_U := ⟨lw_Uin (i := 56) (by decide +kernel) rfl, lw_Uin (i := 57) (by decide +kernel) rfl, lw_Uin (i := 32) (by decide +kernel) rfl⟩
theorem dfL_X11 : ∀ j, j < 11 → defaultValue (tyX11 j) = vp_V [.null, .null, .null, .null, .null, .null, .null, .null, .null, .null, .null] j := by
  intro j hj
  match j, hj with
  | 0, _ => rfl
  | 1, _ => rfl
  | 2, _ => rfl
  | 3, _ => rfl
  | 4, _ => rfl
  | 5, _ => rfl
  | 6, _ => rfl
  | 7, _ => rfl
  | 8, _ => rfl
  | 9, _ => rfl
  | 10, _ => rfl
  | j + 11, h => exact absurd h (by omega)
theorem ci_L_163 : CIk "LastbusLaw" 163 yX11_init cX11_init 1 0 := ⟨Or.inr (lw_Uin (i := 58) (by decide +kernel) rfl), lw_Uin (i := 59) (by decide +kernel) rfl, lw_Uin (i := 32) (by decide +kernel) rfl, cd_X11_init, rfl, ⟨by decide +kernel, by decide +kernel, by decide +kernel⟩⟩
set_option maxRecDepth 100000 in
theorem cw_L_164 : CSk "LastbusLaw" 164 yL_fold cL_fold 3 (some .int) 1 := ⟨lw_Uin (i := 800) (by decide +kernel) rfl, lw_Uin (i := 801) (by decide +kernel) rfl, lw_Uin (i := 31) (by decide +kernel) rfl, lw_Uin (i := 802) (rfl) rfl, ⟨by decide +kernel, by decide +kernel, by decide +kernel⟩⟩
/-- the law's cells but the head: the class's, then its own arrays -/
def sL : List Sh := SN_X11 ++ [.inr (0, 1, none), .inr (0, 7, none), .inr (0, 36, none), .inr (0, 127, none), .inr (0, 6, none), .inr (0, 6, none)]
theorem sL_len : sL.length = 460 := by decide +kernel
theorem sL_wf : wfS sL = true := by decide +kernel
theorem sL_SHL : SHL = (.inl (11, [some 1, some 29, some 31, some 109, some 114, some 119, some 345, some 355, some 400, some 431, some 442]) : Sh) :: sL.map (shSh 1) := by decide +kernel
def mL (z : Int32) : Mem := setM m0L 454 0 z.toInt
theorem mL_lo {z : Int32} {c i : Nat} (h : c ≠ 454) : mL z c i = m0L c i := setM_cell _ _ _ _ h
/-- the first memory of the law -/
def M0L (z : Int32) : Mem := fun c i => if c = 0 then 0 else mL z (c - 1) i
theorem M0L_ok (z : Int32) : okM (M0L z) := by
  intro c i
  unfold M0L mL setM m0L
  repeat' split
  all_goals first | exact InR_of z | exact ⟨by omega, by omega⟩
theorem n_wid {G : Gl} {R : Room} {Q : State → Prop} {C : Ct} {ex : List Nat} {a ci k n k' n' pc : Nat} {L : List (Nat × FV)} {st fk : List FV} {S : List Sh} {m : Mem} {pd : (Nat → Nat) → va_W} (h1 : k ≤ k') (h2 : n ≤ n') (kk : NJ G R Q C ex a ci k' n' pc L st fk S m pd) : NJ G R Q C ex a ci k n pc L st fk S m pd := by
  obtain ⟨p, e, s, m9, args, below, meth, c, A0⟩ := C
  exact fun al H locs ls a1 a2 a3 a4 a5 => W.widen h1 h2 (kk al H locs ls a1 a2 a3 a4 a5)
section WS
set_option maxRecDepth 100000 in
set_option maxHeartbeats 4000000 in
theorem law_new {G : Gl} {Q : State → Prop} {C : Ct} {b q Ls : Nat} {xs : Nat → Int32} (X : Cx SHL G room_1 C cL_law 14 "LastbusLaw" (some .boolean) false) (ao : AOc C) (hs : Scr C b Ls xs) (hLs : Ls ≤ 260)
    (kk : ∀ r : Int32, NJ G room_1 Q C [] q 11 3400 20400 48 [(7, .inr 459), (6, .inr 458), (5, .inr 457), (4, .inr 456), (3, .inr 455), (2, .inr 454), (1, .inl (.ref q)), (0, .inl (.ref b))] [] fkT_X11 sL (mL r) (fun _ => [])) : NJ G room_1 Q C [] q 11 1 11 3 [(0, .inl (.ref b))] [.inl (.ref q)] (List.map Sum.inl [.null, .null, .null, .null, .null, .null, .null, .null, .null, .null, .null]) [] m0L (fun _ => []) := by
  refine n_dup X dL_law_3 ?_
  refine n_head (dfs := [.null, .null, .null, .null, .null, .null, .null, .null, .null, .null, .null]) (fkc := fkT_X11) (Sc := SN_X11) (mc := m0L) X ao ci_L_163 (N_X11 G [] rfl) (fun _ _ _ => rfl) rfl rfl ⟨Nat.le_of_ble_eq_true rfl, Nat.le_of_ble_eq_true rfl⟩ ⟨Nat.le_of_ble_eq_true rfl, Nat.le_of_ble_eq_true rfl⟩ (fun _ => Nat.le_of_ble_eq_true rfl) dL_law_4 ?_
  refine n_astore (i := 1) (L' := [(1, .inl (.ref q)), (0, .inl (.ref b))]) X (fun _ => ⟨_, rfl⟩) rfl (fun _ => rfl) (by decide) dL_law_7 ?_
  refine n_const X dL_law_8 ?_
  refine n_newa (t := 0) (N := 1) X (at9 := .int) (ty := .int) rfl rfl (fun _ _ => Iff.rfl) ac_int (fun _ => rfl) (by omega) (by decide) (fun i => m0L_z (c := 454) (by omega) (by omega)) (Nat.le_of_ble_eq_true rfl) rfl (fun _ _ _ => rfl) (Nat.le_of_ble_eq_true rfl) (Nat.le_of_ble_eq_true rfl) dL_law_9 ?_
  refine n_dupI X dL_law_11 ?_
  refine n_const X dL_law_12 ?_
  refine n_load X 1 rfl dL_law_13 ?_
  refine n_fold (st0 := [.inl (.int (i32 0)), .inr 454, .inr 454]) X cw_L_164 hs hLs rfl ⟨Nat.le_of_ble_eq_true rfl, Nat.le_of_ble_eq_true rfl⟩ ⟨Nat.le_of_ble_eq_true rfl, Nat.le_of_ble_eq_true rfl⟩ (fun _ => Nat.le_of_ble_eq_true rfl) dL_law_14 (fun r => ?_)
  refine n_iast0 (id := 454) (N := 1) (v := r) X rfl rfl (by omega) dL_law_17 ?_
  refine n_astore (i := 2) (L' := [(2, .inr 454), (1, .inl (.ref q)), (0, .inl (.ref b))]) X (fun _ => ⟨_, rfl⟩) rfl (fun _ => rfl) (by decide) dL_law_18 ?_
  refine n_bipush X (by omega) dL_law_19 ?_
  refine n_newa (t := 0) (N := 7) X (at9 := .int) (ty := .int) rfl rfl (fun _ _ => Iff.rfl) ac_int (fun _ => rfl) (by omega) (by decide) (fun i => (mL_lo (c := 455) (by omega)).trans (m0L_z (by omega) (by omega))) (Nat.le_of_ble_eq_true rfl) rfl (fun _ _ _ => rfl) (Nat.le_of_ble_eq_true rfl) (Nat.le_of_ble_eq_true rfl) dL_law_21 ?_
  refine n_astore (i := 3) (L' := [(3, .inr 455), (2, .inr 454), (1, .inl (.ref q)), (0, .inl (.ref b))]) X (fun _ => ⟨_, rfl⟩) rfl (fun _ => rfl) (by decide) dL_law_23 ?_
  refine n_bipush X (by omega) dL_law_24 ?_
  refine n_newa (t := 0) (N := 36) X (at9 := .int) (ty := .int) rfl rfl (fun _ _ => Iff.rfl) ac_int (fun _ => rfl) (by omega) (by decide) (fun i => (mL_lo (c := 456) (by omega)).trans (m0L_z (by omega) (by omega))) (Nat.le_of_ble_eq_true rfl) rfl (fun _ _ _ => rfl) (Nat.le_of_ble_eq_true rfl) (Nat.le_of_ble_eq_true rfl) dL_law_26 ?_
  refine n_astoreW (L' := [(4, .inr 456), (3, .inr 455), (2, .inr 454), (1, .inl (.ref q)), (0, .inl (.ref b))]) X (fun _ => ⟨_, rfl⟩) rfl (fun _ => rfl) (by decide) dL_law_28 ?_
  refine n_bipush X (by omega) dL_law_30 ?_
  refine n_newa (t := 0) (N := 127) X (at9 := .int) (ty := .int) rfl rfl (fun _ _ => Iff.rfl) ac_int (fun _ => rfl) (by omega) (by decide) (fun i => (mL_lo (c := 457) (by omega)).trans (m0L_z (by omega) (by omega))) (Nat.le_of_ble_eq_true rfl) rfl (fun _ _ _ => rfl) (Nat.le_of_ble_eq_true rfl) (Nat.le_of_ble_eq_true rfl) dL_law_32 ?_
  refine n_astoreW (L' := [(5, .inr 457), (4, .inr 456), (3, .inr 455), (2, .inr 454), (1, .inl (.ref q)), (0, .inl (.ref b))]) X (fun _ => ⟨_, rfl⟩) rfl (fun _ => rfl) (by decide) dL_law_34 ?_
  refine n_bipush X (by omega) dL_law_36 ?_
  refine n_newa (t := 0) (N := 6) X (at9 := .int) (ty := .int) rfl rfl (fun _ _ => Iff.rfl) ac_int (fun _ => rfl) (by omega) (by decide) (fun i => (mL_lo (c := 458) (by omega)).trans (m0L_z (by omega) (by omega))) (Nat.le_of_ble_eq_true rfl) rfl (fun _ _ _ => rfl) (Nat.le_of_ble_eq_true rfl) (Nat.le_of_ble_eq_true rfl) dL_law_38 ?_
  refine n_astoreW (L' := [(6, .inr 458), (5, .inr 457), (4, .inr 456), (3, .inr 455), (2, .inr 454), (1, .inl (.ref q)), (0, .inl (.ref b))]) X (fun _ => ⟨_, rfl⟩) rfl (fun _ => rfl) (by decide) dL_law_40 ?_
  refine n_bipush X (by omega) dL_law_42 ?_
  refine n_newa (t := 0) (N := 6) X (at9 := .int) (ty := .int) rfl rfl (fun _ _ => Iff.rfl) ac_int (fun _ => rfl) (by omega) (by decide) (fun i => (mL_lo (c := 459) (by omega)).trans (m0L_z (by omega) (by omega))) (Nat.le_of_ble_eq_true rfl) rfl (fun _ _ _ => rfl) (Nat.le_of_ble_eq_true rfl) (Nat.le_of_ble_eq_true rfl) dL_law_44 ?_
  refine n_astoreW (L' := [(7, .inr 459), (6, .inr 458), (5, .inr 457), (4, .inr 456), (3, .inr 455), (2, .inr 454), (1, .inl (.ref q)), (0, .inl (.ref b))]) X (fun _ => ⟨_, rfl⟩) rfl (fun _ => rfl) (by decide) dL_law_46 ?_
  exact n_wid (Nat.le_of_ble_eq_true rfl) (Nat.le_of_ble_eq_true rfl) (kk r)
end WS
