/-! ===== P55: rows for the law's start: an array's first element, the fold ===== -/
section NG
variable {SH : List Sh} {G : Gl} {R : Room} {Q : State → Prop} {C : Ct} {ex : List Nat} {a ci k n pc : Nat} {L : List (Nat × FV)} {st fk : List FV} {S : List Sh} {m : Mem} {pd : (Nat → Nat) → va_W} {cc : ByteArray} {nL : Nat} {own : String} {ret : Option FieldType} {nx : Bool}
theorem n_dupI (X : Cx SH G R C cc nL own ret nx) {b : Nat} (d : decode cc pc = .ok (.dup, 1)) (kk : NJ G R Q C ex a ci k n (pc + 1) L (.inr b :: .inr b :: st) fk S m pd) : NJ G R Q C ex a ci k n pc L (.inr b :: st) fk S m pd := by
  obtain ⟨p, e, s, m9, args, below, meth, c, A0⟩ := C
  obtain ⟨hx, hb, -⟩ := X
  intro al H locs ls hx9 hP hD hS hl
  exact lv_dup hx hb d rfl (kk al H locs ls hx9 hP hD hS hl)
theorem n_iast0 (X : Cx SH G R C cc nL own ret nx) {id N : Nat} {v : Int32} (hex0 : ex = []) (hs : S[id]? = some (.inr (0, N, none))) (hN : 0 < N) (d : decode cc pc = .ok (.iastore, 1))
    (kk : NJ G R Q C ex a ci k n (pc + 1) L st fk S (setM m id 0 v.toInt) pd) : NJ G R Q C ex a ci k n pc L (.inl (.int v) :: .inl (.int (i32 0)) :: .inr id :: st) fk S m pd := by
  subst hex0
  obtain ⟨p, e, s, m9, args, below, meth, c, A0⟩ := C
  obtain ⟨hx, hb, hml, hown, hts, hK, hr, hlk, hex, hXB, hst, hA⟩ := X
  intro al H locs ls hx9 hP hD hS hl
  have hid : id < S.length := (List.getElem?_eq_some_iff.mp hs).1
  have e0 : ∀ m1 : Mem, nW G.2.2.1 ([] : List Nat).length a ci fk S m1 pd al = (a, .inr (ci, fk.map (fvv al))) :: (wsOf S G.2.2.1 al m1 ++ pd al) := fun m1 => by
    unfold nW
    rfl
  have hat : (nW G.2.2.1 ([] : List Nat).length a ci fk S m pd al)[id + 1]? = some (al id, .inl (G.2.2.1 0, N, .inl (fun j => i32 (m id j)))) := by
    rw [e0, List.getElem?_cons_succ, List.getElem?_append_left (by rw [wsOf_len]; exact hid), wsOf_at hs]
    rfl
  refine va_iast (D := G.2.1) hx hb hK hP hD hS (id + 1) 0 hat rfl (i32_in (n := N) (by omega) (by omega) ⟨by omega, by omega⟩) d (fun H1 locs1 hP1 hD1 hS1 => ?_)
  have e1 : (nW G.2.2.1 ([] : List Nat).length a ci fk S m pd al).set (id + 1) (al id, .inl (G.2.2.1 0, N, .inl (upd (fun j => i32 (m id j)) (i32 0).toNatClampNeg v))) = nW G.2.2.1 ([] : List Nat).length a ci fk S (setM m id 0 v.toInt) pd al := by
    rw [e0, e0, List.set_cons_succ, List.set_append_left _ _ (by rw [wsOf_len]; exact hid)]
    congr 2
    have e2 : v = i32 v.toInt := (i32_of v).symm
    rw [show (i32 0).toNatClampNeg = 0 by decide, e2, upd_set, ← e2]
    exact wsOf_set (m := m) (m' := setM m id 0 v.toInt) hs (fun c hc j => setM_cell m id _ v.toInt hc)
  rw [e1] at hP1 hD1
  exact kk al H1 locs1 ls hx9 hP1 hD1 hS1 hl
theorem n_fold (X : Cx SH G R C cc nL own ret nx) {i b Ls : Nat} {xs : Nat → Int32} {st0 : List FV} (cw : CSk own i yL_fold cL_fold 3 (some .int) 1) (hs : Scr C b Ls xs) (hL : Ls ≤ 260) (hst : st = .inl (.ref b) :: st0)
    (hR : 0 + 1 ≤ R.frames ∧ 8 + (3 + 11) + 0 ≤ R.locals) (hcs : k + 0 ≤ R.cells ∧ n + 0 ≤ R.slots) (hcat : ∀ al : Nat → Nat, ((st0.map (fvv al)).map fun v => v.category).sum ≤ 8) (d : decode cc pc = .ok (.invokestatic i, 3))
    (kk : ∀ r : Int32, NJ G R Q C ex a ci k n (pc + 3) L (.inl (.int r) :: st0) fk S m pd) : NJ G R Q C ex a ci k n pc L st fk S m pd := by
  obtain ⟨p, e, s, m9, args, below, meth, c, A0⟩ := C
  obtain ⟨hx, hb, hml, hown, hts, hK, hr, hlk, hex, hXB, hst9, hA⟩ := X
  intro al H locs ls hx9 hP hD hS hl
  obtain ⟨c1, c3, c4, c5, c6⟩ := cw
  obtain ⟨y1, y2, y3⟩ := hs
  subst hst
  have hAA : ∀ z, va_A [] H.size z → A0 z := fun z h => h.elim (fun ⟨j, e9, hj⟩ => by cases hj) (fun h => hA z (Nat.le_trans hS.1 h))
  have hpre : PreS s H (va_Pc [Value.ref b] (foldP G b Ls H.size xs)) [Value.ref b] := ⟨foldP_blind, fun U hU hW => ⟨rfl, by rw [hU], va_K.moved hW.alike hK, XB_call hXB hS hAA hU hW, hst9, by rw [hU]; exact va_X.moved hW.alike (y1.kept (hS.2.1 b y2 y3)), by rw [hU]; exact Nat.lt_of_lt_of_le y2 hS.1⟩⟩
  have hrun := va_runS (mc := 0) (ms := 0) (R := R) (p := p) (l := G.1) (e := e) (below := below) (meth := meth) (locs := locs) (cells := k) (slots := n) (rest := st0.map (fvv al)) (As := [Value.ref b]) (n := 1) (g := F0 m9 pc ls ((.inl (.ref b) :: st0 : List FV).map (fvv al))) ⟨hx, hb, hml, hown, hts⟩ (fold_met G hL H.size) ⟨callB_of 1 hts (gUc c5) rfl rfl rfl (hts _ c4) (hts _ c1) c6 hR, hts _ c3⟩ hpre rfl rfl (by show ls.size = nL; rw [hl.1, hml]) (by simp [fvv, F0]) (by have := hcat al; show 2 * 0 + _ ≤ 8; omega) d hcs
  refine va_calli (A1 := va_A [] H.size) hrun hS (fun z _ h => hAA z h) hAA ?_
  intro r u t H1 locs1 ht hal hp hB hz hk9 hS1
  exact kk r al H1 locs1 ls hx9 (hP.kept (fun j x hj => hk9 x.1 (hP j x hj).lt (fun h => h.elim (fun ⟨j, e9, hj⟩ => by cases hj) (fun h9 => absurd (hP j x hj).lt (Nat.not_lt.mpr h9))))) hD hS1 hl
end NG
