/-! ===== P55: the script's fold: it returns, whatever number ===== -/
def rm_L_fold : Room := { frames := 0, cells := 0, slots := 0, locals := 0 }
def foldQ (A : Nat → Prop) : Array Value → State → Outcome → State → Prop := va_Qi (fun _ (_ : Unit) => True) (fun _ _ => True) A
def foldA : Ct → State → Prop := fun C st => match C with
  | (_, _, s, _, args, below, _, _, A0) => MQ below (foldQ A0) args s 0 0 A0 st
def foldP (G : Gl) (b Ls sz : Nat) (xs : Nat → Int32) (U : State) : Prop := U.heap.size = sz ∧ va_K G.2.1 vC (tysC G.2.2.1) U ∧ XB (va_A [] sz) U ∧ G.1.stackTraces = false ∧ va_X b Ls xs U U.heap ∧ b < U.heap.size
section FO
variable {SH : List Sh} {G : Gl} {R : Room} {C : Ct} {L : List (Nat × V)} {b Ls : Nat} {xs : Nat → Int32}
theorem fold_end (X : Cx [] G rm_L_fold C cL_fold 3 "LastbusLaw" (some .int) false) {z : Int} {mm : Mem} : J [] G rm_L_fold (.inr foldA) C 0 0 44 L [VI z] mm := by
  obtain ⟨p, e, s, m, args, below, meth, c, A0⟩ := C
  obtain ⟨hx, hb, hml, hown, hts, hK, hr, hlk, hex, hXB, hst, hA⟩ := X
  intro h1 h2 h3 H locs ls hP hD hS hl
  exact W.iret hx hb hr (fun t ht hW => ⟨⟨i32 z, (), rfl, trivial, trivial⟩, hS.F ht⟩) hS.2.2 dL_fold_44 hlk
set_option maxHeartbeats 1000000 in
theorem fold_loop (X : Cx [] G rm_L_fold C cL_fold 3 "LastbusLaw" (some .int) false) (hs : Scr C b Ls xs) (hz : G.2.2.2 0 = b) (hL : Ls ≤ 3072) {mm : Mem} : ∀ (t : Nat) (i h : Int), 0 ≤ i → (Ls : Int) - i ≤ t → i ≤ Ls → J [] G rm_L_fold (.inr foldA) C 0 0 5 [(2, VI i), (1, VI h), (0, VR 0)] [] mm := by
  intro t
  induction t with
  | zero =>
    intro i h h0 ht hi
    refine s_iload_n X 0 rfl dL_fold_5 ?_
    refine s_load0 X 2 rfl dL_fold_6 ?_
    refine s_slen X hs hz hL dL_fold_7 ?_
    refine s_icmpge_t (tgt := 43) X dL_fold_8 (by omega) (fun _ => ?_) (fun q => absurd (by omega) q)
    refine s_iload_n X 1 rfl dL_fold_43 ?_
    exact fold_end X
  | succ t ih =>
    intro i h h0 ht hi
    refine s_iload_n X 0 rfl dL_fold_5 ?_
    refine s_load0 X 2 rfl dL_fold_6 ?_
    refine s_slen X hs hz hL dL_fold_7 ?_
    refine s_icmpge_t (tgt := 43) X dL_fold_8 (by omega) (fun _ => ?_) (fun q => ?_)
    · refine s_iload_n X 1 rfl dL_fold_43 ?_
      exact fold_end X
    · refine s_ldc (z := 69069) X (by unfold InR; omega) kc_F_95 dL_fold_11 ?_
      refine s_iload_n X 1 rfl dL_fold_13 ?_
      refine s_load0 X 2 rfl dL_fold_14 ?_
      refine s_iload_n X 0 rfl dL_fold_15 ?_
      refine s_sld X hs hz h0 (by omega) dL_fold_16 ?_
      refine s_sipush X (by omega) dL_fold_17 ?_
      refine s_iload_n X 0 rfl dL_fold_20 ?_
      refine s_imul X (by unfold InR; omega) dL_fold_21 ?_
      refine s_iaddW X dL_fold_22 ?_
      refine s_ixor X dL_fold_23 ?_
      refine s_imulW X dL_fold_24 ?_
      refine s_sipush X (by omega) dL_fold_25 ?_
      refine s_iaddW X dL_fold_28 ?_
      refine s_istore_n X rfl rfl (by omega) dL_fold_29 ?_
      refine s_iload_n X 0 rfl dL_fold_30 ?_
      refine s_iload_n X 0 rfl dL_fold_31 ?_
      refine s_bipush X (by omega) dL_fold_32 ?_
      refine s_iushr X dL_fold_34 ?_
      refine s_ixor X dL_fold_35 ?_
      refine s_istore_n X rfl rfl (by omega) dL_fold_36 ?_
      refine s_iinc X 1 rfl (by unfold InR; omega) rfl rfl (by omega) dL_fold_37 ?_
      refine s_goto (tgt := 5) X dL_fold_40 (by omega) ?_
      exact ih (i + 1) _ (by omega) (by omega) (by omega)
end FO
theorem fold_met (G : Gl) {b Ls : Nat} {xs : Nat → Int32} (hL : Ls ≤ 260) (sz : Nat) : Met G.1 yL_fold (Cond.code yL_fold cL_fold 3 (some .int) :: lw_U) rm_L_fold (va_Pc [.ref b] (foldP G b Ls sz xs)) (foldQ (va_A [] sz)) 0 0 (va_A [] sz) := by
  refine Met.ofW (cc := cL_fold) (maxL := 3) (ret := some .int) (by decide) rfl ?_
  intro p e s m args below meth c s₁ B hml hv
  obtain ⟨rfl, hsz, hK, hXB, hst, hX, hbl⟩ := hv
  have hts := atoms_spec (ws := Cond.code yL_fold cL_fold 3 (some .int) :: lw_U) B.pre
  obtain ⟨G1, hG1⟩ : ∃ G1 : Gl, G1 = (G.1, G.2.1, G.2.2.1, fun _ => b) := ⟨_, rfl⟩
  have X : Cx [] G1 rm_L_fold (p, e, s, m, [Value.ref b].toArray, below, meth, c, va_A [] sz) cL_fold 3 "LastbusLaw" (some .int) false := by
    rw [hG1]
    exact ⟨B.exec, B.bytes, hml, findClass_of_methodNamed B.named, fun w hw => hts w (List.mem_cons_of_mem _ hw), hK, B.returns, B.notSynchronized, fun h => (by cases h), hXB, hst, fun q h => Or.inr (hsz ▸ h)⟩
  have hs : Scr (p, e, s, m, [Value.ref b].toArray, below, meth, c, va_A [] sz) b Ls xs := ⟨hX, hbl, fun h => h.elim (fun ⟨j, e9, hj⟩ => by cases hj) (fun h => by omega)⟩
  have hl := lv_entry ([.ref b]) (n := 3) (Nat.le_of_ble_eq_true rfl)
  have hj : J [] G1 rm_L_fold (.inr foldA) (p, e, s, m, [Value.ref b].toArray, below, meth, c, va_A [] sz) 0 0 0 [(0, VR 0)] [] (fun _ _ => 0) := by
    refine s_bipush X (by omega) dL_fold_0 ?_
    refine s_istore_n X rfl rfl (by omega) dL_fold_2 ?_
    refine s_const X (by unfold InR; omega) dL_fold_3 ?_
    refine s_istore_n X rfl rfl (by omega) dL_fold_4 ?_
    exact fold_loop X hs (by rw [hG1]) (by omega) Ls 0 7 (by omega) (by omega) (by omega)
  have hw0 : ∀ tys al k q, (wsOf [] tys al (fun _ _ => 0))[k]? = some q → False := fun tys al k q hk => by rw [show wsOf [] tys al (fun _ _ => 0) = [] from rfl, List.getElem?_nil] at hk; cases hk
  rw [lg_entry_eq]
  subst hG1
  refine hj (fun x hx => ?_) (fun v h => by cases h) (fun c i => show InR 0 by unfold InR; omega) s.heap [] _ (fun k q hk => (hw0 _ _ k q hk).elim) ⟨fun i j p q hi => (hw0 _ _ i p hi).elim, fun k q hk => (hw0 _ _ k q hk).elim⟩ va_S.rf (by show lv_has _ c.maxLocals _; rw [hml]; exact hl)
  rw [List.mem_singleton.mp hx]
  trivial
theorem foldP_blind {G : Gl} {b Ls sz : Nat} {xs : Nat → Int32} {As : List Value} : FrameBlind (va_Pc As (foldP G b Ls sz xs)) := by
  intro a U g mk h
  obtain ⟨h0, h1, hK, ⟨x1, x2, x3, x4⟩, h5, h6, h7⟩ := h
  exact ⟨h0, h1, va_K.moved (u := U) (U := U.calling g mk a) (Vm.Alike.refl U.vm) hK, ⟨vx_Zq.moved (u := U) (U := U.calling g mk a) (Vm.Alike.refl U.vm) x1, vx_Zq.moved (u := U) (U := U.calling g mk a) (Vm.Alike.refl U.vm) x2, fun q hq => (x3 q hq).imp fun _ z => vk_R.same (u := U) (U := U.calling g mk a) rfl z, fun w hw => va_Nw.same (u := U) (U := U.calling g mk a) (by
    have := (List.mem_filter.mp hw).2
    cases w <;> first | rfl | (simp [isD] at this)) rfl (x4 w hw)⟩, h5, va_X.moved (u := U) (U := U.calling g mk a) (Vm.Alike.refl U.vm) h6, h7⟩
