/-! ===== THE LAW'S WALK, over the pure statement ===== -/
def alF (q b : Nat) (al : Nat → Nat) : Nat → Nat := fun i => if i = 0 then q else if i = 461 then b else al (i - 1)
theorem world_L (ta : Nat → ClassId) (q b : Nat) (al : Nat → Nat) (r : Int32) : wsOf SHL ta (alF q b al) (M0L r) = nW ta ([] : List Nat).length q 11 fkT_X11 sL (mL r) (fun _ => []) al := by
  have e1 : (fun i => alF q b al (1 + i)) = fun i => if i = 460 then b else al i := by
    funext i
    unfold alF
    rw [if_neg (by omega)]
    by_cases h : i = 460
    · rw [if_pos (by omega), if_pos h]
    · rw [if_neg (by omega), if_neg h, Nat.add_sub_cancel_left]
  have e2 : offM 1 (M0L r) = mL r := by
    funext c i
    unfold offM M0L
    rw [if_neg (by omega), Nat.add_sub_cancel_left]
  rw [sL_SHL]
  unfold nW
  rw [List.append_nil]
  show ((List.zipIdx _ 0).map _) = _
  rw [List.zipIdx_cons, List.map_cons]
  congr 1
  apply List.ext_getElem?
  intro j
  rw [List.getElem?_map, List.getElem?_zipIdx, List.getElem?_map]
  show _ = (wsOf sL ta al (mL r))[j]?
  cases hj : sL[j]? with
  | none => simp [wsOf, List.getElem?_map, List.getElem?_zipIdx, hj]
  | some sh =>
    rw [wsOf_at hj]
    have hjl : j < 460 := by rw [← sL_len]; exact (List.getElem?_eq_some_iff.mp hj).1
    show some (alF q b al (0 + 1 + j), cel ta (alF q b al) (M0L r) (0 + 1 + j) (shSh 1 sh)) = some (al j, cel ta al (mL r) j sh)
    have hag : ∀ i, i < sL.length → (fun i => if i = 460 then b else al i) i = al i := fun i h => by
      rw [sL_len] at h
      exact if_neg (by omega)
    rw [Nat.zero_add, cel_off, e1, e2, cel_al hag (List.all_eq_true.mp sL_wf sh (List.mem_of_getElem? hj))]
    rw [show alF q b al (1 + j) = (if j = 460 then b else al j) from congrFun e1 j, if_neg (by omega)]
set_option maxHeartbeats 4000000 in
theorem p55_of (hW : ∀ z : Int32, ∃ r, W_law (M0L z) = some r ∧ r.1 = 1) {p : Program} {e : Env} {s : State} {m : MethodId} {below : List Frame} {meth : Method} {c : Code} (l : Launch) (hflags : l.flags = flags0) {b L : Nat} {xs : Nat → Int32} (hL : L ≤ 260) (C0 : lw_At p s m meth c b L xs) : W p l e room_1 s m #[Value.ref b] below meth c s.heap [] 0 0 (lw_Z below #[Value.ref b] s) (entryFrame m ([Value.ref b] : List Value).toArray 14) := by
  obtain ⟨hx, hb, hr, hml, hown, hts, hX, hbl, hlk, hgv⟩ := C0
  obtain ⟨D, ta, hK⟩ := start_K hts
  have ao : AOo s := start_AO hts
  have xb := start_XB hts hgv
  have nc := start_NC hgv
  have hst9 : l.stackTraces = false := by
    show (!l.flags.contains Jvm.noTraceFlag) = false
    rw [hflags]
    decide +kernel
  have hb : c.code = cL_law := hb
  have Xg : ∀ al : Nat → Nat, Cx SHL (l, D, ta, al) room_1 (p, e, s, m, #[Value.ref b], below, meth, c, fun q => s.heap.size ≤ q) cL_law 14 "LastbusLaw" (some .boolean) false := fun al => ⟨hx, hb, hml, hown, ht_U hts, hK, hr, hlk, fun h => (by cases h), xb, hst9, fun q h => h⟩
  rw [lg_entry_eq]
  have hl := lv_entry ([.ref b]) (n := 14) (Nat.le_of_ble_eq_true rfl)
  generalize (lg_sl ([.ref b]) ++ List.replicate (14 - (lg_sl ([.ref b])).length) Slot.unset).toArray = ls at hl ⊢
  have hl : lv_has ls 14 [(0, .ref b)] := hl
  refine va_new (ci := 11) (D := D) (cl := vC) (tys := tysC ta) (ws := []) (A := fun q => s.heap.size ≤ q) hx hb (ht_U hts) inU_X11 tyX11 tyX11_ok hown (ht_U hts _ no_L_8.1) (ht_U hts _ no_L_8.2.1) (ht_U hts _ no_L_8.2.2) hK (fun k q h => by cases h) ⟨fun i j p q h => (by cases h), fun k q h => (by cases h)⟩ va_S.rf (fun q h => h) rfl dfL_X11 (Nat.le_of_ble_eq_true rfl) (Nat.le_of_ble_eq_true rfl) dL_law_0 (fun q H1 hP1 hD1 hS1 => ?_)
  have hnj := law_new (G := (l, D, ta, fun _ => 0)) (Q := lw_Z below #[Value.ref b] s) (C := (p, e, s, m, #[Value.ref b], below, meth, c, fun q => s.heap.size ≤ q)) (b := b) (q := q) (Ls := L) (xs := xs) (Xg _) ao ⟨hX, hbl, fun h => absurd hbl (Nat.not_lt.mpr h)⟩ hL ?_
  · exact hnj (fun _ => 0) H1 [] ls (fun j b hj => by cases hj) hP1 hD1 hS1 (by rw [hml]; exact hl)
  · intro z al H locs ls2 hx9 hP hD hS hl2
    obtain ⟨r, w1, w2⟩ := hW z
    have hj := L_W_law (G := (l, D, ta, alF q b al)) (Q := fun _ => lw_Z below #[Value.ref b] s) (Xg _) nc (M0L z) r w1 w2 (fun L9 m9 => by
      intro a1 a2 a3 H2 locs2 ls3 hP2 hD2 hS2 hl3
      refine va_forget (fun q hq => hS2.2.2 q hq) ?_
      exact lw_ret hx hb hr hlk dL_law_269)
    refine hj (fun x hx => ?_) (fun v hv => by cases hv) (M0L_ok z) H locs ls2 ?_ ?_ hS ?_
    · simp only [List.mem_cons, List.not_mem_nil, or_false] at hx
      rcases hx with rfl | rfl | rfl | rfl | rfl | rfl | rfl | rfl
      all_goals trivial
    · show va_P D vC (wsOf SHL ta (alF q b al) (M0L z)) H
      rw [world_L]
      exact hP
    · show va_D _ (wsOf SHL ta (alF q b al) (M0L z))
      rw [world_L]
      exact hD
    · exact lv_sub hl2 [7, 6, 5, 4, 3, 2, 1, 0] rfl
