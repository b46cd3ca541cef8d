/-! ===== P55: at the law's start ===== -/
def gM : Mem := fun c i => if c = 0 ∧ (i = 5 ∨ i = 21 ∨ i = 29) then -1 else 0
theorem inv_start (r : Int32) : Inv (M0L r) gM := by
  have c : ∀ x i, ¬ x = 0 → ¬ (x = 1 ∧ i = 4) → ¬ (x = 114 ∧ i = 2) → x < 455 → M0L r x i = 0 := fun x i h1 h2 h3 h4 => by
    unfold M0L mL setM m0L
    rw [if_neg h1, if_neg (by omega), if_neg (by omega), if_neg (by omega)]
  have c1 : M0L r 1 4 = -1 := by
    unfold M0L mL setM m0L
    rw [if_neg (by omega), if_neg (by omega), if_pos ⟨rfl, rfl⟩]
  have c2 : M0L r 114 2 = -1 := by
    unfold M0L mL setM m0L
    rw [if_neg (by omega), if_neg (by omega), if_neg (by omega), if_pos ⟨rfl, rfl⟩]
  have d : ∀ x i, ¬ (x = 0 ∧ (i = 5 ∨ i = 21 ∨ i = 29)) → gM x i = 0 := fun x i h => if_neg h
  have z : ∀ i, ¬ (i = 5 ∨ i = 21 ∨ i = 29) → gM 0 i = 0 := fun i h => d 0 i (by omega)
  have z1 : M0L r 1 0 = 0 := c 1 0 (by omega) (by omega) (by omega) (by omega)
  have z29 : M0L r 29 0 = 0 := c 29 0 (by omega) (by omega) (by omega) (by omega)
  have z31 : M0L r 31 0 = 0 := c 31 0 (by omega) (by omega) (by omega) (by omega)
  have z109 : M0L r 109 0 = 0 := c 109 0 (by omega) (by omega) (by omega) (by omega)
  have z114 : M0L r 114 1 = 0 := c 114 1 (by omega) (by omega) (by omega) (by omega)
  have z355 : M0L r 355 4 = 0 := c 355 4 (by omega) (by omega) (by omega) (by omega)
  have z400 : M0L r 400 4 = 0 := c 400 4 (by omega) (by omega) (by omega) (by omega)
  have y1 := z 1 (by omega)
  have y6 := z 6 (by omega)
  have y8 := z 8 (by omega)
  have y14 := z 14 (by omega)
  have y19 := z 19 (by omega)
  have y36 := z 36 (by omega)
  have y5 : gM 0 5 = -1 := if_pos (by omega)
  have y21 : gM 0 21 = -1 := if_pos (by omega)
  have y29 : gM 0 29 = -1 := if_pos (by omega)
  refine ⟨⟨by omega, by omega, by omega, c1, y5, fun a ha => by omega, fun a b ha hb => ?_, fun a b ha hb => by omega⟩, ⟨by omega, by omega, by omega, fun s hs => ?_, fun s d' hs hd => ?_⟩, ⟨by omega, by omega, by omega, fun t ht => by omega⟩, ⟨by omega, by omega, by omega, fun k hk => by omega, fun j k hj hk => by omega⟩, ⟨by omega, by omega, by omega, by omega, fun k hk => by omega⟩, ⟨by omega, by omega, by omega, ?_, fun k hk => by omega⟩, ⟨by omega, by omega, by omega, fun k hk => by omega⟩⟩
  · rw [d 2 _ (by omega), c (4 + a) b (by omega) (by omega) (by omega) (by omega)]
    omega
  · rw [c 30 s (by omega) (by omega) (by omega) (by omega)]
    omega
  · rw [d 4 _ (by omega), c 30 s (by omega) (by omega) (by omega) (by omega)]
    unfold bit
    rw [if_neg]
    simp
  · rw [y29, z355, if_pos (by omega)]
theorem law_true (r : Int32) : ∃ x, W_law (M0L r) = some x ∧ x.1 = 1 := law_ok (inv_start r) (if_neg (by omega)) (if_neg (by omega)) (if_neg (by omega)) (if_neg (by omega)) (fun i => if_neg (by omega)) (fun i => if_neg (by omega))
theorem whole_start {p : Program} {e : Env} {s : State} {m : MethodId} {below : List Frame} {meth : Method} {c : Code} (l : Launch) (hflags : l.flags = flags0) {b L : Nat} {xs : Nat → Int32} (hL : L ≤ 260) (C0 : lw_At p s m meth c b L xs) : W p l e room_1 s m #[Value.ref b] below meth c s.heap [] 0 0 (lw_Z below #[Value.ref b] s) (entryFrame m ([Value.ref b] : List Value).toArray 14) := p55_of law_true l hflags hL C0
