/-! ===== at the law's start ===== -/
theorem inv_start : Inv M0L (offM 455 M0L) := by
  have c : ∀ x i, ¬ x = 0 → ¬ (x = 1 ∧ i = 4) → ¬ (x = 114 ∧ i = 2) → x < 455 → M0L x i = 0 := fun x i h1 h2 h3 h4 => by
    unfold M0L mL m0L
    rw [if_neg h1, if_neg (by omega), if_neg (by omega), if_neg (by omega)]
  have c1 : M0L 1 4 = -1 := by
    unfold M0L mL m0L
    rw [if_neg (by omega), if_neg (by omega), if_pos ⟨rfl, rfl⟩]
  have c2 : M0L 114 2 = -1 := by
    unfold M0L mL m0L
    rw [if_neg (by omega), if_neg (by omega), if_neg (by omega), if_pos ⟨rfl, rfl⟩]
  have d0 : ∀ i, offM 455 M0L 0 i = if i = 5 ∨ i = 21 ∨ i = 29 then -1 else 0 := fun i => by
    unfold offM M0L mL
    rw [if_neg (by omega), if_pos (by omega)]
  have d : ∀ x i, ¬ x = 0 → offM 455 M0L x i = 0 := fun x i h => by
    unfold offM M0L mL m0L
    rw [if_neg (by omega), if_neg (by omega), if_neg (by omega), if_neg (by omega)]
  have z : ∀ i, ¬ (i = 5 ∨ i = 21 ∨ i = 29) → offM 455 M0L 0 i = 0 := fun i h => by rw [d0, if_neg h]
  have z1 : M0L 1 0 = 0 := c 1 0 (by omega) (by omega) (by omega) (by omega)
  have z29 : M0L 29 0 = 0 := c 29 0 (by omega) (by omega) (by omega) (by omega)
  have z31 : M0L 31 0 = 0 := c 31 0 (by omega) (by omega) (by omega) (by omega)
  have z109 : M0L 109 0 = 0 := c 109 0 (by omega) (by omega) (by omega) (by omega)
  have z114 : M0L 114 1 = 0 := c 114 1 (by omega) (by omega) (by omega) (by omega)
  have z355 : M0L 355 4 = 0 := c 355 4 (by omega) (by omega) (by omega) (by omega)
  have z400 : M0L 400 4 = 0 := c 400 4 (by omega) (by omega) (by omega) (by omega)
  have y1 := z 1 (by omega)
  have y6 := z 6 (by omega)
  have y8 := z 8 (by omega)
  have y14 := z 14 (by omega)
  have y19 := z 19 (by omega)
  have y36 := z 36 (by omega)
  have y5 : offM 455 M0L 0 5 = -1 := by rw [d0, if_pos (by omega)]
  have y21 : offM 455 M0L 0 21 = -1 := by rw [d0, if_pos (by omega)]
  have y29 : offM 455 M0L 0 29 = -1 := by rw [d0, if_pos (by omega)]
  refine ⟨⟨by omega, by omega, by omega, c1, y5, fun a ha => by omega, fun a b ha hb => ?_, fun a b ha hb => by omega⟩, ⟨by omega, by omega, by omega, fun s hs => ?_, fun s d' hs hd => ?_⟩, ⟨by omega, by omega, by omega, fun t ht => by omega⟩, ⟨by omega, by omega, by omega, fun k hk => by omega, fun j k hj hk => by omega⟩, ⟨by omega, by omega, by omega, by omega, fun k hk => by omega⟩, ⟨by omega, by omega, by omega, ?_, fun k hk => by omega⟩, ⟨by omega, by omega, by omega, fun k hk => by omega⟩⟩
  · rw [d 2 _ (by omega), c (4 + a) b (by omega) (by omega) (by omega) (by omega)]
    omega
  · rw [c 30 s (by omega) (by omega) (by omega) (by omega)]
    omega
  · rw [d 4 _ (by omega), c 30 s (by omega) (by omega) (by omega) (by omega)]
    unfold bit
    rw [if_neg]
    simp
  · rw [y29, z355, if_pos (by omega)]
theorem st_all : STall Inv := ⟨st_stop, st_setChange, st_walk, st_walkTime, st_service, st_week, st_putDay, st_runsOn, st_nextDay, st_trip, st_call, st_trips, st_calls, st_stopAt, st_timeAt, st_shift, st_type, st_typeNumber, st_erase, st_readRow, st_faultAt, st_late, st_lateness, st_onTime, st_earliest, st_earliestByQueue, st_earliestByRounds, st_wall, st_last, st_chain, st_ride, st_onBoard, st_pairs, st_pair, st_byPairs, st_choices, st_choice, st_holds, st_wish, st_dropWishes, st_waitCost, st_bestWaits, st_lost, st_bridges, st_vehicles, st_vehiclesByMatching, st_gains, st_loses, st_reachShare, st_meanBetween, st_checksum, st_isSound⟩
theorem whole_start {p : Program} {e : Env} {s : State} {m : MethodId} {below : List Frame} {meth : Method} {c : Code} (l : Launch) (hflags : l.flags = flags0) {b L : Nat} {xs : Nat → Int32} (hL : L ≤ 3072) (C0 : lw_At p s m meth c b L xs) : W p l e room_1 s m #[Value.ref b] below meth c s.heap [] 0 0 (lw_Z below #[Value.ref b] s) (entryFrame m ([Value.ref b] : List Value).toArray 9) := whole_of InvC_Inv st_all inv_start l hflags hL C0
